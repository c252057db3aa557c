/-! ===== laws read by the model: operands and brackets ===== -/
theorem exA_not {X : abX} {p b c : Int} {W T o : List Int} (hb : b ≠ 0) (h13 : lxW X p = 13) (hc : c ≠ 6) : exA X p W T o b c = (0, lxE X p, 3 :: W, T, o, b, c + 1) := by
  unfold exA
  rw [if_pos ⟨hb, h13⟩, if_neg hc]
theorem exA_not6 {X : abX} {p b c : Int} {W T o : List Int} (hb : b ≠ 0) (h13 : lxW X p = 13) (hc : c = 6) : exA X p W T o b c = exFl 2 (lxB X p) := by
  unfold exA
  rw [if_pos ⟨hb, h13⟩, if_pos hc]
theorem exA_op {X : abX} {p b c : Int} {W T o : List Int} (h40 : lxK X p = 40) : exA X p W T o b c = if T.length < 6 then (0, lxE X p, 14 :: W, 0 :: T, o, 1, 0) else exFl (if lxK X (lxE X p) = 3 ∨ lxK X (lxE X p) = 2 ∨ lxK X (lxE X p) = 40 then 2 else 1) (lxB X (lxE X p)) := by
  unfold exA
  have : ¬ (b ≠ 0 ∧ lxW X p = 13) := fun z => by
    have := lxW_2 (X := X) (p := p) (by omega)
    omega
  rw [if_neg this, if_pos h40]
def mOg (X : abX) (a0 : Nat) (s0 : exS) (p0 p : Int) (W T o : List Int) (b c : Int) (σ σ' : slM) : Prop := mEF σ σ' ∧ exRe X s0 (0, p, W, T, o, b, c) ∧ mPi X a0 0 0 p W T o σ' ∧ p0 ≤ p
set_option maxHeartbeats 1000000 in
set_option maxRecDepth 4000 in
theorem sp_X12_operand {G : slG} (hG : slGood G) {d K : Nat} (hd : 12 ≤ d) (hK : 0 ≤ K) {Φ : slPost} {σ : slM} {x1 : Int} {X : abX} {a0 : Nat} {p : Int} {W T o : List Int} (hX : gdX X) (P : mPi X a0 0 0 p W T o σ) (h1 : x1 = 0 ∨ x1 = 1) (hf : ∀ τ k q, mEF σ τ → exRe X (0, p, W, T, o, x1, 0) (exFl k q) → mFa 5 k q τ → Φ (0, 0) τ) (hg : ∀ τ p' W' T' o', mEF σ τ → exRe X (0, p, W, T, o, x1, 0) (1, p', W', T', o', 0, 0) → mPi X a0 0 0 p' W' T' o' τ → p < p' → Φ (0, 0) τ) :
    slCall G mX12_operand d K [sR 12 0, sI x1] σ Φ := by
  refine vc_X12_operand hG (by omega) hK (fun μ y2 y3 σ' => (∃ k q, mEF σ σ' ∧ exRe X (0, p, W, T, o, x1, 0) (exFl k q) ∧ mFa 5 k q σ' ∧ (y3 = 0 ∨ y3 = 1) ∧ μ = (0, y3.toNat * 2, 0)) ∨ (∃ p' W' T' o', mOg X a0 (0, p, W, T, o, x1, 0) p p' W' T' o' y2 0 σ σ' ∧ (y2 = 0 ∨ y2 = 1) ∧ y3 = 1 ∧ μ = ((X.2 - p').toNat + 1, 2, 0)) ∨ (∃ p' W' T' o' c, mOg X a0 (0, p, W, T, o, x1, 0) p p' W' T' o' y2 c σ σ' ∧ y3 = 0 ∧ ¬ (y2 ≠ 0 ∧ lxW X p' = 13) ∧ lxK X p' ≠ 40 ∧ μ = ((X.2 - p').toNat + 1, 0, 0))) (fun μ y2 y3 y4 σ' => (∃ k q, mEF σ σ' ∧ exRe X (0, p, W, T, o, x1, 0) (exFl k q) ∧ mFa 5 k q σ' ∧ μ = (0, 1, 0)) ∨ (∃ p' W' T' o', mOg X a0 (0, p, W, T, o, x1, 0) p p' W' T' o' y2 y4 σ σ' ∧ (y2 = 0 ∨ y2 = 1) ∧ (0 ≤ y4 ∧ y4 ≤ 6) ∧ μ = ((X.2 - p').toNat + 1, 1, 0))) ?_ ?_ ?_
  · exact ⟨_, Or.inr (Or.inl ⟨p, W, T, o, ⟨mEF.id, exRe.rf, P, Int.le_refl _⟩, h1, rfl, rfl⟩)⟩
  · rintro μ y2 y3 σ' (⟨k, q, f, re, F, hy, rfl⟩ | ⟨p', W', T', o', ⟨f, re, P', le⟩, hy2, hy3, rfl⟩ | ⟨p', W', T', o', c, ⟨f, re, P', le⟩, hy3, nb, n40, rfl⟩)
    · exact ⟨⟨by omega, by omega⟩, fun z => sp_partf hG (by omega) F (slKt.ok (hf _ _ _ f re F)), fun z => sp_bd hG F (slKt.ok ⟨in0, fun _ => sp_partf hG (by omega) F (slKt.ok (hf _ _ _ f re F)), fun w => absurd rfl w⟩)⟩
    · refine ⟨⟨by omega, by omega⟩, fun z => by omega, fun z => sp_good hG P'.2.2.2.2.2.1 (slKt.ok ⟨in1, fun w => absurd w (by decide), fun _ => ⟨_, ?_, Or.inr ⟨p', W', T', o', ⟨f, re, P', le⟩, hy2, by decide, rfl⟩⟩⟩)⟩
      exact Or.inr ⟨rfl, Or.inl (by show 1 < 2; decide)⟩
    · refine ⟨⟨by omega, by omega⟩, fun z => ?_, fun z => by omega⟩
      exact sp_X12_part hG (by omega) (by omega) hX P' nb n40 (fun τ k q f2 e F => slKt.ok (hf τ k q (f.tr f2) (re.st (exStep_0.trans e)) F)) (fun τ p2 o2 f2 e P2 lt => slKt.ok (hg τ p2 W' T' o2 (f.tr f2) (re.st (exStep_0.trans e)) P2 (by omega)))
  · rintro μ y2 y3 y4 σ' (⟨k, q, f, re, F, rfl⟩ | ⟨p', W', T', o', ⟨f, re, P', le⟩, hy2, hy4, rfl⟩)
    · refine sp_bd hG F (slKt.ok ⟨in0, fun _ => sp_bd hG F (slKt.ok ⟨in0, fun _ => ⟨(0, 0, 0), Or.inr ⟨rfl, Or.inl (by show 0 < 1; decide)⟩, Or.inl ⟨k, q, f, re, F, Or.inl rfl, rfl⟩⟩, fun w => absurd rfl w⟩), fun w => absurd rfl w⟩)
    · have g := P'.2.2.2.2.2.1
      have hp := P'.2.2.2.2.2.2.1
      have lt2 : ∀ {p2 : Int}, p' < p2 → p2 ≤ X.2 → (X.2 - p2).toNat + 1 < (X.2 - p').toNat + 1 := fun h1 h2 => by omega
      have wr := lxW_r (X := X) (p := p')
      suffices blk : ¬ (y2 ≠ 0 ∧ lxW X p' = 13) → _ from sp_good hG g (slKt.ok ⟨in1, fun w => absurd w (by decide), fun _ => ⟨⟨by omega, by omega⟩, fun z => blk (by omega), fun z => sp_X12_knownWord hG (by omega) (by omega) hX hp P'.1 (slKt.ok ⟨⟨by omega, by omega⟩, fun w => blk (by omega), fun w13 => ⟨⟨by omega, by omega⟩, fun n6 => sp_good hG g (slKt.ok ⟨in1, fun _ => sp_wt hG (by omega) hX P' (by decide) (fun τ1 f1 P1 => slKt.ok (sp_go hG (by omega) hX P1 (by decide) (by omega) (fun τ2 f2 P2 lt => slKt.ok ⟨_, Or.inl (lt2 lt P2.2.2.2.2.2.2.1.2), Or.inr ⟨lxE X p', 3 :: W', T', o', ⟨(f.tr f1).tr f2, re.st (exStep_0.trans (exA_not z w13 n6)), P2, by omega⟩, hy2, by omega, rfl⟩⟩))), fun w => absurd w (by decide)⟩), fun y6 => sp_wr hG (by omega) hX P' (by decide) (by decide) (fun τ1 f1 F => slKt.ok (sp_bd hG F (slKt.ok ⟨in0, fun w => absurd rfl w, fun _ => ⟨(0, 1, 0), Or.inl (by show 0 < _; omega), Or.inl ⟨2, lxB X p', f.tr f1, re.st (exStep_0.trans (exA_not6 z w13 y6)), F.mono (by decide), rfl⟩⟩⟩)))⟩⟩)⟩⟩)
      intro nb
      refine sp_good hG g (slKt.ok ⟨in1, fun w => absurd w (by decide), fun _ => sp_X12_isSign hG (by omega) (by omega) P'.1 (by decide) (slKt.ok ?_)⟩)
      by_cases h40 : lxK X p' = 40
      · rw [abIf_t h40, if_neg (by decide)]
        refine ⟨in1, in1, fun w => absurd w (by decide), fun _ => sp_wt hG (by omega) hX P' (by decide) (fun τ1 f1 P1 => slKt.ok (sp_go hG (by omega) hX P1 (by decide) (by omega) (fun τ2 f2 P2 lt => slKt.ok (sp_X12_deeper hG (by omega) (by omega) hX P2 (fun τ3 t6 f3 F => slKt.ok ⟨(0, 2, 0), Or.inl (by show 0 < _; omega), Or.inl ⟨_, _, (f.tr f1).tr (f2.tr f3), re.st (exStep_0.trans ((exA_op h40).trans (if_neg (by omega)))), F, Or.inr rfl, rfl⟩⟩) (fun τ3 t6 f3 P3 => slKt.ok ⟨_, Or.inl (lt2 lt P2.2.2.2.2.2.2.1.2), Or.inr (Or.inl ⟨lxE X p', 14 :: W', 0 :: T', o', ⟨(f.tr f1).tr (f2.tr f3), re.st (exStep_0.trans ((exA_op h40).trans (if_pos t6))), P3, by omega⟩, Or.inr rfl, rfl, rfl⟩)⟩)))))⟩
      · rw [abIf_f h40, if_pos rfl]
        exact ⟨in0, in0, fun _ => ⟨((X.2 - p').toNat + 1, 0, 0), Or.inr ⟨rfl, Or.inl (by show 0 < 1; decide)⟩, Or.inr (Or.inr ⟨p', W', T', o', y4, ⟨f, re, P', le⟩, rfl, nb, h40, rfl⟩)⟩, fun w => absurd rfl w⟩
set_option maxHeartbeats 1000000 in
set_option maxRecDepth 4000 in
theorem sp_X12_isOpened {G : slG} (hG : slGood G) {d K : Nat} (hd : 2 ≤ d) (hK : 0 ≤ K) {Φ : slPost} {σ : slM}  {W : List Int} (hW : mWp W σ) (hl : W.length ≤ 800) (h1 : 14 ∈ W → Φ (0, 1) σ) (h0 : ¬ 14 ∈ W → Φ (0, 0) σ) :
    slCall G mX12_isOpened d K [sR 12 0] σ Φ := by
  refine vc_X12_isOpened hG (by omega) hK (fun μ y1 σ' => σ' = σ ∧ ∃ V : List Int, isWs V (σ 86 0) ∧ (∀ a ∈ V, a ∈ W) ∧ (14 ∈ W → 14 ∈ V) ∧ y1 = V.length - 1 ∧ V.length ≤ W.length ∧ μ = (V.length, 0, 0)) ?_ ?_
  · exact ⟨_, rfl, W, hW.2.1, fun _ h => h, fun h => h, by rw [hW.1], Nat.le_refl _, rfl⟩
  · rintro μ y1 σ' ⟨rfl, V, w, sb, ip, rfl, vl, rfl⟩
    refine ⟨⟨by omega, by omega⟩, fun z => ⟨⟨by omega, by omega⟩, fun _ => h0 (fun m => ?_), fun y => absurd z y⟩, fun z => ?_⟩
    · have := List.length_pos_of_mem (ip m)
      omega
    · match V, w, sb, ip, vl, z with
      | [], _, _, _, _, z => exact absurd (by decide) z
      | a :: V, w, sb, ip, vl, z =>
        have e : (((a :: V).length : Nat) : Int) - 1 = V.length := by simp
        rw [e]
        have vl2 : V.length + 1 ≤ W.length := by simpa using vl
        have ra := hW.2.2 a (sb a List.mem_cons_self)
        rw [Int.toNat_natCast, w.1]
        refine ⟨⟨by omega, by omega⟩, sp_X12_isOpen hG (by omega) (by omega) ⟨by omega, by omega⟩ (fun y => slKt.ok ⟨in1, fun _ => ⟨⟨by omega, by omega⟩, fun x => by omega, fun x => h1 ?_⟩, fun x => absurd x (by decide)⟩) (fun y => slKt.ok ⟨in0, fun x => absurd rfl x, fun _ => ⟨(V.length, 0, 0), Or.inl ?_, rfl, V, w.2, fun b hb => sb b (List.mem_cons_of_mem _ hb), fun m => ?_, by omega, by omega, rfl⟩⟩)⟩
        · have : a = 14 := by omega
          rw [← this]
          exact sb a List.mem_cons_self
        · show V.length < (a :: V).length
          simp
        · rcases List.mem_cons.mp (ip m) with x | x
          · omega
          · exact x
theorem exDr_0y {o : List Int} : ∀ {W : List Int}, (∀ a ∈ W, 3 ≤ a ∧ a ≤ 14) → 14 ∈ W → ∀ o : List Int, ∃ V, (exDr 0 W o).1 = 14 :: V
  | [], _, m, _ => absurd m (by simp)
  | a :: W, r, m, o => by
    unfold exDr
    by_cases z : 14 ≤ a
    · rw [if_pos z]
      exact ⟨W, by rw [show a = 14 by have := r a List.mem_cons_self; omega]⟩
    · rw [if_neg z, if_pos (by have := exSt_r (a := a); omega)]
      exact exDr_0y (o := o) (fun b hb => r b (List.mem_cons_of_mem _ hb)) (by
        rcases List.mem_cons.mp m with x | x
        · omega
        · exact x) _
theorem exDr_0n : ∀ {W : List Int}, (∀ a ∈ W, 3 ≤ a ∧ a ≤ 14) → ¬ 14 ∈ W → ∀ o : List Int, (exDr 0 W o).1 = []
  | [], _, _, _ => rfl
  | a :: W, r, m, o => by
    unfold exDr
    have ra := r a List.mem_cons_self
    rw [if_neg (fun z => m (by rw [show a = 14 by omega]; exact List.mem_cons_self)), if_pos (by have := exSt_r (a := a); omega)]
    exact exDr_0n (fun b hb => r b (List.mem_cons_of_mem _ hb)) (fun x => m (List.mem_cons_of_mem _ x)) _
set_option maxHeartbeats 1000000 in
set_option maxRecDepth 4000 in
theorem sp_X12_closes {G : slG} (hG : slGood G) {d K : Nat} (hd : 10 ≤ d) (hK : 0 ≤ K) {Φ : slPost} {σ : slM}  {X : abX} {a0 : Nat} {p : Int} {W T o : List Int} (hX : gdX X) (P : mPi X a0 0 0 p W T o σ) (h14 : 14 ∈ W) (hk : lxK X p ≠ 0) (h : ∀ τ, mEF σ τ → mPi X a0 0 0 (lxE X p) (exDr 0 W o).1.tail T.tail (exDr 0 W o).2 τ → p < lxE X p → Φ (0, 0) τ) :
    slCall G mX12_closes d K [sR 12 0] σ Φ := by
  refine vc_X12_closes hG (by omega) hK  ?_
  obtain ⟨V, eV⟩ := exDr_0y (o := o) P.2.1.2.2 h14 o
  refine sp_dr hG (by omega) hX P (by decide) (by decide) (fun τ f P1 _ => slKt.ok ?_)
  rw [eV] at h P1
  obtain ⟨T1, hW, hT, hC, b, g, hp, t, c⟩ := P1
  rw [List.count_cons_self] at c
  match T, hT, t, c, h with
  | [], _, _, c, _ => exact absurd c (by simp)
  | t0 :: T, hT, t, c, h =>
    have c2 : T.length = List.count 14 V + 1 := by simp at c; omega
    have b2 : (((14 :: V).length : Nat) : Int) = (V.length : Int) + 1 := by simp
    have t2 : (((t0 :: T).length : Nat) : Int) = (T.length : Int) + 1 := by simp
    have t3 : T.length + 1 ≤ 6 := by simpa using t.2
    rw [slU_ne (by decide), hW.1, hT.1, b2, t2, show (V.length : Int) + 1 - 1 = V.length by omega, show (T.length : Int) + 1 - 1 = T.length by omega]
    have P2 : mPi X a0 0 0 p V T (exDr 0 W o).2 (slU (slU τ 12 0 40 (V.length : Int)) 12 0 41 (T.length : Int)) := by
      refine ⟨?_, ⟨?_, ?_, ?_⟩, ⟨?_, ?_, ?_, by rw [slU_ne (by decide), slU_ne (by decide)]; exact hT.2.2.2⟩, ?_, ?_, ?_, hp, ?_, ?_⟩
      · exact T1.c (fun k h1 h2 => by rw [slU_ne (by omega), slU_ne (by omega)]) (by rw [slU_else (by decide), slU_else (by decide)])
      · rw [slU_ne (by decide), slU_same]
      · rw [slU_else (by decide), slU_else (by decide)]; exact hW.2.1.2
      · exact fun a ha => hW.2.2 a (List.mem_cons_of_mem _ ha)
      · rw [slU_same]
      · rw [slU_else (by decide), slU_else (by decide)]; exact hT.2.1.2
      · exact fun a ha => hT.2.2.1 a (List.mem_cons_of_mem _ ha)
      · rw [slU_else (by decide), slU_else (by decide), slU_ne (by decide), slU_ne (by decide)]; exact hC
      · rw [slU_ne (by decide), slU_ne (by decide)]; exact ⟨b.1, by omega, by omega⟩
      · rw [slU_ne (by decide), slU_ne (by decide)]; exact g
      · exact ⟨by omega, by omega⟩
      · omega
    exact sp_go hG (by omega) hX P2 (by decide) hk (fun τ2 f2 P3 lt => slKt.ok (h τ2 (f.tr (((mEF.id.up (by decide)).up (by decide)).tr f2)) P3 lt))
