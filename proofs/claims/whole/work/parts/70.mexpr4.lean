/-! ===== laws read by the model: the whole ===== -/
theorem mTp.hd {T : List Int} {σ : slM} (h : mTp T σ) (l : 1 ≤ T.length) : σ 87 0 (σ 12 0 41).toNat = T.headD 0 ∧ (T.headD 0 = 0 ∨ T.headD 0 = 1) := by
  match T, h, l with
  | [], _, l => exact absurd l (by decide)
  | t :: T, h, _ =>
    rw [h.1, Int.toNat_natCast]
    exact ⟨h.2.1.1, h.2.2.1 t List.mem_cons_self⟩
theorem mPi.set {X : abX} {a0 e n : Nat} {p t : Int} {W T o : List Int} {σ : slM} (P : mPi X a0 e n p W T o σ) (ht : t = 0 ∨ t = 1) : mPi X a0 e n p W (t :: T.tail) o (slU σ 87 0 (σ 12 0 41).toNat t) := by
  obtain ⟨T1, hW, hT, hC, b, g, hp, tl, c⟩ := P
  match T, hT, tl, c with
  | [], _, tl, _ => exact absurd tl.1 (by decide)
  | t0 :: T, hT, tl, c =>
    refine ⟨?_, ?_, ⟨?_, ⟨?_, ?_⟩, ?_, by rw [slU_else (by decide)]; exact hT.2.2.2⟩, ?_, ?_, ?_, hp, tl, c⟩
    · exact T1.c (fun k h1 h2 => by rw [slU_else (by decide)]) (by rw [slU_else (by decide)])
    · exact hW.c (by rw [slU_else (by decide)]) (by rw [slU_else (by decide)])
    · rw [slU_else (by decide)]; exact hT.1
    · rw [hT.1, Int.toNat_natCast]
      exact slU_same _ _ _ _ _
    · refine hT.2.1.2.c (fun k h1 h2 => ?_)
      rw [hT.1, Int.toNat_natCast, slU_ne (by simp; omega)]
    · intro s hs
      rcases List.mem_cons.mp hs with z | z
      · rw [z]; exact ht
      · exact hT.2.2.1 s (List.mem_cons_of_mem _ z)
    · rw [slU_else (by decide), slU_else (by decide)]; exact hC
    · rw [slU_else (by decide)]; exact b
    · rw [slU_else (by decide)]; exact g
/-- push and read the next operand -/
theorem sp_opw {G : slG} (hG : slGood G) {d : Nat} (hd : 13 ≤ d) {Φ : slPost} {C : slM → Prop} {σ : slM} {X : abX} {a0 : Nat} {p a b : Int} {W T o : List Int} (hX : gdX X) (P : mPi X a0 0 0 p W T o σ) (ha : 3 ≤ a ∧ a ≤ 13) (hb : b = 0 ∨ b = 1) (hk : lxK X p ≠ 0) (hf : ∀ τ k q, mEF σ τ → exRe X (0, lxE X p, a :: W, T, o, b, 0) (exFl k q) → mFa 5 k q τ → C τ) (hg : ∀ τ p' W' T' o', mEF σ τ → exRe X (0, lxE X p, a :: W, T, o, b, 0) (1, p', W', T', o', 0, 0) → mPi X a0 0 0 p' W' T' o' τ → p < p' → C τ) : slCall G mX12_waitsFor d 0 [sR 12 0, sI a] σ (slKt (fun _ τ1 => slCall G mX12_goes d 0 [sR 12 0] τ1 (slKt (fun _ τ2 => slCall G mX12_operand d 0 [sR 12 0, sI b] τ2 (slKt (fun _ τ3 => C τ3) Φ)) Φ)) Φ) := by
  refine sp_wt hG (by omega) hX P ⟨ha.1, by omega⟩ (fun τ1 f1 P1 => slKt.ok ?_)
  rw [if_neg (by omega)] at P1
  refine sp_go hG (by omega) hX P1 (by decide) hk (fun τ2 f2 P2 lt => slKt.ok ?_)
  exact sp_X12_operand hG (by omega) (by omega) hX P2 hb (fun τ k q f re F => slKt.ok (hf τ k q ((f1.tr f2).tr f) re F)) (fun τ p' W' T' o' f re P3 lt2 => slKt.ok (hg τ p' W' T' o' ((f1.tr f2).tr f) re P3 (by omega)))
theorem sp_opt {G : slG} (hG : slGood G) {d : Nat} (hd : 13 ≤ d) {Φ : slPost} {C : slM → Prop} {σ : slM} {X : abX} {a0 : Nat} {p a b t : Int} {W T o : List Int} (hX : gdX X) (P : mPi X a0 0 0 p W T o σ) (ha : 3 ≤ a ∧ a ≤ 13) (hb : b = 0 ∨ b = 1) (ht : t = 0 ∨ t = 1) (hk : lxK X p ≠ 0) (hf : ∀ τ k q, mEF σ τ → exRe X (0, lxE X p, a :: W, t :: T.tail, o, b, 0) (exFl k q) → mFa 5 k q τ → C τ) (hg : ∀ τ p' W' T' o', mEF σ τ → exRe X (0, lxE X p, a :: W, t :: T.tail, o, b, 0) (1, p', W', T', o', 0, 0) → mPi X a0 0 0 p' W' T' o' τ → p < p' → C τ) : slCall G mX12_waitsFor d 0 [sR 12 0, sI a] σ (slKt (fun _ τ1 => ((0 ≤ τ1 12 0 41) ∧ (τ1 12 0 41 < 9)) ∧ slCall G mX12_goes d 0 [sR 12 0] (slU τ1 87 0 (Int.toNat (τ1 12 0 41)) t) (slKt (fun _ τ2 => slCall G mX12_operand d 0 [sR 12 0, sI b] τ2 (slKt (fun _ τ3 => C τ3) Φ)) Φ)) Φ) := by
  refine sp_wt hG (by omega) hX P ⟨ha.1, by omega⟩ (fun τ1 f1 P1 => slKt.ok ?_)
  rw [if_neg (by omega)] at P1
  have t41 := P1.2.2.1.1
  have tl := P1.2.2.2.2.2.2.2.1
  refine ⟨⟨by omega, by omega⟩, ?_⟩
  refine sp_go hG (by omega) hX (P1.set ht) (by decide) hk (fun τ2 f2 P2 lt => slKt.ok ?_)
  have f3 := f1.tr ((mEF.id.up8 (Or.inr rfl)).tr f2)
  exact sp_X12_operand hG (by omega) (by omega) hX P2 hb (fun τ k q f re F => slKt.ok (hf τ k q (f3.tr f) re F)) (fun τ p' W' T' o' f re P3 lt2 => slKt.ok (hg τ p' W' T' o' (f3.tr f) re P3 (by omega)))
/-- drop and push, the sign asked again between -/
theorem sp_opb {G : slG} (hG : slGood G) {d : Nat} (hd : 13 ≤ d) {Φ : slPost} {C : slM → Prop} {σ : slM} {X : abX} {a0 : Nat} {p l c a1 a2 : Int} {W T o : List Int} {s1 : exS} (hX : gdX X) (P : mPi X a0 0 0 p W T o σ) (il : InR l) (hc : 40 ≤ c ∧ c ≤ 61) (h1 : 3 ≤ a1 ∧ a1 ≤ 13) (h2 : 3 ≤ a2 ∧ a2 ≤ 13) (hk : lxK X p ≠ 0) (es : s1 = exPu l (if lxK X p = c then a1 else a2) (lxE X p) W T o 0) (hf : ∀ τ k q, mEF σ τ → exRe X s1 (exFl k q) → mFa 5 k q τ → C τ) (hg : ∀ τ p' W' T' o', mEF σ τ → exRe X s1 (1, p', W', T', o', 0, 0) → mPi X a0 0 0 p' W' T' o' τ → p < p' → C τ) : slCall G mX12_drops d 0 [sR 12 0, sI l] σ (slKt (fun _ τ0 => slCall G mX12_isSign d 0 [sR 12 0, sI c] τ0 (slKt (fun v τ => ((InR v)) ∧ slCall G mX12_waitsFor d 0 [sR 12 0, sI (if v = 0 then a2 else a1)] τ (slKt (fun _ τ1 => slCall G mX12_goes d 0 [sR 12 0] τ1 (slKt (fun _ τ2 => slCall G mX12_operand d 0 [sR 12 0, sI 0] τ2 (slKt (fun _ τ3 => C τ3) Φ)) Φ)) Φ)) Φ)) Φ) := by
  subst es
  refine sp_dr hG (by omega) hX P (by decide) il (fun τ f P1 _ => slKt.ok (sp_X12_isSign hG (by omega) (by omega) P1.1 hc (slKt.ok ?_)))
  by_cases z : lxK X p = c
  · rw [abIf_t z, if_neg (by decide)]
    rw [if_pos z] at hf hg
    exact ⟨in1, sp_opw hG hd hX P1 h1 (Or.inl rfl) hk (fun τ' k q f' => hf τ' k q (f.tr f')) (fun τ' p' W' T' o' f' => hg τ' p' W' T' o' (f.tr f'))⟩
  · rw [abIf_f z, if_pos rfl]
    rw [if_neg z] at hf hg
    exact ⟨in0, sp_opw hG hd hX P1 h2 (Or.inl rfl) hk (fun τ' k q f' => hf τ' k q (f.tr f')) (fun τ' p' W' T' o' f' => hg τ' p' W' T' o' (f.tr f'))⟩
theorem sp_opc {G : slG} (hG : slGood G) {d : Nat} (hd : 13 ≤ d) {Φ : slPost} {C : slM → Prop} {σ : slM} {X : abX} {a0 : Nat} {p l c a1 a2 : Int} {W T o : List Int} {s1 : exS} (hX : gdX X) (P : mPi X a0 0 0 p W T o σ) (il : InR l) (hc : 40 ≤ c ∧ c ≤ 61) (h1 : 3 ≤ a1 ∧ a1 ≤ 13) (h2 : 3 ≤ a2 ∧ a2 ≤ 13) (hk : lxK X p ≠ 0) (es : s1 = exPu l (if lxK X p = c then a1 else a2) (lxE X p) W (1 :: T.tail) o 0) (hf : ∀ τ k q, mEF σ τ → exRe X s1 (exFl k q) → mFa 5 k q τ → C τ) (hg : ∀ τ p' W' T' o', mEF σ τ → exRe X s1 (1, p', W', T', o', 0, 0) → mPi X a0 0 0 p' W' T' o' τ → p < p' → C τ) : slCall G mX12_drops d 0 [sR 12 0, sI l] σ (slKt (fun _ τ0 => slCall G mX12_isSign d 0 [sR 12 0, sI c] τ0 (slKt (fun v τ => ((InR v)) ∧ slCall G mX12_waitsFor d 0 [sR 12 0, sI (if v = 0 then a2 else a1)] τ (slKt (fun _ τ1 => ((0 ≤ τ1 12 0 41) ∧ (τ1 12 0 41 < 9)) ∧ slCall G mX12_goes d 0 [sR 12 0] (slU τ1 87 0 (Int.toNat (τ1 12 0 41)) 1) (slKt (fun _ τ2 => slCall G mX12_operand d 0 [sR 12 0, sI 0] τ2 (slKt (fun _ τ3 => C τ3) Φ)) Φ)) Φ)) Φ)) Φ) := by
  subst es
  refine sp_dr hG (by omega) hX P (by decide) il (fun τ f P1 _ => slKt.ok (sp_X12_isSign hG (by omega) (by omega) P1.1 hc (slKt.ok ?_)))
  by_cases z : lxK X p = c
  · rw [abIf_t z, if_neg (by decide)]
    rw [if_pos z] at hf hg
    exact ⟨in1, sp_opt hG hd hX P1 h1 (Or.inl rfl) (Or.inr rfl) hk (fun τ' k q f' => hf τ' k q (f.tr f')) (fun τ' p' W' T' o' f' => hg τ' p' W' T' o' (f.tr f'))⟩
  · rw [abIf_f z, if_pos rfl]
    rw [if_neg z] at hf hg
    exact ⟨in0, sp_opt hG hd hX P1 h2 (Or.inl rfl) (Or.inr rfl) hk (fun τ' k q f' => hf τ' k q (f.tr f')) (fun τ' p' W' T' o' f' => hg τ' p' W' T' o' (f.tr f'))⟩
theorem sp_drf {G : slG} (hG : slGood G) {d K : Nat} (hd : 5 ≤ d) {Φ : slPost} {σ : slM} {e : Nat} {k q l : Int} (F : mFa e k q σ) (he : e ≤ 100) (il : InR l) (h : ∀ τ, mEF σ τ → mFa e k q τ → Φ (0, 0) τ) : slCall G mX12_drops d K [sR 12 0, sI l] σ Φ := by
  obtain ⟨⟨i, Xk, pk, tk⟩, b, c, W, w, x, y, z⟩ := F
  have cn := exDr_cnt (l := l) W []
  refine sp_X12_drops hG (by omega) (by omega) (a0 := 0) (o := []) w il ⟨x, by omega⟩ (by omega) (fun τ f w2 k3 _ => h τ f.1 ⟨⟨i, Xk, pk, tk.1.c (fun k a b => f.2.1 k (by omega) (by omega)) f.2.2.2, tk.2⟩, ?_, ?_, _, w2, ?_, ?_, ?_⟩)
  · rw [f.2.1 21 (by decide) (by decide)]; exact b
  · rw [f.2.1 22 (by decide) (by decide)]; exact c
  · have := f.1.2.2; omega
  · omega
  · omega
theorem sp_endf {G : slG} (hG : slGood G) {d : Nat} (hd : 5 ≤ d) {Φ : slPost} {C : slM → Prop} {σ : slM} {e : Nat} {k q : Int} (F : mFa e k q σ) (he : e ≤ 90) (h : ∀ τ, mEF σ τ → mFa (e + 1) k q τ → C τ) : slCall G mX12_drops d 0 [sR 12 0, sI 0] σ (slKt (fun _ τ1 => slCall G mX12_puts d 0 [sR 12 0, sI 0] τ1 (slKt (fun _ τ2 => C τ2) Φ)) Φ) :=
  sp_drf hG (by omega) F (by omega) (by decide) (fun τ f F2 => slKt.ok (sp_puf hG (by omega) F2 (by omega) (fun τ2 f2 F3 => slKt.ok (h τ2 (f.tr f2) F3))))
/-! ways of the second mode -/
theorem exB_w1 {X : abX} {p : Int} {W T o : List Int} (h : lxW X p = 11) : exB X p W T o = exPu 2 4 (lxE X p) W (0 :: T.tail) o 1 := if_pos h
theorem exB_w2 {X : abX} {p : Int} {W T o : List Int} (h : lxW X p = 12) : exB X p W T o = exPu 1 5 (lxE X p) W (0 :: T.tail) o 1 := by
  unfold exB
  rw [if_neg (by omega), if_pos h]
theorem exB_cmp {X : abX} {p : Int} {W T o : List Int} (h : lxK X p = 60 ∨ lxK X p = 61) (t : T.headD 0 = 0) : exB X p W T o = exPu 4 (if lxK X p = 60 then 6 else 7) (lxE X p) W (1 :: T.tail) o 0 := by
  have := lxW_2 (X := X) (p := p) (by omega)
  unfold exB
  rw [if_neg (by omega), if_neg (by omega), if_pos ⟨h, t⟩]
theorem exB_sum {X : abX} {p : Int} {W T o : List Int} (h : lxK X p = 43 ∨ lxK X p = 45) : exB X p W T o = exPu 5 (if lxK X p = 43 then 8 else 9) (lxE X p) W T o 0 := by
  have := lxW_2 (X := X) (p := p) (by omega)
  unfold exB
  rw [if_neg (by omega), if_neg (by omega), if_neg (by omega), if_pos h]
theorem exB_mul {X : abX} {p : Int} {W T o : List Int} (h : lxK X p = 42 ∨ lxK X p = 47) : exB X p W T o = exPu 6 (if lxK X p = 42 then 10 else 11) (lxE X p) W T o 0 := by
  have := lxW_2 (X := X) (p := p) (by omega)
  unfold exB
  rw [if_neg (by omega), if_neg (by omega), if_neg (by omega), if_neg (by omega), if_pos h]
theorem exB_cl {X : abX} {p : Int} {W T o : List Int} (h : lxK X p = 41) (m : 14 ∈ W) : exB X p W T o = (1, lxE X p, (exDr 0 W o).1.tail, T.tail, (exDr 0 W o).2, 0, 0) := by
  have := lxW_2 (X := X) (p := p) (by omega)
  unfold exB
  rw [if_neg (by omega), if_neg (by omega), if_neg (by omega), if_neg (by omega), if_neg (by omega), if_pos ⟨h, m⟩]
theorem exB_no {X : abX} {p : Int} {W T o : List Int} (h1 : lxW X p ≠ 11) (h2 : lxW X p ≠ 12) (h3 : ¬ ((lxK X p = 60 ∨ lxK X p = 61) ∧ T.headD 0 = 0)) (h4 : ¬ (lxK X p = 43 ∨ lxK X p = 45)) (h5 : ¬ (lxK X p = 42 ∨ lxK X p = 47)) (h6 : ¬ (lxK X p = 41 ∧ 14 ∈ W)) : exB X p W T o = if 1 < T.length then exFl 1 (lxB X p) else (2, p, [], [], (exDr 0 W o).2, 0, 0) := by
  unfold exB
  rw [if_neg h1, if_neg h2, if_neg h3, if_neg h4, if_neg h5, if_neg h6]
def mEx (X : abX) (a0 : Nat) (s0 : exS) (p0 : Int) (σ : slM) (μ : slMu) (y1 : Int) (σ' : slM) : Prop := mEF σ σ' ∧ ((∃ k q, exRe X s0 (exFl k q) ∧ mFa 5 k q σ' ∧ y1 = 1 ∧ μ = (0, 0, 0)) ∨ (∃ p' W T o, exRe X s0 (1, p', W, T, o, 0, 0) ∧ mPi X a0 0 0 p' W T o σ' ∧ p0 ≤ p' ∧ y1 = 1 ∧ μ = ((X.2 - p').toNat + 1, 1, 0)) ∨ (∃ p' W T o, exRe X s0 (1, p', W, T, o, 0, 0) ∧ mPi X a0 0 0 p' W T o σ' ∧ p0 ≤ p' ∧ exB X p' W T o = (if 1 < T.length then exFl 1 (lxB X p') else (2, p', [], [], (exDr 0 W o).2, 0, 0)) ∧ y1 = 0 ∧ μ = ((X.2 - p').toNat + 1, 0, 0)))
set_option maxHeartbeats 16000000 in
set_option maxRecDepth 4000 in
theorem sp_X12_expression {G : slG} (hG : slGood G) {d K : Nat} (hd : 16 ≤ d) (hK : 0 ≤ K) {Φ : slPost} {σ : slM}  {X : abX} {p : Int} (hX : gdX X) (hp : 0 ≤ p ∧ p ≤ X.2) (T0 : isTm X p σ) (g : σ 12 0 21 = 0) (g22 : σ 12 0 22 = -1) (b39 : 0 ≤ σ 12 0 39 ∧ σ 12 0 39 + 1 ≤ 2 * p) (hf : ∀ τ k q, mEF σ τ → exRe X (0, p, [], [0], [], 1, 0) (exFl k q) → mFa 6 k q τ → Φ (0, 0) τ) (hg : ∀ τ p' o', mEF σ τ → exRe X (0, p, [], [0], [], 1, 0) (2, p', [], [], o', 0, 0) → isTm X p' τ → τ 12 0 21 = 0 → τ 12 0 22 = -1 → p < p' ∧ p' ≤ X.2 → isCd (τ 85 0) (σ 12 0 39).toNat o' (τ 12 0 39 - 1).toNat → τ 85 0 (τ 12 0 39 - 1).toNat = 0 → σ 12 0 39 < τ 12 0 39 ∧ τ 12 0 39 ≤ 2 * p' → Φ (0, 0) τ) :
    slCall G mX12_expression d K [sR 12 0] σ Φ := by
  refine vc_X12_expression hG (by omega) hK (mEx X (σ 12 0 39).toNat (0, p, [], [0], [], 1, 0) (p + 1) σ) ?_ ?_
  · have hx := hX.1
    refine sp_good hG g (slKt.ok ⟨in1, fun _ => ?_, fun z => absurd z (by decide)⟩)
    have P0 : mPi X (σ 12 0 39).toNat 0 0 p [] [0] [] (slU (slU (slU (slU σ 12 0 40 0) 12 0 41 0) 12 0 41 1) 87 0 1 0) := by
      refine ⟨?_, ⟨?_, trivial, fun a ha => absurd ha (by simp)⟩, ⟨?_, ⟨?_, trivial⟩, fun a ha => ?_, by rw [slU_else (by decide), slU_ne (by decide), slU_ne (by decide), slU_ne (by decide)]; exact g22⟩, ?_, ?_, ?_, hp, by decide, by decide⟩
      · exact T0.c (fun k h1 h2 => by rw [slU_else (by decide), slU_ne (by omega), slU_ne (by omega), slU_ne (by omega)]) (by rw [slU_else (by decide), slU_else (by decide), slU_else (by decide), slU_else (by decide)])
      · rw [slU_else (by decide), slU_ne (by decide), slU_ne (by decide), slU_same]; rfl
      · rw [slU_else (by decide), slU_same]; rfl
      · exact slU_same _ _ _ _ _
      · simp at ha; exact Or.inl ha
      · show (σ 12 0 39).toNat = (slU (slU (slU (slU σ 12 0 40 0) 12 0 41 0) 12 0 41 1) 87 0 1 0 12 0 39).toNat
        rw [slU_else (by decide), slU_ne (by decide), slU_ne (by decide), slU_ne (by decide)]
      · rw [slU_else (by decide), slU_ne (by decide), slU_ne (by decide), slU_ne (by decide)]; simp; omega
      · rw [slU_else (by decide), slU_ne (by decide), slU_ne (by decide), slU_ne (by decide)]; exact g
    have f0 : mEF σ (slU (slU (slU (slU σ 12 0 40 0) 12 0 41 0) 12 0 41 1) 87 0 1 0) := (((mEF.id.up (by decide)).up (by decide)).up (by decide)).up8 (Or.inr rfl)
    refine vc_X12_deeper hG (by omega) (by omega) ⟨?_, fun z => ?_, fun z => ?_⟩
    · rw [slU_same]; decide
    · rw [slU_same] at z; omega
    · rw [slU_same, slU_same]
      refine ⟨by decide, slKt.ok ?_⟩
      exact sp_X12_operand hG (by omega) (by omega) hX P0 (Or.inr rfl) (fun τ k q f re F => slKt.ok ⟨_, f0.tr f, Or.inl ⟨k, q, re, F, rfl, rfl⟩⟩) (fun τ p' W' T' o' f re P3 lt2 => slKt.ok ⟨_, f0.tr f, Or.inr (Or.inl ⟨p', W', T', o', re, P3, by omega, rfl, rfl⟩)⟩)
  · rintro μ y1 σ' ⟨fr, ⟨k, q, re, F, rfl, rfl⟩ | ⟨p', W, T, o, re, P, le, rfl, rfl⟩ | ⟨p', W, T, o, re, P, le, eB, rfl, rfl⟩⟩
    · exact ⟨in1, fun z => absurd z (by decide), fun _ => sp_bd hG F (slKt.ok ⟨in0, fun _ => sp_bd hG F (slKt.ok ⟨in0, fun _ => sp_endf hG (by omega) F (by decide) (fun τ f F2 => hf τ k q (fr.tr f) re F2), fun z => absurd rfl z⟩), fun z => absurd rfl z⟩)⟩
    · have hp' := P.2.2.2.2.2.2.1
      have tl := P.2.2.2.2.2.2.2.1
      have th := P.2.2.1.hd tl.1
      have t41 := P.2.2.1.1
      have wr := lxW_r (X := X) (p := p')
      have cF : ∀ τ k q, mEF σ' τ → exRe X (exB X p' W T o) (exFl k q) → mFa 5 k q τ → ∃ μ, slLt μ ((X.2 - p').toNat + 1, 1, 0) ∧ mEx X (σ 12 0 39).toNat (0, p, [], [0], [], 1, 0) (p + 1) σ μ 1 τ := fun τ k q f r2 F => ⟨(0, 0, 0), Or.inl (by show 0 < _; omega), fr.tr f, Or.inl ⟨k, q, (re.st exStep_1).tr r2, F, rfl, rfl⟩⟩
      have cG : ∀ τ p2 W2 T2 o2, mEF σ' τ → exRe X (exB X p' W T o) (1, p2, W2, T2, o2, 0, 0) → mPi X (σ 12 0 39).toNat 0 0 p2 W2 T2 o2 τ → p' < p2 → ∃ μ, slLt μ ((X.2 - p').toNat + 1, 1, 0) ∧ mEx X (σ 12 0 39).toNat (0, p, [], [0], [], 1, 0) (p + 1) σ μ 1 τ := fun τ p2 W2 T2 o2 f r2 P2 lt => ⟨((X.2 - p2).toNat + 1, 1, 0), Or.inl (by have := P2.2.2.2.2.2.2.1; show (X.2 - p2).toNat + 1 < (X.2 - p').toNat + 1; omega), fr.tr f, Or.inr (Or.inl ⟨p2, W2, T2, o2, (re.st exStep_1).tr r2, P2, by omega, rfl, rfl⟩)⟩
      refine ⟨in1, fun z => absurd z (by decide), fun _ => sp_good hG P.2.2.2.2.2.1 (slKt.ok ⟨in1, fun z => absurd z (by decide), fun _ => sp_X12_knownWord hG (by omega) (by omega) hX hp' P.1 (slKt.ok ⟨⟨by omega, by omega⟩, fun w11 => ⟨⟨by omega, by omega⟩, ?_⟩, fun n11 => ⟨⟨by omega, by omega⟩, fun n12 => ?_, fun w12 => ⟨⟨by omega, by omega⟩, ?_⟩⟩⟩)⟩)⟩
      · rw [if_neg (fun z => z w11)]
        rw [exB_w1 w11] at cF cG
        refine sp_dr hG (by omega) hX P (by decide) (by decide) (fun τ f P1 _ => slKt.ok ⟨⟨by omega, by omega⟩, ?_⟩)
        rw [if_neg (fun z => z w11)]
        exact sp_opt hG (by omega) hX P1 (by decide) (Or.inr rfl) (Or.inl rfl) (by omega) (fun τ' k q f' => cF τ' k q (f.tr f')) (fun τ' p' W' T' o' f' => cG τ' p' W' T' o' (f.tr f'))
      · suffices blk : ¬ ((lxK X p' = 60 ∨ lxK X p' = 61) ∧ T.headD 0 = 0) → _ from by
          refine sp_X12_isSign hG (by omega) (by omega) P.1 (by decide) (slKt.ok ⟨by rcases abIf_01 (p := lxK X p' = 60) with z | z <;> rw [z] <;> decide, fun z => ?_, fun z => ?_⟩)
          · have k60 := abIf_nz z
            rw [th.1]
            refine ⟨⟨by omega, by omega⟩, ⟨by omega, by omega⟩, fun t1 => blk (fun u => t1 u.2), fun t0 => ?_⟩
            exact sp_opc hG (by omega) hX P (by decide) (by decide) (by decide) (by decide) (by omega) (exB_cmp (Or.inl k60) t0) cF cG
          · have n60 := abIf_z z
            refine sp_X12_isSign hG (by omega) (by omega) P.1 (by decide) (slKt.ok ⟨by rcases abIf_01 (p := lxK X p' = 61) with z | z <;> rw [z] <;> decide, fun z => ?_, fun z => ?_⟩)
            · have n61 := abIf_z z
              exact blk (fun u => by omega)
            · have k61 := abIf_nz z
              rw [th.1]
              refine ⟨⟨by omega, by omega⟩, ⟨by omega, by omega⟩, fun t1 => blk (fun u => t1 u.2), fun t0 => ?_⟩
              exact sp_opc hG (by omega) hX P (by decide) (by decide) (by decide) (by decide) (by omega) (exB_cmp (Or.inr k61) t0) cF cG
        intro ncmp
        refine sp_X12_isSign hG (by omega) (by omega) P.1 (by decide) (slKt.ok ⟨by rcases abIf_01 (p := lxK X p' = 43) with z | z <;> rw [z] <;> decide, fun z => ?_, fun z => ?_⟩)
        · have k := abIf_nz z
          exact sp_opb hG (by omega) hX P (by decide) (by decide) (by decide) (by decide) (by omega) (exB_sum (Or.inl k)) cF cG
        · have n43 := abIf_z z
          refine sp_X12_isSign hG (by omega) (by omega) P.1 (by decide) (slKt.ok ⟨by rcases abIf_01 (p := lxK X p' = 45) with z | z <;> rw [z] <;> decide, fun z => ?_, fun z => ?_⟩)
          · have n45 := abIf_z z
            refine sp_X12_isSign hG (by omega) (by omega) P.1 (by decide) (slKt.ok ⟨by rcases abIf_01 (p := lxK X p' = 42) with z | z <;> rw [z] <;> decide, fun z => ?_, fun z => ?_⟩)
            · have k := abIf_nz z
              exact sp_opb hG (by omega) hX P (by decide) (by decide) (by decide) (by decide) (by omega) (exB_mul (Or.inl k)) cF cG
            · have n42 := abIf_z z
              refine sp_X12_isSign hG (by omega) (by omega) P.1 (by decide) (slKt.ok ⟨by rcases abIf_01 (p := lxK X p' = 47) with z | z <;> rw [z] <;> decide, fun z => ?_, fun z => ?_⟩)
              · have n47 := abIf_z z
                have fin : ¬ (lxK X p' = 41 ∧ 14 ∈ W) → ∃ μ, slLt μ ((X.2 - p').toNat + 1, 1, 0) ∧ mEx X (σ 12 0 39).toNat (0, p, [], [0], [], 1, 0) (p + 1) σ μ 0 σ' := fun n41 => ⟨((X.2 - p').toNat + 1, 0, 0), Or.inr ⟨rfl, Or.inl (by show 0 < 1; decide)⟩, fr, Or.inr (Or.inr ⟨p', W, T, o, re, P, le, exB_no n11 n12 ncmp (by omega) (by omega) n41, rfl, rfl⟩)⟩
                refine sp_X12_isSign hG (by omega) (by omega) P.1 (by decide) (slKt.ok ⟨by rcases abIf_01 (p := lxK X p' = 41) with z | z <;> rw [z] <;> decide, fun z => ?_, fun z => ?_⟩)
                · exact fin (fun u => abIf_z z u.1)
                · have k41 := abIf_nz z
                  have hx := hX.1
                  have bW := P.2.2.2.2.1.2.2
                  refine sp_X12_isOpened hG (by omega) (by omega) P.2.1 (by omega) (fun m => slKt.ok ⟨in1, fun u => absurd u (by decide), fun _ => ?_⟩) (fun m => slKt.ok ⟨in0, fun _ => fin (fun u => m u.2), fun u => absurd rfl u⟩)
                  exact sp_X12_closes hG (by omega) (by omega) hX P m (by omega) (fun τ f P2 lt => slKt.ok (cG τ _ _ _ _ f (by rw [exB_cl k41 m]; exact exRe.rf) P2 lt))
              · have k := abIf_nz z
                exact sp_opb hG (by omega) hX P (by decide) (by decide) (by decide) (by decide) (by omega) (exB_mul (Or.inr k)) cF cG
          · have k := abIf_nz z
            exact sp_opb hG (by omega) hX P (by decide) (by decide) (by decide) (by decide) (by omega) (exB_sum (Or.inr k)) cF cG
      · rw [if_pos (by omega)]
        rw [exB_w2 w12] at cF cG
        refine sp_dr hG (by omega) hX P (by decide) (by decide) (fun τ f P1 _ => slKt.ok ⟨⟨by omega, by omega⟩, ?_⟩)
        rw [if_pos (by omega)]
        exact sp_opt hG (by omega) hX P1 (by decide) (Or.inr rfl) (Or.inl rfl) (by omega) (fun τ' k q f' => cF τ' k q (f.tr f')) (fun τ' p' W' T' o' f' => cG τ' p' W' T' o' (f.tr f'))
    · have tl := P.2.2.2.2.2.2.2.1
      have t41 := P.2.2.1.1
      have hx := hX.1
      have hp' := P.2.2.2.2.2.2.1
      refine ⟨in0, fun _ => sp_good hG P.2.2.2.2.2.1 (slKt.ok ⟨in1, fun z => absurd z (by decide), fun _ => ⟨⟨by omega, by omega⟩, fun z => ?_, fun z => ?_⟩⟩), fun z => absurd rfl z⟩
      · rw [if_neg (by omega)] at eB
        have cn := P.2.2.2.2.2.2.2.2
        have n14 : ¬ 14 ∈ W := fun m => by have := List.count_pos_iff.mpr m; omega
        have e0 := exDr_0n P.2.1.2.2 n14 o
        refine sp_dr hG (by omega) hX P (by decide) (by decide) (fun τ f P1 e39 => slKt.ok ?_)
        rw [e0] at P1 e39
        have b1 := P1.2.2.2.2.1
        have b0 := P.2.2.2.2.1
        have e39 : τ 12 0 39 = σ' 12 0 39 + W.length := by simpa using e39
        refine sp_X12_puts hG (by omega) (by omega) ⟨b1.1, by omega⟩ (fun υ f2 g1 g2 g3 g4 g5 g6 => slKt.ok (hg υ p' _ ((fr.tr f).tr f2) (re.st (exStep_1.trans eB)) (P1.1.c (fun k h1 h2 => g3 k (by omega)) g6) (by rw [g3 21 (by decide)]; exact P1.2.2.2.2.2.1) (by rw [g3 22 (by decide)]; exact P1.2.2.1.2.2.2) ⟨by omega, hp'.2⟩ ?_ ?_ ⟨?_, ?_⟩))
        · rw [g1, show τ 12 0 39 + 1 - 1 = τ 12 0 39 by omega]
          exact P1.2.2.2.1.c (fun j h1 h2 => f2.2.1 j (by omega))
        · rw [g1, show τ 12 0 39 + 1 - 1 = τ 12 0 39 by omega]; exact g2
        · have := (fr.tr f).2.2; omega
        · omega
      · rw [if_pos (by omega)] at eB
        exact sp_wr hG (by omega) hX P (by decide) (by decide) (fun τ f F => slKt.ok (sp_endf hG (by omega) F (by decide) (fun τ2 f2 F2 => hf τ2 1 (lxB X p') ((fr.tr f).tr f2) (re.st (exStep_1.trans eB)) (F2.mono (by decide)))))
