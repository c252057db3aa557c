/-! ===== the course in the model ===== -/
theorem abRun_c {u v : Nat → Int} (h : ∀ k, k < 6 → u k = v k) : ∀ (os st : List Int), (∀ o ∈ os, -15 ≤ o) → abRun u os st = abRun v os st
  | [], _, _ => rfl
  | o :: os, st, hb => by
    show abRun u os (abEx u o st) = abRun v os (abEx v o st)
    have e : abEx u o st = abEx v o st := by
      unfold abEx
      by_cases p : -6 ≤ o
      · rw [if_pos p, if_pos p]
        by_cases q : 0 ≤ o
        · rw [if_pos q, if_pos q]
        · rw [if_neg q, if_neg q, h _ (by omega)]
      · rw [if_neg p, if_neg p]
    rw [e]
    exact abRun_c h os _ (fun o ho => hb o (by simp [ho]))
set_option maxHeartbeats 1000000 in
set_option maxRecDepth 4000 in
theorem sp_X12_yieldsBy {G : slG} (hG : slGood G) {d K : Nat} (hd : 2 ≤ d) (hK : 0 ≤ K) {Φ : slPost} {σ : slM} {x1 : Int} {x2 : Int} {x3 : Int} {P : abP} {o : Int} (hM : isM P σ) (hC : gdC P) (h1 : 0 ≤ x1 ∧ x1 < P 1 3) (h2 : 0 ≤ x2 ∧ x2 < 240) (h3 : x3 = -1 ∨ (0 ≤ x3 ∧ x3 < P 4 4)) (h0 : 0 ≤ o ∧ o ≤ 200) (ho : σ 93 0 (240 * x1 + x2).toNat = abOil o x2) (h : ∀ τ, mFr [90, 91] [] σ τ → Φ (0, abG P x3 o x2 x1) τ) :
    slCall G mX12_yieldsBy d K [sR 12 0, sI x1, sI x2, sI x3] σ Φ := by
  refine vc_X12_yieldsBy hG (by omega) hK  ?_
  have a := hC.2.2.2.1
  have L4 := hC.2.2.2.2.2.2.2.2.2.2.1
  have b := hM.2.2.1 x1 h1.1 h1.2
  unfold abG at h
  refine ⟨⟨by omega, by omega⟩, fun q => ?_, fun q => ?_⟩
  · rw [if_neg q] at h
    have h3' := h3.resolve_left q
    refine ⟨⟨by omega, by omega⟩, ⟨by omega, by omega⟩, ⟨by omega, by omega⟩, ?_⟩
    rw [slU_else (by omega), slU_else (by omega), slU_else (by omega), slU_else (by omega), slU_else (by omega), ho, b.1, b.2.1, sRem_eq h2.1 (by omega) (by omega) (by omega)]
    have f1 : mFr [90, 91] [] σ (slU (slU (slU (slU (slU σ 90 0 0 (P 27 x1.toNat)) 90 0 1 (abOil o x2)) 90 0 2 x1) 90 0 3 (x2 % 24)) 90 0 4 (P 26 x1.toNat)) := ((((mFr.id.up (by decide) (by decide)).up (by decide) (by decide)).up (by decide) (by decide)).up (by decide) (by decide)).up (by decide) (by decide)
    refine sp_X12_isLitIn hG (by omega) (by omega) ⟨by omega, by omega⟩ h2 h0 (by rw [f1.1 93 0 (by decide) (by decide)]; exact ho) (slKt.ok ⟨in01, ⟨by omega, by omega⟩, ?_⟩)
    have e01 : (if abIf (abLit o x2) 1 0 = 0 then (0 : Int) else 1) = abIf (abLit o x2) 1 0 := by
      rcases abIf_01 (p := abLit o x2) with z | z <;> rw [z] <;> rfl
    rw [e01]
    have f2 := f1.up (k := 5) (i := 0) (r := 90) (v := abIf (abLit o x2) 1 0) (by decide) (by decide)
    have M2 := hM.fr f2 (by decide) (by decide)
    have cd := M2.2.2.2.2.2 x3 h3'.1 h3'.2
    have wf := (hC.2.2.2.2.2.2.2.2.2.2.2 x3 h3'.1 h3'.2).2
    have ev : ∀ k, k < 6 → slU (slU (slU (slU (slU (slU σ 90 0 0 (P 27 x1.toNat)) 90 0 1 (abOil o x2)) 90 0 2 x1) 90 0 3 (x2 % 24)) 90 0 4 (P 26 x1.toNat)) 90 0 5 (abIf (abLit o x2) 1 0) 90 0 k = abVals P o x1 x2 k := by
      intro k hk
      match k, hk with
      | 0, _ => rw [slU_ne (by omega), slU_ne (by omega), slU_ne (by omega), slU_ne (by omega), slU_ne (by omega), slU_same]; rfl
      | 1, _ => rw [slU_ne (by omega), slU_ne (by omega), slU_ne (by omega), slU_ne (by omega), slU_same]; rfl
      | 2, _ => rw [slU_ne (by omega), slU_ne (by omega), slU_ne (by omega), slU_same]; rfl
      | 3, _ => rw [slU_ne (by omega), slU_ne (by omega), slU_same]; rfl
      | 4, _ => rw [slU_ne (by omega), slU_same]; rfl
      | 5, _ => rw [slU_same]; rfl
    have vi := abVals_in hC h0 h1 h2
    refine sp_X12_reckons hG (by omega) (by omega) cd.1 cd.2 wf (fun k hk => by rw [ev k hk]; exact vi k hk) (fun τ f3 => slKt.ok ?_)
    have f4 := f2.tr (f3.mono (by decide) (by decide))
    have er := abRun_c (fun k hk => ev k hk) (abLaw P x3) [] (fun o ho => (abWf_in wf o ho).1)
    rw [er]
    exact h τ f4
  · rw [if_pos q] at h
    exact ⟨⟨by omega, by omega⟩, by rw [b.2.1]; exact h σ mFr.id⟩
set_option maxHeartbeats 1000000 in
set_option maxRecDepth 4000 in
theorem sp_X12_steps {G : slG} (hG : slGood G) {d K : Nat} (hd : 1 ≤ d) (hK : 0 ≤ K) {Φ : slPost} {σ : slM} {x1 : Int} {x2 : Int} {P : abP} {f : Int → Int} {n : Int} (hM : isM P σ) (hC : gdC P) (h1 : 0 ≤ x1 ∧ x1 < P 1 3) (h2 : 0 ≤ x2 ∧ x2 < 240) (hf : ∀ l : Int, 0 ≤ l → l < P 1 3 → σ 94 0 l.toNat = f l) (hg : gdP P f) (hn : σ 12 0 65 = n) (h : ∀ τ, mFr [94] [65] σ τ → (∀ l : Int, 0 ≤ l → l < P 1 3 → τ 94 0 l.toNat = (abGo P x2 (f, n) x1).1 l) → τ 12 0 65 = (abGo P x2 (f, n) x1).2 → Φ (0, 0) τ) :
    slCall G mX12_steps d K [sR 12 0, sI x1, sI x2] σ Φ := by
  refine vc_X12_steps hG (by omega) hK (fun μ y3 y4 σ' => σ' = σ ∧ μ = ((P 1 3 - y4).toNat, 0, 0) ∧ (0 ≤ y4 ∧ y4 ≤ P 1 3) ∧ y3 = abTo P x2 f x1 ∧ abOpen P (abTo P x2 f x1) ∧ abTo P x2 f x1 ≠ f x1 ∧ ∀ k : Int, 0 ≤ k → k < y4 → f k ≠ abTo P x2 f x1) ?_ ?_
  · have a := hC.2.2.2.1
    have g := hg x1 h1.1 h1.2
    have g' := g.1.dv hC
    have w := abWay_r (h := x2) hC h1
    have b := hM.2.2.1 x1 h1.1 h1.2
    have cb := hC.2.2.2.2.2.2.2.2.1 x1 h1.1 h1.2
    have r := abBehind_r (s := abWay P x1 x2) hC g.1
    have r2 := abBehind_gc (s := abWay P x1 x2) hC g.1
    have m := ab_mod (a := x2) (b := P 28 x1.toNat) (by omega)
    rw [b.2.2.1, sRem_eq h2.1 (by omega) (by omega) (by omega), b.2.2.2.2.1 _ m.1 m.2, hf x1 h1.1 h1.2]
    refine ⟨⟨by omega, by omega⟩, ⟨by omega, by omega⟩, ⟨⟨by omega, by omega⟩, by omega⟩, ⟨by omega, by omega⟩, ?_⟩
    have stay : abGo P x2 (f, n) x1 = (f, n) → Φ (0, 0) σ := fun e => h σ mFr.id (by rw [e]; exact hf) (by rw [e]; exact hn)
    refine sp_X12_leads hG (by omega) (by omega) hM hC g.1 w (slKt.ok ⟨⟨?_, ?_⟩, fun q => ?_, fun q => ?_⟩)
    · exact Int.le_trans (by decide) r.1
    · exact Int.lt_of_le_of_lt r.2 (by decide)
    · exact stay (abIte_f (fun z => by
        have z1 : 0 ≤ abTo P x2 f x1 := z.1
        have q' : abTo P x2 f x1 = -1 := q
        omega))
    have gt : gc P (abTo P x2 f x1) := r2.resolve_left q
    have gt' := gt.dv hC
    rw [hf x1 h1.1 h1.2]
    refine ⟨⟨by omega, by omega⟩, ⟨⟨Int.le_trans (by decide) r.1, Int.lt_of_le_of_lt r.2 (by decide)⟩, by omega, by omega⟩, fun q2 => ?_, fun q2 => ?_⟩
    · have e : abTo P x2 f x1 = f x1 := q2
      refine stay ?_
      unfold abGo
      show abIte (abOpen P (abTo P x2 f x1)) (abIte (abTaken P f x1 (abTo P x2 f x1)) (f, n + 1) (abPut f x1 (abTo P x2 f x1), n)) (f, n) = (f, n)
      rw [e, abIte_t ⟨g.1.1, g.1.2, g.2.1⟩, abIte_f (fun ⟨k, b1, b2, b3, b4⟩ => g.2.2 k b1 b2 b3 b4)]
      have : abPut f x1 (f x1) = f := by
        funext k
        unfold abPut
        by_cases z : k = x1
        · rw [if_pos z, z]
        · rw [if_neg z]
      rw [this]
    · have e71 := hM.2.2.2.2.1 (abTo P x2 f x1) (by omega) (by omega)
      have e71' : σ 71 0 (abBehind P (f x1) (P 29 (x1 * 12 + x2 % P 28 x1.toNat).toNat)).toNat = P 23 (abTo P x2 f x1).toNat := e71
      have k01 := hC.2.2.2.2.2.2.1 (abTo P x2 f x1).toNat (by omega)
      rw [e71']
      refine ⟨gt'.1, ⟨by omega, by omega⟩, fun q3 => ⟨_, rfl, rfl, ⟨by omega, by omega⟩, rfl, ⟨gt.1, gt.2, q3⟩, q2, fun k b1 b2 => by omega⟩, fun q3 => stay (abIte_f (fun z => q3 z.2.2))⟩
  · have a := hC.2.2.2.1
    have wh := hC.wh
    rintro μ y3 y4 σ' ⟨rfl, rfl, hy, rfl, op, ne, nk⟩
    rw [hM.1.2.2.2.1]
    have o1 := op.1
    have o2 := op.2.1
    refine ⟨⟨⟨by omega, by omega⟩, by omega, by omega⟩, fun q => ⟨⟨by omega, by omega⟩, ?_⟩, fun q => ⟨⟨by omega, by omega⟩, ?_⟩⟩
    · have nt : ¬ abTaken P f x1 (abTo P x2 f x1) := fun ⟨k, b1, b2, b3, b4⟩ => nk k b1 (by omega) b4
      have e : abGo P x2 (f, n) x1 = (abPut f x1 (abTo P x2 f x1), n) := by
        unfold abGo
        rw [abIte_t op, abIte_f nt]
      refine h _ (mFr.id.up (by decide) (by decide)) ?_ ?_
      · rw [e]
        intro l l0 l1
        show _ = abPut f x1 _ l
        unfold abPut
        by_cases z : l = x1
        · rw [if_pos z, z, slU_same]
        · rw [if_neg z, slU_ne (by omega)]; exact hf l l0 l1
      · rw [e, slU_else (by omega)]; exact hn
    · have gy := (hg y4 hy.1 (by omega)).1.dv hC
      rw [hf y4 hy.1 (by omega)]
      refine ⟨⟨⟨by omega, by omega⟩, by omega, by omega⟩, fun q3 => ?_, fun q3 => ⟨_, Or.inl (by show (P 1 3 - (y4 + 1)).toNat < (P 1 3 - y4).toNat; omega), rfl, rfl, ⟨by omega, by omega⟩, rfl, op, ne, fun k b1 b2 => ?_⟩⟩
      · have e : abGo P x2 (f, n) x1 = (f, n + 1) := by
          unfold abGo
          rw [abIte_t op, abIte_t ⟨y4, hy.1, by omega, fun z => ne (by rw [← q3, z]), q3⟩]
        refine h _ (mFr.id.up12 (by decide)) ?_ ?_
        · rw [e]
          intro l l0 l1
          rw [slU_else (by omega)]; exact hf l l0 l1
        · rw [e, slU_same, hn]
      · by_cases z : k = y4
        · rw [z]; exact q3
        · exact nk k b1 (by omega)
theorem ab_best {g : Int → Int} {b : Int} {R : List Int} (hp : R.Pairwise (abBef g)) (hb : b ∈ R) (hbest : ∀ l ∈ R, g l < g b ∨ (g l = g b ∧ b ≤ l)) : ∃ T, R = b :: T := by
  match R with
  | a :: T =>
    have p := List.pairwise_cons.mp hp
    rcases List.mem_cons.mp hb with e | e
    · exact ⟨T, by rw [e]⟩
    · have q := p.1 b e
      have r := hbest a (by simp)
      unfold abBef at q
      omega
theorem sClr {m b : Int} (hm : 0 ≤ m) (hm' : m < 32) (hb : 0 ≤ b) (hb' : b < 5) (hs : abBit m b = 1) : sAnd m (sXor (sShl 1 b) (-1)) = m - 2 ^ b.toNat := by
  obtain ⟨a, rfl⟩ := Int.eq_ofNat_of_zero_le hm
  obtain ⟨c, rfl⟩ := Int.eq_ofNat_of_zero_le hb
  exact (by decide +kernel : ∀ a, a < 32 → ∀ c, c < 5 → abBit ((a : Nat) : Int) ((c : Nat) : Int) = 1 → sAnd (a : Int) (sXor (sShl 1 (c : Int)) (-1)) = (a : Int) - 2 ^ ((c : Int)).toNat) a (by omega) c (by omega) hs
theorem abMask_del {f g : Int → Prop} {b : Int} (hb : 0 ≤ b) : ∀ {n : Nat}, b < n → f b → ¬ g b → (∀ k : Int, 0 ≤ k → k < n → k ≠ b → (f k ↔ g k)) → abMask g n = abMask f n - 2 ^ b.toNat
  | 0, h, _, _, _ => absurd h (by omega)
  | n + 1, h, h1, h2, h3 => by
    show abMask g n + abIf (g n) (2 ^ n) 0 = abMask f n + abIf (f n) (2 ^ n) 0 - 2 ^ b.toNat
    by_cases e : b = n
    · subst e
      rw [abIf_t h1, abIf_f h2, abMask_c (fun k a c => (h3 k a (by omega) (by omega)).symm), Int.toNat_natCast]
      omega
    · rw [abMask_del hb (by omega) h1 h2 (fun k a c d => h3 k a (by omega) d), abIf_c (h3 n (by omega) (by omega) (fun z => e z.symm))]
      omega
theorem abMask_all {n : Nat} (h : n ≤ 5) : sShl 1 (n : Int) - 1 = abMask (fun _ => True) n := by
  have e : ∀ n, abMask (fun _ => True) n = 2 ^ n - 1 := by
    intro n
    induction n with
    | zero => rfl
    | succ n ih =>
      show abMask (fun _ => True) n + abIf True (2 ^ n) 0 = 2 ^ (n + 1) - 1
      rw [abIf_t trivial, ih, Int.pow_succ]
      omega
  rw [e, sShl_1 (by omega) (by omega), Int.toNat_natCast]
set_option maxHeartbeats 1000000 in
set_option maxRecDepth 4000 in
theorem sp_X12_allStep {G : slG} (hG : slGood G) {d K : Nat} (hd : 3 ≤ d) (hK : 0 ≤ K) {Φ : slPost} {σ : slM} {x1 : Int} {x2 : Int} {P : abP} {f oil : Int → Int} {n : Int} (hM : isM P σ) (hC : gdC P) (h1 : 0 ≤ x1 ∧ x1 < 240) (h2 : x2 = -1 ∨ (0 ≤ x2 ∧ x2 < P 4 4)) (hf : ∀ l : Int, 0 ≤ l → l < P 1 3 → σ 94 0 l.toNat = f l) (hg : gdP P f) (hn : σ 12 0 65 = n) (h0 : ∀ l : Int, 0 ≤ l → l < P 1 3 → 0 ≤ oil l ∧ oil l ≤ 200) (ho : ∀ l : Int, 0 ≤ l → l < P 1 3 → σ 93 0 (240 * l + x1).toNat = abOil (oil l) x1) (h : ∀ τ, mFr [90, 91, 94, 95] [65] σ τ → (∀ l : Int, 0 ≤ l → l < P 1 3 → τ 94 0 l.toNat = ((abSort (fun l => abG P x2 (oil l) x1 l) (P 1 3).toNat).foldl (abGo P x1) (f, n)).1 l) → τ 12 0 65 = ((abSort (fun l => abG P x2 (oil l) x1 l) (P 1 3).toNat).foldl (abGo P x1) (f, n)).2 → Φ (0, 0) τ) :
    slCall G mX12_allStep d K [sR 12 0, sI x1, sI x2] σ Φ := by
  refine vc_X12_allStep hG (by omega) hK (fun μ y3 σ' => mFr [90, 91, 94, 95] [65] σ σ' ∧ μ = (20, (P 1 3 - y3).toNat, 0) ∧ (0 ≤ y3 ∧ y3 ≤ P 1 3) ∧ σ' 94 0 = σ 94 0 ∧ σ' 12 0 65 = n ∧ ∀ l : Int, 0 ≤ l → l < y3 → σ' 95 0 l.toNat = abG P x2 (oil l) x1 l) (fun μ y3 σ' => mFr [90, 91, 94, 95] [65] σ σ' ∧ (∀ l : Int, 0 ≤ l → l < P 1 3 → σ' 95 0 l.toNat = abG P x2 (oil l) x1 l) ∧ ∃ D R : List Int, abSort (fun l => abG P x2 (oil l) x1 l) (P 1 3).toNat = D ++ R ∧ μ = (R.length, 10, 0) ∧ y3 = abMask (fun l => l ∈ R) (P 1 3).toNat ∧ (∀ l : Int, 0 ≤ l → l < P 1 3 → σ' 94 0 l.toNat = (D.foldl (abGo P x1) (f, n)).1 l) ∧ σ' 12 0 65 = (D.foldl (abGo P x1) (f, n)).2) (fun μ y3 y4 y5 σ' => mFr [90, 91, 94, 95] [65] σ σ' ∧ (∀ l : Int, 0 ≤ l → l < P 1 3 → σ' 95 0 l.toNat = abG P x2 (oil l) x1 l) ∧ ∃ D R : List Int, abSort (fun l => abG P x2 (oil l) x1 l) (P 1 3).toNat = D ++ R ∧ μ = (R.length, 0, (P 1 3 - y5).toNat) ∧ y3 = abMask (fun l => l ∈ R) (P 1 3).toNat ∧ ¬ y3 = 0 ∧ (∀ l : Int, 0 ≤ l → l < P 1 3 → σ' 94 0 l.toNat = (D.foldl (abGo P x1) (f, n)).1 l) ∧ σ' 12 0 65 = (D.foldl (abGo P x1) (f, n)).2 ∧ (0 ≤ y5 ∧ y5 ≤ P 1 3) ∧ ((y4 = -1 ∧ ∀ l ∈ R, y5 ≤ l) ∨ (y4 ∈ R ∧ y4 < y5 ∧ ∀ l ∈ R, l < y5 → abG P x2 (oil l) x1 l < abG P x2 (oil y4) x1 y4 ∨ (abG P x2 (oil l) x1 l = abG P x2 (oil y4) x1 y4 ∧ y4 ≤ l)))) ?_ ?_ ?_ ?_
  · have a := hC.2.2.2.1
    exact ⟨_, mFr.id, rfl, ⟨by omega, by omega⟩, rfl, hn, fun l x y => by omega⟩
  · have a := hC.2.2.2.1
    rintro μ y3 σ' ⟨fr, rfl, hy, e94, en, ct⟩
    have M2 := hM.fr fr (by decide) (by decide)
    rw [M2.1.2.2.2.1]
    refine ⟨⟨⟨by omega, by omega⟩, by omega, by omega⟩, fun q => ?_, fun q => ?_⟩
    · refine ⟨(((abSort (fun l => abG P x2 (oil l) x1 l) (P 1 3).toNat)).length, 10, 0), Or.inl (by show (abSort _ _).length < 20; rw [abSort_len]; omega), fr, fun l x y => ct l x (by omega), [], _, rfl, rfl, ?_, fun l x y => by rw [e94]; exact hf l x y, en⟩
      rw [show P 1 3 = ((P 1 3).toNat : Int) by omega, abMask_all (by omega), Int.toNat_natCast]
      exact abMask_c (fun k x y => ⟨fun _ => abSort_mem.mpr ⟨x, y⟩, fun _ => trivial⟩)
    · have e93 : σ' 93 0 = σ 93 0 := fr.1 93 0 (by decide) (by decide)
      refine sp_X12_yieldsBy hG (by omega) (by omega) M2 hC ⟨by omega, by omega⟩ h1 h2 (h0 y3 (by omega) (by omega)) (by rw [e93]; exact ho y3 (by omega) (by omega)) (fun τ f2 => slKt.ok ⟨⟨by omega, by omega⟩, (20, (P 1 3 - (y3 + 1)).toNat, 0), Or.inr ⟨rfl, Or.inl (by show (P 1 3 - (y3 + 1)).toNat < (P 1 3 - y3).toNat; omega)⟩, (fr.tr (f2.mono (by decide) (by decide))).up (by decide) (by decide), rfl, ⟨by omega, by omega⟩, ?_, ?_, fun l x y => ?_⟩)
      · rw [slU_else (by omega), f2.1 94 0 (by decide) (by decide)]; exact e94
      · rw [slU_else (by omega), f2.2 65 (by decide)]; exact en
      · by_cases z : l = y3
        · rw [z, slU_same]
        · rw [slU_ne (by omega), f2.1 95 0 (by decide) (by decide)]; exact ct l x (by omega)
  · have a := hC.2.2.2.1
    rintro μ y3 σ' ⟨fr, ct, D, R, eS, rfl, rfl, c1, c2⟩
    have r5 := abMask_5 (f := fun l => l ∈ R) (n := (P 1 3).toNat) (by omega)
    refine ⟨⟨by omega, by omega⟩, fun q => ?_, fun q => ⟨(R.length, 0, (P 1 3 - 0).toNat), Or.inr ⟨rfl, Or.inl (by decide : 0 < 10)⟩, fr, ct, D, R, eS, rfl, rfl, q, c1, c2, ⟨by omega, by omega⟩, Or.inl ⟨rfl, fun l hl => ?_⟩⟩⟩
    · have nR : R = [] := by
        match R, eS, q with
        | [], _, _ => rfl
        | l :: R, eS, q =>
          have m1 : l ∈ abSort (fun l => abG P x2 (oil l) x1 l) (P 1 3).toNat := by rw [eS]; simp
          have m2 := abSort_mem.mp m1
          exact absurd (by simp : l ∈ l :: R) (abMask_0.mp q l m2.1 m2.2)
      rw [nR, List.append_nil] at eS
      rw [← eS] at c1 c2
      exact h σ' fr c1 c2
    · have m1 : l ∈ abSort (fun l => abG P x2 (oil l) x1 l) (P 1 3).toNat := by rw [eS]; simp [hl]
      exact (abSort_mem.mp m1).1
  · have a := hC.2.2.2.1
    rintro μ y3 y4 y5 σ' ⟨fr, ct, D, R, eS, rfl, rfl, nz, c1, c2, hy, alt⟩
    have M2 := hM.fr fr (by decide) (by decide)
    rw [M2.1.2.2.2.1]
    have r5 := abMask_5 (f := fun l => l ∈ R) (n := (P 1 3).toNat) (by omega)
    have mR : ∀ l ∈ R, 0 ≤ l ∧ l < P 1 3 := fun l hl => by
      have m1 : l ∈ abSort (fun l => abG P x2 (oil l) x1 l) (P 1 3).toNat := by rw [eS]; simp [hl]
      have := abSort_mem.mp m1
      omega
    refine ⟨⟨⟨by omega, by omega⟩, by omega, by omega⟩, fun q => ?_, fun q => ?_⟩
    · rcases alt with ⟨rfl, z⟩ | ⟨z1, z2, z3⟩
      · exact absurd (abMask_0.mpr (fun k x y hk => by have := z k hk; omega)) nz
      · have pw : R.Pairwise (abBef (fun l => abG P x2 (oil l) x1 l)) := by
          have p := abSort_pw (g := fun l => abG P x2 (oil l) x1 l) (n := (P 1 3).toNat)
          rw [eS] at p
          exact (List.pairwise_append.mp p).2.1
        obtain ⟨T, eT⟩ := ab_best pw z1 (fun l hl => z3 l hl (by have := mR l hl; omega))
        have my := mR y4 z1
        have pT := List.pairwise_cons.mp (by rw [eT] at pw; exact pw)
        have nT : y4 ∉ T := fun hz => by
          have := pT.1 y4 hz
          unfold abBef at this
          omega
        have gd : gdP P (D.foldl (abGo P x1) (f, n)).1 := gdP.fold (s := (f, n)) hg
        refine sp_X12_steps hG (by omega) (by omega) M2 hC my h1 c1 gd c2 (fun τ f2 d1 d2 => slKt.ok ⟨(T.length, 10, 0), Or.inl (by show T.length < R.length; rw [eT]; show T.length < T.length + 1; omega), fr.tr (f2.mono (by decide) (by decide)), fun l x y => by rw [f2.1 95 0 (by decide) (by decide)]; exact ct l x y, D ++ [y4], T, by rw [eS, eT]; simp, rfl, ?_, ?_, ?_⟩)
        · have bt := abMask_bit (f := fun l => l ∈ R) (n := (P 1 3).toNat) (by omega) my.1 (by omega)
          rw [abIf_t z1] at bt
          rw [sClr r5.1 r5.2 my.1 (by omega) bt]
          refine (abMask_del (f := fun l => l ∈ R) my.1 (by omega) z1 nT (fun k x y ne => ?_)).symm
          rw [eT, List.mem_cons]
          exact ⟨fun w => w.resolve_left ne, Or.inr⟩
        · rw [List.foldl_append]; exact d1
        · rw [List.foldl_append]; exact d2
    · have tst := abMask_tst (f := fun l => l ∈ R) (n := (P 1 3).toNat) (by omega) hy.1 (by omega)
      rw [tst]
      have lt : slLt (R.length, 0, (P 1 3 - (y5 + 1)).toNat) (R.length, 0, (P 1 3 - y5).toNat) := Or.inr ⟨rfl, Or.inr ⟨rfl, by show (P 1 3 - (y5 + 1)).toNat < (P 1 3 - y5).toNat; omega⟩⟩
      refine ⟨in01, fun q2 => ⟨_, lt, fr, ct, D, R, eS, rfl, rfl, nz, c1, c2, ⟨by omega, by omega⟩, ?_⟩, fun q2 => ?_⟩
      · have ny : y5 ∉ R := fun hz => q2 (abIf_t hz)
        rcases alt with ⟨z0, z⟩ | ⟨z1, z2, z3⟩
        · refine Or.inl ⟨z0, fun l hl => ?_⟩
          have := z l hl
          have : l ≠ y5 := fun e => ny (by rw [← e]; exact hl)
          omega
        · refine Or.inr ⟨z1, by omega, fun l hl w => z3 l hl ?_⟩
          have : l ≠ y5 := fun e => ny (by rw [← e]; exact hl)
          omega
      · have my : y5 ∈ R := by
          by_cases w : y5 ∈ R
          · exact w
          · rw [abIf_f w] at q2; omega
        have r4 : y4 = -1 ∨ (0 ≤ y4 ∧ y4 < P 1 3) := by
          rcases alt with ⟨z0, z⟩ | ⟨z1, z2, z3⟩
          · exact Or.inl z0
          · exact Or.inr (mR y4 z1)
        refine ⟨⟨by omega, by omega⟩, fun q3 => ⟨_, lt, fr, ct, D, R, eS, rfl, rfl, nz, c1, c2, ⟨by omega, by omega⟩, Or.inr ⟨my, by omega, fun l hl w => ?_⟩⟩, fun q3 => ?_⟩
        · rcases alt with ⟨z0, z⟩ | ⟨z1, z2, z3⟩
          · have := z l hl
            have : l = y5 := by omega
            rw [this]
            exact Or.inr ⟨rfl, by omega⟩
          · have := mR y4 z1
            omega
        · rcases alt with ⟨z0, z⟩ | ⟨z1, z2, z3⟩
          · exact absurd z0 q3
          · have m4 := mR y4 z1
            have i5 := abG_in (l := y5) hC h2 (h0 y5 (by omega) (by omega)) ⟨by omega, by omega⟩ h1
            have i4 := abG_in hC h2 (h0 y4 m4.1 m4.2) m4 h1
            rw [ct y5 (by omega) (by omega), ct y4 m4.1 m4.2]
            refine ⟨⟨by omega, by omega⟩, ⟨by omega, by omega⟩, ⟨i5, i4⟩, fun q4 => ⟨_, lt, fr, ct, D, R, eS, rfl, rfl, nz, c1, c2, ⟨by omega, by omega⟩, Or.inr ⟨z1, by omega, fun l hl w => ?_⟩⟩, fun q4 => ⟨_, lt, fr, ct, D, R, eS, rfl, rfl, nz, c1, c2, ⟨by omega, by omega⟩, Or.inr ⟨my, by omega, fun l hl w => ?_⟩⟩⟩
            · by_cases e : l = y5
              · rw [e]; omega
              · exact z3 l hl (by omega)
            · by_cases e : l = y5
              · rw [e]; exact Or.inr ⟨rfl, by omega⟩
              · have := z3 l hl (by omega)
                omega
theorem abOil_0 {o : Int} (h : 0 ≤ o) : abOil o 0 = o := by unfold abOil; omega
theorem abOil_s {o h : Int} (h0 : 0 ≤ o) (h1 : 0 ≤ h) : abOil o (h + 1) = abOil o h - abIf (abLit o h) 1 0 := by
  by_cases z : abLit o h
  · rw [abIf_t z]
    unfold abLit at z
    unfold abOil at z ⊢
    omega
  · rw [abIf_f z]
    unfold abLit at z
    unfold abOil at z ⊢
    omega
set_option maxHeartbeats 1000000 in
set_option maxRecDepth 4000 in
theorem sp_X12_sails {G : slG} (hG : slGood G) {d K : Nat} (hd : 4 ≤ d) (hK : 0 ≤ K) {Φ : slPost} {σ : slM} {x1 : Int} {x2 : Int} {P : abP} {b oil : Int → Int} (hM : isM P σ) (hC : gdC P) (h1 : 1 ≤ x1 ∧ x1 ≤ 240) (h2 : x2 = -1 ∨ (0 ≤ x2 ∧ x2 < P 4 4)) (hb : ∀ l : Int, 0 ≤ l → l < P 1 3 → σ 88 0 (13 + l).toNat = b l) (hg : gdP P b) (ho : ∀ l : Int, 0 ≤ l → l < P 1 3 → σ 88 0 (0 + l).toNat = oil l) (h0 : ∀ l : Int, 0 ≤ l → l < P 1 3 → 0 ≤ oil l ∧ oil l ≤ 200) (h : ∀ τ, mFr [90, 91, 92, 93, 94, 95] [65] σ τ → (∀ (n : Nat) (l : Int), (n : Int) < x1 → 0 ≤ l → l < P 1 3 → τ 92 0 (240 * l + n).toNat = (abCrs P (abOrd P x2 oil) b n).1 l) → (∀ (n : Nat) (l : Int), (n : Int) < x1 → 0 ≤ l → l < P 1 3 → τ 93 0 (240 * l + n).toNat = abOil (oil l) n) → τ 12 0 65 = (abCrs P (abOrd P x2 oil) b (x1 - 1).toNat).2 → Φ (0, 0) τ) :
    slCall G mX12_sails d K [sR 12 0, sI x1, sI x2] σ Φ := by
  refine vc_X12_sails hG (by omega) hK (fun μ y3 σ' => mFr [90, 91, 92, 93, 94, 95] [65] σ σ' ∧ μ = (1000, (P 1 3 - y3).toNat, 0) ∧ (0 ≤ y3 ∧ y3 ≤ P 1 3) ∧ σ' 12 0 65 = 0 ∧ (∀ l : Int, 0 ≤ l → l < y3 → σ' 94 0 l.toNat = b l) ∧ ∀ l : Int, 0 ≤ l → l < y3 → σ' 93 0 (240 * l).toNat = oil l) (fun μ y3 σ' => mFr [90, 91, 92, 93, 94, 95] [65] σ σ' ∧ μ = ((240 - y3).toNat, 20, 0) ∧ (0 ≤ y3 ∧ y3 ≤ x1) ∧ (∀ (n : Nat) (l : Int), (n : Int) < y3 → 0 ≤ l → l < P 1 3 → σ' 92 0 (240 * l + n).toNat = (abCrs P (abOrd P x2 oil) b n).1 l) ∧ (∀ (n : Nat) (l : Int), (n : Int) ≤ y3 → (n : Int) < x1 → 0 ≤ l → l < P 1 3 → σ' 93 0 (240 * l + n).toNat = abOil (oil l) n) ∧ (y3 < x1 → σ' 12 0 65 = (abCrs P (abOrd P x2 oil) b y3.toNat).2 ∧ ∀ l : Int, 0 ≤ l → l < P 1 3 → σ' 94 0 l.toNat = (abCrs P (abOrd P x2 oil) b y3.toNat).1 l) ∧ (y3 = x1 → σ' 12 0 65 = (abCrs P (abOrd P x2 oil) b (x1 - 1).toNat).2)) (fun μ y3 y4 σ' => mFr [90, 91, 92, 93, 94, 95] [65] σ σ' ∧ μ = ((240 - y3).toNat, 0, (P 1 3 - y4).toNat) ∧ (0 ≤ y3 ∧ y3 < x1) ∧ (0 ≤ y4 ∧ y4 ≤ P 1 3) ∧ (∀ (n : Nat) (l : Int), (n : Int) < y3 → 0 ≤ l → l < P 1 3 → σ' 92 0 (240 * l + n).toNat = (abCrs P (abOrd P x2 oil) b n).1 l) ∧ (∀ (n : Nat) (l : Int), (n : Int) ≤ y3 → (n : Int) < x1 → 0 ≤ l → l < P 1 3 → σ' 93 0 (240 * l + n).toNat = abOil (oil l) n) ∧ (σ' 12 0 65 = (abCrs P (abOrd P x2 oil) b y3.toNat).2 ∧ ∀ l : Int, 0 ≤ l → l < P 1 3 → σ' 94 0 l.toNat = (abCrs P (abOrd P x2 oil) b y3.toNat).1 l) ∧ (∀ l : Int, 0 ≤ l → l < y4 → σ' 92 0 (240 * l + y3).toNat = (abCrs P (abOrd P x2 oil) b y3.toNat).1 l) ∧ (y3 + 1 < x1 → ∀ l : Int, 0 ≤ l → l < y4 → σ' 93 0 (240 * l + y3 + 1).toNat = abOil (oil l) (y3 + 1))) ?_ ?_ ?_ ?_
  · have a := hC.2.2.2.1
    exact ⟨_, mFr.id.up12 (by decide), rfl, ⟨by omega, by omega⟩, slU_same _ _ _ _ _, fun l x y => by omega, fun l x y => by omega⟩
  · have a := hC.2.2.2.1
    rintro μ y3 σ' ⟨fr, rfl, hy, e65, e94, e93⟩
    have M2 := hM.fr fr (by decide) (by decide)
    rw [M2.1.2.2.2.1, slU_else (by omega), fr.1 88 0 (by decide) (by decide)]
    refine ⟨⟨⟨by omega, by omega⟩, by omega, by omega⟩, fun q => ⟨((240 - 0 : Int).toNat, 20, 0), Or.inl (by show (240 - 0 : Int).toNat < 1000; decide), fr, rfl, ⟨by omega, by omega⟩, fun n l x => by omega, fun n l x x1 y z => ?_, fun _ => ⟨e65, fun l x y => e94 l x (by omega)⟩, fun e => by omega⟩, fun q => ⟨⟨by omega, by omega⟩, ⟨by omega, by omega⟩, ⟨by omega, by omega⟩, ⟨by omega, by omega⟩, (1000, (P 1 3 - (y3 + 1)).toNat, 0), Or.inr ⟨rfl, Or.inl (by show (P 1 3 - (y3 + 1)).toNat < (P 1 3 - y3).toNat; omega)⟩, (fr.up (by decide) (by decide)).up (by decide) (by decide), rfl, ⟨by omega, by omega⟩, ?_, fun l x y => ?_, fun l x y => ?_⟩⟩
    · have e : n = 0 := by omega
      subst e
      rw [show 240 * l + ((0 : Nat) : Int) = 240 * l by omega, e93 l y (by omega)]
      exact (abOil_0 (h0 l y z).1).symm
    · rw [slU_else (by omega), slU_else (by omega)]; exact e65
    · rw [slU_else (by omega)]
      by_cases z : l = y3
      · rw [z, slU_same]; exact hb y3 hy.1 (by omega)
      · rw [slU_ne (by omega)]; exact e94 l x (by omega)
    · by_cases z : l = y3
      · rw [z, slU_same]; exact ho y3 hy.1 (by omega)
      · rw [slU_ne (by omega), slU_else (by omega)]; exact e93 l x (by omega)
  · have a := hC.2.2.2.1
    rintro μ y3 σ' ⟨fr, rfl, hy, e92, e93, e1, e2⟩
    refine ⟨⟨⟨by omega, by omega⟩, by omega, by omega⟩, fun q => h σ' fr (fun n l x y z => e92 n l (by omega) y z) (fun n l x y z => e93 n l (by omega) x y z) (e2 (by omega)), fun q => ⟨((240 - y3).toNat, 0, (P 1 3 - 0).toNat), Or.inr ⟨rfl, Or.inl (by decide : 0 < 20)⟩, fr, rfl, ⟨by omega, by omega⟩, ⟨by omega, by omega⟩, e92, e93, e1 (by omega), fun l x y => by omega, fun _ l x y => by omega⟩⟩
  · have a := hC.2.2.2.1
    rintro μ y3 y4 σ' ⟨fr, rfl, hy, hy4, e92, e93, ⟨e65, e94⟩, e5, e6⟩
    have M2 := hM.fr fr (by decide) (by decide)
    rw [M2.1.2.2.2.1]
    refine ⟨⟨⟨by omega, by omega⟩, by omega, by omega⟩, fun q => ⟨⟨⟨by omega, by omega⟩, by omega, by omega⟩, fun q2 => ?_, fun q2 => ?_⟩, fun q => ⟨⟨by omega, by omega⟩, ⟨by omega, by omega⟩, ⟨⟨by omega, by omega⟩, by omega, by omega⟩, fun q2 => ?_, fun q2 => ⟨⟨by omega, by omega⟩, ?_⟩⟩⟩
    · refine ⟨((240 - (y3 + 1)).toNat, 20, 0), Or.inl (by show (240 - (y3 + 1)).toNat < (240 - y3).toNat; omega), fr, rfl, ⟨by omega, by omega⟩, fun n l x y z => ?_, fun n l x x1 y z => e93 n l (by omega) x1 y z, fun e => by omega, fun e => by rw [e65, show (x1 - 1).toNat = y3.toNat by omega]⟩
      by_cases w : (n : Int) = y3
      · rw [w, e5 l y (by omega), show n = y3.toNat by omega]
      · exact e92 n l (by omega) y z
    · have gd := hg.crs (ord := abOrd P x2 oil) y3.toNat
      refine sp_X12_allStep hG (by omega) (by omega) M2 hC ⟨by omega, by omega⟩ h2 e94 gd e65 h0 (fun l x y => by have := e93 y3.toNat l (by omega) (by omega) x y; rw [show ((y3.toNat : Nat) : Int) = y3 by omega] at this; exact this) (fun τ f2 d1 d2 => slKt.ok ⟨((240 - (y3 + 1)).toNat, 20, 0), Or.inl (by show (240 - (y3 + 1)).toNat < (240 - y3).toNat; omega), fr.tr (f2.mono (by decide) (by decide)), rfl, ⟨by omega, by omega⟩, fun n l x y z => ?_, fun n l x x1 y z => ?_, fun _ => ?_, fun e => by omega⟩)
      · rw [f2.1 92 0 (by decide) (by decide)]
        by_cases w : (n : Int) = y3
        · rw [w, e5 l y (by omega), show n = y3.toNat by omega]
        · exact e92 n l (by omega) y z
      · rw [f2.1 93 0 (by decide) (by decide)]
        by_cases w : (n : Int) = y3 + 1
        · rw [w, show 240 * l + (y3 + 1) = 240 * l + y3 + 1 by omega, e6 (by omega) l y (by omega)]
        · exact e93 n l (by omega) x1 y z
      · have es : (abCrs P (abOrd P x2 oil) b (y3 + 1).toNat) = (abSort (fun l => abG P x2 (oil l) y3 l) (P 1 3).toNat).foldl (abGo P y3) (abCrs P (abOrd P x2 oil) b y3.toNat) := by
          rw [show (y3 + 1).toNat = y3.toNat + 1 by omega]
          show (abSort (fun l => abG P x2 (oil l) (y3.toNat : Int) l) (P 1 3).toNat).foldl (abGo P (y3.toNat : Int)) _ = _
          rw [show ((y3.toNat : Nat) : Int) = y3 by omega]
        rw [es]
        exact ⟨d2, d1⟩
    · refine ⟨((240 - y3).toNat, 0, (P 1 3 - (y4 + 1)).toNat), Or.inr ⟨rfl, Or.inr ⟨rfl, by show (P 1 3 - (y4 + 1)).toNat < (P 1 3 - y4).toNat; omega⟩⟩, fr.up (by decide) (by decide), rfl, hy, ⟨by omega, by omega⟩, fun n l x y z => ?_, fun n l x x1 y z => ?_, ⟨?_, fun l x y => ?_⟩, fun l x y => ?_, fun e => by omega⟩
      · rw [slU_ne (by omega)]; exact e92 n l x y z
      · rw [slU_else (by omega)]; exact e93 n l x x1 y z
      · rw [slU_else (by omega)]; exact e65
      · rw [slU_else (by omega)]; exact e94 l x y
      · by_cases w : l = y4
        · rw [w, slU_same]; exact e94 y4 hy4.1 (by omega)
        · rw [slU_ne (by omega)]; exact e5 l x (by omega)
    · have e3 := e93 y3.toNat y4 (by omega) (by omega) hy4.1 (by omega)
      rw [show ((y3.toNat : Nat) : Int) = y3 by omega] at e3
      refine sp_X12_isLitIn hG (by omega) (by omega) ⟨by omega, by omega⟩ ⟨by omega, by omega⟩ (h0 y4 hy4.1 (by omega)) (by rw [slU_else (by omega)]; exact e3) (slKt.ok ⟨in01, ⟨by omega, by omega⟩, ?_⟩)
      have e01 : (if abIf (abLit (oil y4) y3) 1 0 = 0 then (0 : Int) else 1) = abIf (abLit (oil y4) y3) 1 0 := by
        rcases abIf_01 (p := abLit (oil y4) y3) with z | z <;> rw [z] <;> rfl
      rw [e01, slU_else (by omega), e3, ← abOil_s (h0 y4 hy4.1 (by omega)).1 hy.1]
      refine ⟨((240 - y3).toNat, 0, (P 1 3 - (y4 + 1)).toNat), Or.inr ⟨rfl, Or.inr ⟨rfl, by show (P 1 3 - (y4 + 1)).toNat < (P 1 3 - y4).toNat; omega⟩⟩, (fr.up (by decide) (by decide)).up (by decide) (by decide), rfl, hy, ⟨by omega, by omega⟩, fun n l x y z => ?_, fun n l x x1 y z => ?_, ⟨?_, fun l x y => ?_⟩, fun l x y => ?_, fun _ l x y => ?_⟩
      · rw [slU_else (by omega), slU_ne (by omega)]; exact e92 n l x y z
      · rw [slU_ne (by omega), slU_else (by omega)]; exact e93 n l x x1 y z
      · rw [slU_else (by omega), slU_else (by omega)]; exact e65
      · rw [slU_else (by omega), slU_else (by omega)]; exact e94 l x y
      · rw [slU_else (by omega)]
        by_cases w : l = y4
        · rw [w, slU_same]; exact e94 y4 hy4.1 (by omega)
        · rw [slU_ne (by omega)]; exact e5 l x (by omega)
      · by_cases w : l = y4
        · rw [w, slU_same]
        · rw [slU_ne (by omega), slU_else (by omega)]; exact e6 (by omega) l x (by omega)
