/-! ===== the course ===== -/
noncomputable def abIte {α : Type} (p : Prop) (a b : α) : α := @ite α p (Classical.propDecidable p) a b
theorem abIte_t {α : Type} {p : Prop} {a b : α} (h : p) : abIte p a b = a := if_pos h
theorem abIte_f {α : Type} {p : Prop} {a b : α} (h : ¬ p) : abIte p a b = b := if_neg h
def abPut (f : Int → Int) (l v : Int) : Int → Int := fun k => if k = l then v else f k
def abTo (P : abP) (h : Int) (f : Int → Int) (l : Int) : Int := abBehind P (f l) (abWay P l h)
def abTaken (P : abP) (f : Int → Int) (l to : Int) : Prop := ∃ k : Int, 0 ≤ k ∧ k < P 1 3 ∧ k ≠ l ∧ f k = to
noncomputable def abGo (P : abP) (h : Int) (s : (Int → Int) × Int) (l : Int) : (Int → Int) × Int :=
  abIte (abOpen P (abTo P h s.1 l)) (abIte (abTaken P s.1 l (abTo P h s.1 l)) (s.1, s.2 + 1) (abPut s.1 l (abTo P h s.1 l), s.2)) s
noncomputable def abCrs (P : abP) (ord : Nat → List Int) (b : Int → Int) : Nat → (Int → Int) × Int
  | 0 => (b, 0)
  | n + 1 => (ord n).foldl (abGo P n) (abCrs P ord b n)
noncomputable def abOrd (P : abP) (law : Int) (oil : Int → Int) (n : Nat) : List Int := abSort (fun l => abG P law (oil l) n l) (P 1 3).toNat
/-- lights at cells of the sea, no capes, no two at one -/
def gdP (P : abP) (f : Int → Int) : Prop := ∀ l : Int, 0 ≤ l → l < P 1 3 → gc P (f l) ∧ P 23 (f l).toNat = 0 ∧ ∀ k : Int, 0 ≤ k → k < P 1 3 → k ≠ l → f k ≠ f l
theorem abBehind_r {P : abP} {c s : Int} (hC : gdC P) (h : gc P c) : -200 ≤ abBehind P c s ∧ abBehind P c s ≤ 200 := by
  have g := h.dv hC
  unfold abBehind
  repeat' split
  all_goals omega
theorem abBehind_gc {P : abP} {c s : Int} (hC : gdC P) (h : gc P c) : abBehind P c s = -1 ∨ gc P (abBehind P c s) := by
  have g := h.dv hC
  have e2 := Int.mul_ediv_add_emod c (P 1 0)
  have f2 : P 1 0 * (c / P 1 0 + 1) = P 1 0 * (c / P 1 0) + P 1 0 := by rw [Int.mul_add, Int.mul_one]
  have nn : 0 ≤ P 1 0 * (c / P 1 0) := Int.mul_nonneg (by omega) (by omega)
  unfold gc at h
  unfold abBehind gc
  by_cases s0 : s = 0
  · rw [if_pos s0]
    by_cases z : c / P 1 0 ≤ 0
    · rw [if_pos z]; exact Or.inl rfl
    · rw [if_neg z]
      have : P 1 0 * 1 ≤ P 1 0 * (c / P 1 0) := Int.mul_le_mul_of_nonneg_left (by omega) (by omega)
      exact Or.inr ⟨by omega, by omega⟩
  · rw [if_neg s0]
    by_cases s1 : s = 1
    · rw [if_pos s1]
      by_cases z : P 1 0 ≤ c % P 1 0 + 1
      · rw [if_pos z]; exact Or.inl rfl
      · rw [if_neg z]
        have := ab_wh (w := P 1 0) (h := P 1 1) (x := c % P 1 0 + 1) (y := c / P 1 0) (by omega) (by omega) (by omega) (by omega)
        exact Or.inr ⟨by omega, by omega⟩
    · rw [if_neg s1]
      by_cases s2 : s = 2
      · rw [if_pos s2]
        by_cases z : P 1 1 ≤ c / P 1 0 + 1
        · rw [if_pos z]; exact Or.inl rfl
        · rw [if_neg z]
          have := ab_wh (w := P 1 0) (h := P 1 1) (x := c % P 1 0) (y := c / P 1 0 + 1) (by omega) (by omega) (by omega) (by omega)
          exact Or.inr ⟨by omega, by omega⟩
      · rw [if_neg s2]
        by_cases s3 : s = 3
        · rw [if_pos s3]
          by_cases z : c % P 1 0 ≤ 0
          · rw [if_pos z]; exact Or.inl rfl
          · rw [if_neg z]; exact Or.inr ⟨by omega, by omega⟩
        · rw [if_neg s3]; exact Or.inr h
theorem gdP.go {P : abP} {h l : Int} {s : (Int → Int) × Int} (hg : gdP P s.1) : gdP P (abGo P h s l).1 := by
  unfold abGo
  by_cases z : abOpen P (abTo P h s.1 l)
  · rw [abIte_t z]
    by_cases w : abTaken P s.1 l (abTo P h s.1 l)
    · rw [abIte_t w]; exact hg
    · rw [abIte_f w]
      have nw : ∀ k : Int, 0 ≤ k → k < P 1 3 → k ≠ l → s.1 k ≠ abTo P h s.1 l := fun k a b c d => w ⟨k, a, b, c, d⟩
      intro m m0 m1
      show gc P (abPut s.1 l (abTo P h s.1 l) m) ∧ P 23 (abPut s.1 l (abTo P h s.1 l) m).toNat = 0 ∧ ∀ k : Int, 0 ≤ k → k < P 1 3 → k ≠ m → abPut s.1 l (abTo P h s.1 l) k ≠ abPut s.1 l (abTo P h s.1 l) m
      have p1 : abPut s.1 l (abTo P h s.1 l) l = abTo P h s.1 l := if_pos rfl
      have p2 : ∀ k, k ≠ l → abPut s.1 l (abTo P h s.1 l) k = s.1 k := fun k hk => if_neg hk
      by_cases e : m = l
      · rw [e, p1]
        refine ⟨⟨z.1, z.2.1⟩, z.2.2, fun k a b c => ?_⟩
        rw [p2 k c]
        exact nw k a b c
      · rw [p2 m e]
        have q := hg m m0 m1
        refine ⟨q.1, q.2.1, fun k a b c => ?_⟩
        by_cases e2 : k = l
        · rw [e2, p1]; exact fun t => nw m m0 m1 e t.symm
        · rw [p2 k e2]; exact q.2.2 k a b c
  · rw [abIte_f z]; exact hg
theorem gdP.fold {P : abP} {h : Int} : ∀ {L : List Int} {s : (Int → Int) × Int}, gdP P s.1 → gdP P (L.foldl (abGo P h) s).1
  | [], _, hg => hg
  | l :: L, s, hg => gdP.fold (L := L) (s := abGo P h s l) hg.go
theorem gdP.crs {P : abP} {ord : Nat → List Int} {b : Int → Int} (hg : gdP P b) : ∀ n, gdP P (abCrs P ord b n).1
  | 0 => hg
  | n + 1 => gdP.fold (hg.crs n)
theorem abGo_n {P : abP} {h l : Int} {s : (Int → Int) × Int} : s.2 ≤ (abGo P h s l).2 ∧ (abGo P h s l).2 ≤ s.2 + 1 := by
  unfold abGo
  by_cases z : abOpen P (abTo P h s.1 l)
  · rw [abIte_t z]
    by_cases w : abTaken P s.1 l (abTo P h s.1 l)
    · rw [abIte_t w]; exact ⟨by show s.2 ≤ s.2 + 1; omega, by show s.2 + 1 ≤ s.2 + 1; omega⟩
    · rw [abIte_f w]; exact ⟨by show s.2 ≤ s.2; omega, by show s.2 ≤ s.2 + 1; omega⟩
  · rw [abIte_f z]; exact ⟨by omega, by omega⟩
theorem abFold_n {P : abP} {h : Int} : ∀ {L : List Int} {s : (Int → Int) × Int}, s.2 ≤ (L.foldl (abGo P h) s).2 ∧ (L.foldl (abGo P h) s).2 ≤ s.2 + L.length
  | [], s => by show s.2 ≤ s.2 ∧ s.2 ≤ s.2 + ((0 : Nat) : Int); omega
  | l :: L, s => by
    have a := abFold_n (P := P) (h := h) (L := L) (s := abGo P h s l)
    have b := abGo_n (P := P) (h := h) (l := l) (s := s)
    show s.2 ≤ (L.foldl (abGo P h) (abGo P h s l)).2 ∧ (L.foldl (abGo P h) (abGo P h s l)).2 ≤ s.2 + ((L.length + 1 : Nat) : Int)
    omega
theorem abCrs_n {P : abP} {ord : Nat → List Int} {b : Int → Int} (ho : ∀ n, (ord n).length ≤ 5) : ∀ n : Nat, 0 ≤ (abCrs P ord b n).2 ∧ (abCrs P ord b n).2 ≤ 5 * n
  | 0 => by show (0 : Int) ≤ 0 ∧ (0 : Int) ≤ 5 * ((0 : Nat) : Int); omega
  | n + 1 => by
    have a := abCrs_n (P := P) (b := b) ho n
    have c := abFold_n (P := P) (h := n) (L := ord n) (s := abCrs P ord b n)
    have e := ho n
    show 0 ≤ ((ord n).foldl (abGo P n) (abCrs P ord b n)).2 ∧ ((ord n).foldl (abGo P n) (abCrs P ord b n)).2 ≤ 5 * ((n + 1 : Nat) : Int)
    omega
theorem abOrd_len {P : abP} {law : Int} {oil : Int → Int} (hC : gdC P) (n : Nat) : (abOrd P law oil n).length ≤ 5 := by
  have a := hC.2.2.2.1
  unfold abOrd
  rw [abSort_len]
  omega
theorem abOrd_mem {P : abP} {law : Int} {oil : Int → Int} (hC : gdC P) {n : Nat} {l : Int} (h : l ∈ abOrd P law oil n) : 0 ≤ l ∧ l < P 1 3 := by
  have a := hC.2.2.2.1
  have b := abSort_mem.mp h
  omega
theorem abWay_r {P : abP} {l h : Int} (hC : gdC P) (hl : 0 ≤ l ∧ l < P 1 3) : 0 ≤ abWay P l h ∧ abWay P l h ≤ 4 := by
  have b := hC.2.2.2.2.2.2.2.2.1 l hl.1 hl.2
  have m := ab_mod (a := h) (b := P 28 l.toNat) (by omega)
  exact b.2.2.2.2.2 _ m.1 m.2
set_option maxHeartbeats 1000000 in
set_option maxRecDepth 4000 in
theorem sp_X3_go {G : slG} (hG : slGood G) {d K : Nat} (hd : 2 ≤ d) (hK : 0 ≤ K) {Φ : slPost} {σ : slM} {i0 : Nat} {c : Nat} {x2 : Int} {x3 : Int} {P : abP} {f : Int → Int} {n : Int} (hP : isC c P σ) (hC : gdC P) (h2 : 0 ≤ x2 ∧ x2 < P 1 3) (h3 : 1 ≤ x3 ∧ x3 < 240) (hf : ∀ l : Int, 0 ≤ l → l < P 1 3 → σ 35 i0 (l * 240 + x3).toNat = f l) (hg : gdP P f) (hn : σ 3 i0 2 = n) (h : ∀ τ, slFr [(3, i0), (35, i0)] σ τ → (∀ l : Int, 0 ≤ l → l < P 1 3 → τ 35 i0 (l * 240 + x3).toNat = (abGo P (x3 - 1) (f, n) x2).1 l) → (∀ k : Nat, k % 240 ≠ x3.toNat → τ 35 i0 k = σ 35 i0 k) → τ 3 i0 2 = (abGo P (x3 - 1) (f, n) x2).2 → Φ (0, 0) τ) :
    slCall G mX3_go d K [sR 3 i0, sR 1 c, sI x2, sI x3] σ Φ := by
  refine vc_X3_go hG (by omega) hK (fun μ y4 y5 y6 σ' => σ' = σ ∧ μ = ((P 1 3 - y6).toNat, 0, 0) ∧ (0 ≤ y6 ∧ y6 ≤ P 1 3) ∧ y4 = x2 * 240 + x3 ∧ y5 = abTo P (x3 - 1) f x2 ∧ abOpen P (abTo P (x3 - 1) f x2) ∧ ∀ k : Int, 0 ≤ k → k < y6 → k ≠ x2 → f k ≠ abTo P (x3 - 1) f x2) ?_ ?_
  · have a := hC.2.2.2.1
    have g := hg x2 h2.1 h2.2
    have w := abWay_r (h := x3 - 1) hC h2
    have r := abBehind_r (s := abWay P x2 (x3 - 1)) hC g.1
    refine ⟨⟨by omega, by omega⟩, ?_⟩
    rw [hf x2 h2.1 h2.2]
    refine sp_X1_stepOf hG (by omega) (by omega) hP hC h2 ⟨by omega, by omega⟩ (slKt.ok ?_)
    refine sp_X1_cellBehind hG (by omega) (by omega) hP hC g.1 ⟨by omega, by omega⟩ (slKt.ok ?_)
    refine sp_X1_isOpen hG (by omega) (by omega) hP hC ⟨by omega, by omega⟩ (slKt.ok ⟨in01, fun q => ?_, fun q => ?_⟩)
    · exact ⟨_, rfl, rfl, ⟨by omega, by omega⟩, rfl, rfl, abIf_nz q, fun k a b => by omega⟩
    · have z : ¬ abOpen P (abTo P (x3 - 1) f x2) := abIf_z q
      have e : abGo P (x3 - 1) (f, n) x2 = (f, n) := abIte_f z
      refine h σ slFr.id ?_ (fun _ _ => rfl) ?_
      · rw [e]; exact hf
      · rw [e]; exact hn
  · have a := hC.2.2.2.1
    have wh := hC.wh
    rintro μ y4 y5 y6 σ' ⟨rfl, rfl, hy, rfl, rfl, op, nk⟩
    rw [hP.1]
    have o1 := op.1
    have o2 := op.2.1
    have iy : InR (abTo P (x3 - 1) f x2) := ⟨by omega, by omega⟩
    refine ⟨⟨⟨by omega, by omega⟩, by omega, by omega⟩, fun q => ⟨⟨by omega, by omega⟩, ?_⟩, fun q => ⟨⟨⟨by omega, by omega⟩, by omega, by omega⟩, fun q2 => ?_, fun q2 => ⟨⟨by omega, by omega⟩, ?_⟩⟩⟩
    · have nt : ¬ abTaken P f x2 (abTo P (x3 - 1) f x2) := fun ⟨k, b1, b2, b3, b4⟩ => nk k b1 (by omega) b3 b4
      have e : abGo P (x3 - 1) (f, n) x2 = (abPut f x2 (abTo P (x3 - 1) f x2), n) := by
        unfold abGo
        rw [abIte_t op, abIte_f nt]
      refine h _ (slFr.id.up (by simp)) ?_ (fun k hk => slU_ne (by omega)) ?_
      · rw [e]
        intro l l0 l1
        show _ = abPut f x2 _ l
        unfold abPut
        by_cases z : l = x2
        · rw [if_pos z, z, slU_same]
        · rw [if_neg z, slU_ne (by omega)]; exact hf l l0 l1
      · rw [e, slU_else (by omega)]; exact hn
    · exact ⟨_, Or.inl (by show (P 1 3 - (y6 + 1)).toNat < (P 1 3 - y6).toNat; omega), rfl, rfl, ⟨by omega, by omega⟩, rfl, rfl, op, fun k b1 b2 b3 => nk k b1 (by omega) b3⟩
    · have gy := hg y6 hy.1 (by omega)
      have gy2 := gy.1.dv hC
      rw [hf y6 hy.1 (by omega)]
      refine ⟨⟨⟨by omega, by omega⟩, iy⟩, fun q3 => ⟨_, Or.inl (by show (P 1 3 - (y6 + 1)).toNat < (P 1 3 - y6).toNat; omega), rfl, rfl, ⟨by omega, by omega⟩, rfl, rfl, op, fun k b1 b2 b3 => ?_⟩, fun q3 => ?_⟩
      · by_cases z : k = y6
        · rw [z]; exact q3
        · exact nk k b1 (by omega) b3
      · have e : abGo P (x3 - 1) (f, n) x2 = (f, n + 1) := by
          unfold abGo
          rw [abIte_t op, abIte_t ⟨y6, hy.1, by omega, q2, q3⟩]
        refine h _ (slFr.id.up (by simp)) ?_ (fun k hk => by rw [slU_else (by omega)]) ?_
        · rw [e]
          intro l l0 l1
          rw [slU_else (by omega)]; exact hf l l0 l1
        · rw [e, slU_same, hn]
set_option maxHeartbeats 1000000 in
set_option maxRecDepth 4000 in
theorem sp_X3_sail {G : slG} (hG : slGood G) {d K : Nat} (hd : 3 ≤ d) (hK : 0 ≤ K) {Φ : slPost} {σ : slM} {i0 : Nat} {c : Nat} {s : Nat} {t : Nat} {x4 : Int} {P : abP} {ord : Nat → List Int} {b : Int → Int} (hP : isC c P σ) (hC : gdC P) (h4 : 1 ≤ x4 ∧ x4 ≤ 240) (hb : ∀ l : Int, 0 ≤ l → l < P 1 3 → σ 51 s l.toNat = b l) (hg : gdP P b) (hT : ∀ n : Nat, (n : Int) + 1 < x4 → abSeg (σ 56 t) (n * 5) (P 1 3).toNat = ord n) (hm : ∀ n : Nat, ∀ l ∈ ord n, 0 ≤ l ∧ l < P 1 3) (h : ∀ τ, slFr [(3, i0), (35, i0)] σ τ → (∀ (n : Nat) (l : Int), (n : Int) < x4 → 0 ≤ l → l < P 1 3 → τ 35 i0 (l * 240 + n).toNat = (abCrs P ord b n).1 l) → τ 3 i0 2 = (abCrs P ord b (x4 - 1).toNat).2 → Φ (0, 0) τ) :
    slCall G mX3_sail d K [sR 3 i0, sR 1 c, sR 8 s, sR 10 t, sI x4] σ Φ := by
  refine vc_X3_sail hG (by omega) hK (fun μ y5 σ' => slFr [(3, i0), (35, i0)] σ σ' ∧ μ = (1000, (P 1 3 - y5).toNat, 0) ∧ (0 ≤ y5 ∧ y5 ≤ P 1 3) ∧ σ' 3 i0 2 = 0 ∧ ∀ l : Int, 0 ≤ l → l < y5 → σ' 35 i0 (l * 240).toNat = b l) (fun μ y5 σ' => slFr [(3, i0), (35, i0)] σ σ' ∧ μ = ((240 - y5).toNat, 20, 0) ∧ (1 ≤ y5 ∧ y5 ≤ x4) ∧ σ' 3 i0 2 = (abCrs P ord b (y5 - 1).toNat).2 ∧ ∀ (n : Nat) (l : Int), (n : Int) < y5 → 0 ≤ l → l < P 1 3 → σ' 35 i0 (l * 240 + n).toNat = (abCrs P ord b n).1 l) (fun μ y5 y6 σ' => slFr [(3, i0), (35, i0)] σ σ' ∧ μ = ((240 - y5).toNat, 10, (P 1 3 - y6).toNat) ∧ (1 ≤ y5 ∧ y5 < x4) ∧ (0 ≤ y6 ∧ y6 ≤ P 1 3) ∧ σ' 3 i0 2 = (abCrs P ord b (y5 - 1).toNat).2 ∧ (∀ (n : Nat) (l : Int), (n : Int) < y5 → 0 ≤ l → l < P 1 3 → σ' 35 i0 (l * 240 + n).toNat = (abCrs P ord b n).1 l) ∧ ∀ l : Int, 0 ≤ l → l < y6 → σ' 35 i0 (l * 240 + y5).toNat = (abCrs P ord b (y5 - 1).toNat).1 l) (fun μ y5 y6 σ' => slFr [(3, i0), (35, i0)] σ σ' ∧ μ = ((240 - y5).toNat, 0, (P 1 3 - y6).toNat) ∧ (1 ≤ y5 ∧ y5 < x4) ∧ (0 ≤ y6 ∧ y6 ≤ P 1 3) ∧ (∀ (n : Nat) (l : Int), (n : Int) < y5 → 0 ≤ l → l < P 1 3 → σ' 35 i0 (l * 240 + n).toNat = (abCrs P ord b n).1 l) ∧ σ' 3 i0 2 = (((ord (y5 - 1).toNat).take y6.toNat).foldl (abGo P (y5 - 1)) (abCrs P ord b (y5 - 1).toNat)).2 ∧ ∀ l : Int, 0 ≤ l → l < P 1 3 → σ' 35 i0 (l * 240 + y5).toNat = (((ord (y5 - 1).toNat).take y6.toNat).foldl (abGo P (y5 - 1)) (abCrs P ord b (y5 - 1).toNat)).1 l) ?_ ?_ ?_ ?_ ?_
  · have a := hC.2.2.2.1
    exact ⟨_, slFr.id.up (by simp), rfl, ⟨by omega, by omega⟩, slU_same _ _ _ _ _, fun l x y => by omega⟩
  · have a := hC.2.2.2.1
    rintro μ y5 σ' ⟨fr, rfl, hy, hn, ct⟩
    rw [(hP.fr fr (by simp [chR])).1, fr 51 s (by simp)]
    refine ⟨⟨⟨by omega, by omega⟩, by omega, by omega⟩, fun q => ⟨((240 - 1 : Int).toNat, 20, 0), Or.inl (by show (240 - 1 : Int).toNat < 1000; decide), fr, rfl, ⟨by omega, by omega⟩, hn, fun n l x y z => ?_⟩, fun q => ⟨⟨by omega, by omega⟩, ⟨by omega, by omega⟩, (1000, (P 1 3 - (y5 + 1)).toNat, 0), Or.inr ⟨rfl, Or.inl (by show (P 1 3 - (y5 + 1)).toNat < (P 1 3 - y5).toNat; omega)⟩, fr.up (by simp), rfl, ⟨by omega, by omega⟩, by rw [slU_else (by omega)]; exact hn, fun l x y => ?_⟩⟩
    · have e : n = 0 := by omega
      subst e
      rw [show l * 240 + ((0 : Nat) : Int) = l * 240 by omega]
      exact ct l y (by omega)
    · by_cases z : l = y5
      · rw [z, slU_same]; exact hb y5 hy.1 (by omega)
      · rw [slU_ne (by omega)]; exact ct l x (by omega)
  · have a := hC.2.2.2.1
    rintro μ y5 σ' ⟨fr, rfl, hy, hn, ct⟩
    refine ⟨⟨⟨by omega, by omega⟩, by omega, by omega⟩, fun q => h σ' fr (fun n l x y z => ct n l (by omega) y z) (by rw [hn, show y5 = x4 by omega]), fun q => ⟨((240 - y5).toNat, 10, (P 1 3 - 0).toNat), Or.inr ⟨rfl, Or.inl (by decide : 10 < 20)⟩, fr, rfl, ⟨by omega, by omega⟩, ⟨by omega, by omega⟩, hn, ct, fun l x y => by omega⟩⟩
  · have a := hC.2.2.2.1
    rintro μ y5 y6 σ' ⟨fr, rfl, hy, hy6, hn, ct, cu⟩
    rw [(hP.fr fr (by simp [chR])).1]
    refine ⟨⟨⟨by omega, by omega⟩, by omega, by omega⟩, fun q => ⟨((240 - y5).toNat, 0, (P 1 3 - 0).toNat), Or.inr ⟨rfl, Or.inl (by decide : 0 < 10)⟩, fr, rfl, hy, ⟨by omega, by omega⟩, ct, hn, fun l x y => cu l x (by omega)⟩, fun q => ⟨⟨by omega, by omega⟩, ⟨by omega, by omega⟩, ((240 - y5).toNat, 10, (P 1 3 - (y6 + 1)).toNat), Or.inr ⟨rfl, Or.inr ⟨rfl, by show (P 1 3 - (y6 + 1)).toNat < (P 1 3 - y6).toNat; omega⟩⟩, fr.up (by simp), rfl, hy, ⟨by omega, by omega⟩, by rw [slU_else (by omega)]; exact hn, fun n l x y z => ?_, fun l x y => ?_⟩⟩
    · rw [slU_ne (by omega)]; exact ct n l x y z
    · by_cases z : l = y6
      · have e := ct (y5 - 1).toNat y6 (by omega) hy6.1 (by omega)
        rw [show y6 * 240 + (((y5 - 1).toNat : Nat) : Int) = y6 * 240 + y5 - 1 by omega] at e
        rw [z, slU_same, e]
      · rw [slU_ne (by omega)]; exact cu l x (by omega)
  · have a := hC.2.2.2.1
    rintro μ y5 y6 σ' ⟨fr, rfl, hy, hy6, ct, hn, cu⟩
    have hP' : isC c P σ' := hP.fr fr (by simp [chR])
    rw [hP'.1, fr 56 t (by simp)]
    have eT := hT (y5 - 1).toNat (by omega)
    have ln : (ord (y5 - 1).toNat).length = (P 1 3).toNat := by rw [← eT, abSeg_len]
    refine ⟨⟨⟨by omega, by omega⟩, by omega, by omega⟩, fun q => ⟨((240 - (y5 + 1)).toNat, 20, 0), Or.inl (by show (240 - (y5 + 1)).toNat < (240 - y5).toNat; omega), fr, rfl, ⟨by omega, by omega⟩, ?_, fun n l x y z => ?_⟩, fun q => ⟨⟨by omega, by omega⟩, ?_⟩⟩
    · rw [List.take_of_length_le (by omega)] at hn
      rw [hn, show (y5 + 1 - 1).toNat = (y5 - 1).toNat + 1 by omega]
      show _ = ((ord (y5 - 1).toNat).foldl (abGo P ((y5 - 1).toNat : Int)) _).2
      rw [show (((y5 - 1).toNat : Nat) : Int) = y5 - 1 by omega]
    · by_cases w : (n : Int) = y5
      · have cu2 := cu l y z
        rw [List.take_of_length_le (by omega)] at cu2
        rw [w, cu2, show n = (y5 - 1).toNat + 1 by omega]
        show _ = ((ord (y5 - 1).toNat).foldl (abGo P ((y5 - 1).toNat : Int)) _).1 l
        rw [show (((y5 - 1).toNat : Nat) : Int) = y5 - 1 by omega]
      · exact ct n l (by omega) y z
    · have lt : y6.toNat < (ord (y5 - 1).toNat).length := by omega
      have e1 : σ 56 t ((y5 - 1) * 5 + y6).toNat = (ord (y5 - 1).toNat)[y6.toNat] := by
        rw [← ab_getD lt, ← eT, abSeg_at (by omega), show (y5 - 1).toNat * 5 + y6.toNat = ((y5 - 1) * 5 + y6).toNat by omega]
      have e2 : (ord (y5 - 1).toNat).take (y6 + 1).toNat = (ord (y5 - 1).toNat).take y6.toNat ++ [(ord (y5 - 1).toNat)[y6.toNat]] := by
        rw [show (y6 + 1).toNat = y6.toNat + 1 by omega, List.take_succ_eq_append_getElem lt]
      rw [e1]
      have gd : gdP P (((ord (y5 - 1).toNat).take y6.toNat).foldl (abGo P (y5 - 1)) (abCrs P ord b (y5 - 1).toNat)).1 := (hg.crs _).fold
      refine sp_X3_go hG (by omega) (by omega) hP' hC (hm _ _ (List.getElem_mem lt)) ⟨by omega, by omega⟩ cu gd hn (fun τ fr2 c1 c2 c3 => slKt.ok ⟨((240 - y5).toNat, 0, (P 1 3 - (y6 + 1)).toNat), Or.inr ⟨rfl, Or.inr ⟨rfl, by show (P 1 3 - (y6 + 1)).toNat < (P 1 3 - y6).toNat; omega⟩⟩, fr.tr fr2, rfl, hy, ⟨by omega, by omega⟩, fun n l x y z => ?_, ?_, ?_⟩)
      · rw [c2 _ (by omega)]; exact ct n l x y z
      · rw [e2, List.foldl_append]; exact c3
      · rw [e2, List.foldl_append]; exact c1
