/-! ===== matchings: orders by counting ===== -/
theorem abSum_lt {f g : Int → Int} : ∀ {n : Nat}, (∀ k : Int, 0 ≤ k → k < n → f k ≤ g k) → (∃ a : Int, 0 ≤ a ∧ a < n ∧ f a < g a) → abSum f n < abSum g n
  | 0, _, ⟨a, h0, h1, _⟩ => absurd h1 (by omega)
  | n + 1, h, ⟨a, h0, h1, h2⟩ => by
    show abSum f n + f n < abSum g n + g n
    have hn := h n (by omega) (by omega)
    by_cases z : a = n
    · rw [z] at h2
      have : abSum f n ≤ abSum g n := by
        have key : ∀ m : Nat, (m : Int) ≤ n → abSum f m ≤ abSum g m := fun m => by
          induction m with
          | zero => intro _; exact Int.le_refl _
          | succ m ih =>
            intro hm
            have a := ih (by omega)
            have b := h m (by omega) (by omega)
            show abSum f m + f m ≤ abSum g m + g m
            omega
        exact key n (by omega)
      omega
    · have := abSum_lt (n := n) (fun k a b => h k a (by omega)) ⟨a, h0, by omega, h2⟩
      omega
theorem abSum_pl {f g : Int → Int} : ∀ {n : Nat}, abSum (fun k => f k + g k) n = abSum f n + abSum g n
  | 0 => rfl
  | n + 1 => by
    show abSum (fun k => f k + g k) n + (f n + g n) = (abSum f n + f n) + (abSum g n + g n)
    rw [abSum_pl]
    omega
theorem abSum_0 {f : Int → Int} {n : Nat} (h : ∀ k : Int, 0 ≤ k → k < n → f k = 0) : abSum f n = 0 := by
  have : ∀ m : Nat, abSum (fun _ => (0 : Int)) m = 0 := fun m => by
    induction m with
    | zero => rfl
    | succ m ih => show abSum (fun _ => (0 : Int)) m + 0 = 0; rw [ih]; rfl
  rw [abSum_c (g := fun _ => 0) h]
  exact this n
theorem abSum_k {n : Nat} : abSum (fun _ => (1 : Int)) n = n := by
  induction n with
  | zero => rfl
  | succ m ih =>
    show abSum (fun _ => (1 : Int)) m + 1 = _
    rw [ih]
    omega
theorem abSum_one {p : Int → Prop} : ∀ {n : Nat}, (∀ s t : Int, 0 ≤ s → s < n → 0 ≤ t → t < n → p s → p t → s = t) → abSum (fun k => abIf (p k) 1 0) n ≤ 1
  | 0, _ => by show (0 : Int) ≤ 1; decide
  | n + 1, h => by
    show abSum (fun k => abIf (p k) 1 0) n + abIf (p n) 1 0 ≤ 1
    have ih := abSum_one (p := p) (n := n) (fun s t a b c d => h s t a (by omega) c (by omega))
    by_cases z : p n
    · rw [abSum_0 (fun k a b => abIf_f (fun w => by have := h k n a (by omega) (by omega) (by omega) w z; omega)), abIf_t z]
      decide
    · rw [abIf_f z]; omega
def isOr (n : Int) (r : Int → Int → Prop) : Prop := (∀ a, ¬ r a a) ∧ (∀ a b c, r a b → r b c → r a c) ∧ ∀ a b : Int, 0 ≤ a → a < n → 0 ≤ b → b < n → a ≠ b → r a b ∨ r b a
noncomputable def mtCn (n : Int) (r : Int → Int → Prop) (x : Int) : Int := abSum (fun t => abIf (r t x) 1 0) n.toNat
theorem cnt_up {n : Int} {r : Int → Int → Prop} (o : isOr n r) {a b : Int} (ha : 0 ≤ a ∧ a < n) (h : r a b) : mtCn n r a < mtCn n r b := by
  refine abSum_lt (fun k _ _ => ?_) ⟨a, ha.1, by omega, ?_⟩
  · show abIf (r k a) 1 0 ≤ abIf (r k b) 1 0
    by_cases z : r k a
    · rw [abIf_t z, abIf_t (o.2.1 k a b z h)]; exact Int.le_refl _
    · rw [abIf_f z]
      rcases abIf_01 (p := r k b) with w | w <;> rw [w] <;> decide
  · show abIf (r a a) 1 0 < abIf (r a b) 1 0
    rw [abIf_f (o.1 a), abIf_t h]
    decide
theorem cnt_lt {n : Int} {r : Int → Int → Prop} (o : isOr n r) {a b : Int} (ha : 0 ≤ a ∧ a < n) (hb : 0 ≤ b ∧ b < n) : mtCn n r a < mtCn n r b ↔ r a b := by
  refine ⟨fun h => ?_, cnt_up o ha⟩
  by_cases z : a = b
  · rw [z] at h; omega
  · rcases o.2.2 a b ha.1 ha.2 hb.1 hb.2 z with w | w
    · exact w
    · have := cnt_up o hb w
      omega
theorem cnt_inj {n : Int} {r : Int → Int → Prop} (o : isOr n r) {a b : Int} (ha : 0 ≤ a ∧ a < n) (hb : 0 ≤ b ∧ b < n) (h : mtCn n r a = mtCn n r b) : a = b := by
  by_cases z : a = b
  · exact z
  · rcases o.2.2 a b ha.1 ha.2 hb.1 hb.2 z with w | w
    · have := cnt_up o ha w; omega
    · have := cnt_up o hb w; omega
theorem cnt_r {n : Int} {r : Int → Int → Prop} (o : isOr n r) {a : Int} (ha : 0 ≤ a ∧ a < n) : 0 ≤ mtCn n r a ∧ mtCn n r a < n := by
  have q : ∀ k, 0 ≤ abIf (r k a) 1 0 ∧ abIf (r k a) 1 0 ≤ 1 := fun k => by
    rcases abIf_01 (p := r k a) with w | w <;> rw [w] <;> decide
  refine ⟨(abSum_le (B := 1) (fun k _ _ => q k)).1, ?_⟩
  have := abSum_lt (f := fun t => abIf (r t a) 1 0) (g := fun _ => 1) (n := n.toNat) (fun k _ _ => (q k).2) ⟨a, ha.1, by omega, by show abIf (r a a) 1 0 < 1; rw [abIf_f (o.1 a)]; decide⟩
  rw [abSum_k] at this
  show abSum (fun t => abIf (r t a) 1 0) n.toNat < n
  omega
theorem cnt_ex {n : Int} {r : Int → Int → Prop} (o : isOr n r) {j : Int} (hj : 0 ≤ j ∧ j < n) : ∃ s : Int, 0 ≤ s ∧ s < n ∧ mtCn n r s = j := by
  by_cases no : ∃ s : Int, 0 ≤ s ∧ s < n ∧ mtCn n r s = j
  · exact no
  · exfalso
    have sp : ∀ i : Int, abSum (fun s => abIf (mtCn n r s < i + 1) 1 0) n.toNat = abSum (fun s => abIf (mtCn n r s < i) 1 0) n.toNat + abSum (fun s => abIf (mtCn n r s = i) 1 0) n.toNat := fun i => by
      rw [← abSum_pl]
      refine abSum_c (fun k _ _ => ?_)
      show abIf (mtCn n r k < i + 1) 1 0 = abIf (mtCn n r k < i) 1 0 + abIf (mtCn n r k = i) 1 0
      by_cases z : mtCn n r k < i
      · rw [abIf_t (show mtCn n r k < i + 1 by omega), abIf_t z, abIf_f (by omega)]; rfl
      · by_cases y : mtCn n r k = i
        · rw [abIf_t (show mtCn n r k < i + 1 by omega), abIf_f z, abIf_t y]; rfl
        · rw [abIf_f (show ¬ mtCn n r k < i + 1 by omega), abIf_f z, abIf_f y]; rfl
    have up : ∀ i : Int, abSum (fun s => abIf (mtCn n r s < i + 1) 1 0) n.toNat ≤ abSum (fun s => abIf (mtCn n r s < i) 1 0) n.toNat + 1 := fun i => by
      have := abSum_one (p := fun s => mtCn n r s = i) (n := n.toNat) (fun s t a b c d e f => cnt_inj o ⟨a, by omega⟩ ⟨c, by omega⟩ (e.trans f.symm))
      rw [sp i]
      omega
    have low : ∀ m : Nat, abSum (fun s => abIf (mtCn n r s < (m : Int)) 1 0) n.toNat ≤ m := fun m => by
      induction m with
      | zero => rw [abSum_0 (fun k a b => abIf_f (by have := (cnt_r o (a := k) ⟨a, by omega⟩).1; omega))]; exact Int.le_refl _
      | succ m ih =>
        have := up m
        rw [show ((m + 1 : Nat) : Int) = (m : Int) + 1 by omega]
        omega
    have hi : ∀ m : Nat, abSum (fun s => abIf (mtCn n r s < j + 1 + (m : Int)) 1 0) n.toNat ≤ j + m := fun m => by
      induction m with
      | zero =>
        rw [show j + 1 + ((0 : Nat) : Int) = j + 1 by omega, sp j, abSum_0 (f := fun s => abIf (mtCn n r s = j) 1 0) (fun k a b => abIf_f (fun w => no ⟨k, a, by omega, w⟩))]
        have := low j.toNat
        rw [show ((j.toNat : Nat) : Int) = j by omega] at this
        omega
      | succ m ih =>
        have := up (j + 1 + (m : Int))
        rw [show j + 1 + ((m + 1 : Nat) : Int) = j + 1 + (m : Int) + 1 by omega]
        omega
    have fin := hi (n - j - 1).toNat
    rw [show j + 1 + (((n - j - 1).toNat : Nat) : Int) = n by omega, abSum_c (g := fun _ => 1) (fun k a b => abIf_t (cnt_r o (a := k) ⟨a, by omega⟩).2), abSum_k] at fin
    omega
/-! who would rather have whom -/
noncomputable def mtD (Z : abZ) (h l s : Int) : Int := abFar (Z.1 1 0) (abC Z.1 Z.2.1.1 h l) (Z.2.1.1 1 s)
def abLr (Z : abZ) (h l s t : Int) : Prop := mtD Z h l s < mtD Z h l t ∨ (mtD Z h l s = mtD Z h l t ∧ s < t)
def abSr (Z : abZ) (h s l k : Int) : Prop := Z.1 26 k.toNat - mtD Z h k s < Z.1 26 l.toNat - mtD Z h l s ∨ (Z.1 26 l.toNat - mtD Z h l s = Z.1 26 k.toNat - mtD Z h k s ∧ l < k)
theorem abLr_o {Z : abZ} {h l n : Int} : isOr n (abLr Z h l) := by
  unfold abLr
  refine ⟨fun a => by omega, fun a b c => by omega, fun a b _ _ _ _ => by omega⟩
theorem abSr_o {Z : abZ} {h s n : Int} : isOr n (abSr Z h s) := by
  unfold abSr
  refine ⟨fun a => by omega, fun a b c => by omega, fun a b _ _ _ _ => by omega⟩
def mtLR (Z : abZ) (h l s t : Int) : Prop := t = -1 ∨ abLr Z h l s t
def mtSR (Z : abZ) (h s l k : Int) : Prop := k = -1 ∨ abSr Z h s l k
noncomputable def mtP (Z : abZ) (h l s : Int) : Int := mtCn (Z.1 1 4) (abLr Z h l) s
noncomputable def mtB (Z : abZ) (h l s : Int) : Int := mtCn (Z.1 1 3) (abSr Z h s) l
theorem mtD_r {N : Nat} {Z : abZ} {h l s : Int} (hZ : gdZ N Z) (hl : 0 ≤ l ∧ l < Z.1 1 3) (hs : 0 ≤ s ∧ s < Z.1 1 4) : 0 ≤ mtD Z h l s ∧ mtD Z h l s ≤ 12 := by
  have g1 := (abC_cell hZ.v (h := h) hl.1 hl.2).dv hZ.c
  have g2 := (hZ.v.2.2.1 s hs.1 hs.2).1.dv hZ.c
  unfold mtD abFar abMax abAbs
  split <;> split <;> split <;> omega
/-- the class has ranked all for an hour -/
def isMt (Z : abZ) (h : Int) (σ : slM) : Prop := σ 6 0 6 = Z.1 1 3 ∧ σ 6 0 7 = Z.1 1 4 ∧ ∀ l s : Int, 0 ≤ l → l < Z.1 1 3 → 0 ≤ s → s < Z.1 1 4 → σ 44 0 (l * 8 + s).toNat = mtP Z h l s ∧ σ 45 0 (l * 8 + s).toNat = mtB Z h l s
def mtFar (Z : abZ) (h : Int) (σ : slM) : Prop := σ 6 0 6 = Z.1 1 3 ∧ σ 6 0 7 = Z.1 1 4 ∧ ∀ l s : Int, 0 ≤ l → l < Z.1 1 3 → 0 ≤ s → s < Z.1 1 4 → σ 46 0 (l * 8 + s).toNat = mtD Z h l s
set_option maxHeartbeats 1000000 in
set_option maxRecDepth 4000 in
theorem sp_X6_nearerShips {G : slG} (hG : slGood G) {d K : Nat} (hd : 0 ≤ d) (hK : 0 ≤ K) {Φ : slPost} {σ : slM} {x1 : Int} {x2 : Int} {N : Nat} {Z : abZ} {t : Int} (hZ : gdZ N Z) (F : mtFar Z t σ) (h1 : 0 ≤ x1 ∧ x1 < Z.1 1 3) (h2 : 0 ≤ x2 ∧ x2 < Z.1 1 4) (h : Φ (0, mtP Z t x1 x2) σ) :
    slCall G mX6_nearerShips d K [sR 6 0, sI x1, sI x2] σ Φ := by
  refine vc_X6_nearerShips hG (by omega) hK (fun μ y3 y4 y5 σ' => σ' = σ ∧ y3 = mtD Z t x1 x2 ∧ μ = ((Z.1 1 4 - y5).toNat, 0, 0) ∧ (0 ≤ y5 ∧ y5 ≤ Z.1 1 4) ∧ y4 = abSum (fun k => abIf (abLr Z t x1 k x2) 1 0) y5.toNat) ?_ ?_
  · have a3 := hZ.c.2.2.2.1
    have a4 := hZ.c.2.2.2.2.1
    exact ⟨⟨by omega, by omega⟩, _, rfl, F.2.2 x1 x2 h1.1 h1.2 h2.1 h2.2, rfl, ⟨by omega, by omega⟩, rfl⟩
  · have a3 := hZ.c.2.2.2.1
    have a4 := hZ.c.2.2.2.2.1
    rintro μ y3 y4 y5 σ' ⟨rfl, rfl, rfl, hy, rfl⟩
    have r2 := mtD_r (h := t) hZ h1 h2
    rw [F.2.1]
    refine ⟨⟨⟨by omega, by omega⟩, by omega, by omega⟩, fun q => ?_, fun q => ⟨⟨by omega, by omega⟩, ?_⟩⟩
    · unfold mtP mtCn at h
      rw [show Z.1 1 4 = y5 by omega] at h
      exact h
    · have r5 := mtD_r (h := t) hZ h1 (s := y5) ⟨by omega, by omega⟩
      have lt : slLt ((Z.1 1 4 - (y5 + 1)).toNat, 0, 0) ((Z.1 1 4 - y5).toNat, 0, 0) := Or.inl (by show (Z.1 1 4 - (y5 + 1)).toNat < (Z.1 1 4 - y5).toNat; omega)
      have yes : abLr Z t x1 y5 x2 → abSum (fun k => abIf (abLr Z t x1 k x2) 1 0) y5.toNat + 1 = abSum (fun k => abIf (abLr Z t x1 k x2) 1 0) (y5 + 1).toNat := fun w => by rw [abSum_s hy.1, abIf_t w]
      have no : ¬ abLr Z t x1 y5 x2 → abSum (fun k => abIf (abLr Z t x1 k x2) 1 0) y5.toNat = abSum (fun k => abIf (abLr Z t x1 k x2) 1 0) (y5 + 1).toNat := fun w => by rw [abSum_s hy.1, abIf_f w, Int.add_zero]
      rw [F.2.2 x1 y5 h1.1 h1.2 hy.1 (by omega)]
      refine ⟨⟨⟨by omega, by omega⟩, by omega, by omega⟩, fun z => ⟨_, lt, rfl, rfl, rfl, ⟨by omega, by omega⟩, yes (Or.inl z)⟩, fun z => ⟨⟨⟨by omega, by omega⟩, by omega, by omega⟩, fun w => ⟨_, lt, rfl, rfl, rfl, ⟨by omega, by omega⟩, no (by unfold abLr; omega)⟩, fun w => ⟨⟨⟨by omega, by omega⟩, by omega, by omega⟩, fun u => ⟨_, lt, rfl, rfl, rfl, ⟨by omega, by omega⟩, no (by unfold abLr; omega)⟩, fun u => ⟨_, lt, rfl, rfl, rfl, ⟨by omega, by omega⟩, yes (by unfold abLr; omega)⟩⟩⟩⟩
set_option maxHeartbeats 1000000 in
set_option maxRecDepth 4000 in
theorem sp_X6_brighterLights {G : slG} (hG : slGood G) {d K : Nat} (hd : 0 ≤ d) (hK : 0 ≤ K) {Φ : slPost} {σ : slM} {c : Nat} {x2 : Int} {x3 : Int} {N : Nat} {Z : abZ} {t : Int} (hZ : gdZ N Z) (hP : isC c Z.1 σ) (F : mtFar Z t σ) (h1 : 0 ≤ x2 ∧ x2 < Z.1 1 3) (h2 : 0 ≤ x3 ∧ x3 < Z.1 1 4) (h : Φ (0, mtB Z t x2 x3) σ) :
    slCall G mX6_brighterLights d K [sR 6 0, sR 1 c, sI x2, sI x3] σ Φ := by
  refine vc_X6_brighterLights hG (by omega) hK (fun μ y4 y5 y6 σ' => σ' = σ ∧ y4 = Z.1 26 x2.toNat - mtD Z t x2 x3 ∧ μ = ((Z.1 1 3 - y6).toNat, 0, 0) ∧ (0 ≤ y6 ∧ y6 ≤ Z.1 1 3) ∧ y5 = abSum (fun k => abIf (abSr Z t x3 k x2) 1 0) y6.toNat) ?_ ?_
  · have a3 := hZ.c.2.2.2.1
    have a4 := hZ.c.2.2.2.2.1
    obtain ⟨p1, p23, p24, p25, p26, -⟩ := hP
    refine ⟨⟨by omega, by omega⟩, ⟨by omega, by omega⟩, _, rfl, ?_, rfl, ⟨by omega, by omega⟩, rfl⟩
    rw [p26, F.2.2 x2 x3 h1.1 h1.2 h2.1 h2.2]
  · have a3 := hZ.c.2.2.2.1
    have a4 := hZ.c.2.2.2.2.1
    obtain ⟨p1, p23, p24, p25, p26, -⟩ := hP
    rintro μ y4 y5 y6 σ' ⟨rfl, rfl, rfl, hy, rfl⟩
    have r2 := mtD_r (h := t) hZ h1 h2
    have c2 := (hZ.c.2.2.2.2.2.2.2.2.1 x2 h1.1 h1.2).1
    rw [F.1]
    refine ⟨⟨⟨by omega, by omega⟩, by omega, by omega⟩, fun q => ?_, fun q => ⟨⟨by omega, by omega⟩, ⟨by omega, by omega⟩, ?_⟩⟩
    · unfold mtB mtCn at h
      rw [show Z.1 1 3 = y6 by omega] at h
      exact h
    · have r5 := mtD_r (h := t) hZ (l := y6) ⟨hy.1, by omega⟩ h2
      have c5 := (hZ.c.2.2.2.2.2.2.2.2.1 y6 hy.1 (by omega)).1
      have lt : slLt ((Z.1 1 3 - (y6 + 1)).toNat, 0, 0) ((Z.1 1 3 - y6).toNat, 0, 0) := Or.inl (by show (Z.1 1 3 - (y6 + 1)).toNat < (Z.1 1 3 - y6).toNat; omega)
      have yes : abSr Z t x3 y6 x2 → abSum (fun k => abIf (abSr Z t x3 k x2) 1 0) y6.toNat + 1 = abSum (fun k => abIf (abSr Z t x3 k x2) 1 0) (y6 + 1).toNat := fun w => by rw [abSum_s hy.1, abIf_t w]
      have no : ¬ abSr Z t x3 y6 x2 → abSum (fun k => abIf (abSr Z t x3 k x2) 1 0) y6.toNat = abSum (fun k => abIf (abSr Z t x3 k x2) 1 0) (y6 + 1).toNat := fun w => by rw [abSum_s hy.1, abIf_f w, Int.add_zero]
      rw [p26, F.2.2 y6 x3 hy.1 (by omega) h2.1 h2.2]
      refine ⟨⟨⟨by omega, by omega⟩, by omega, by omega⟩, fun z => ⟨_, lt, rfl, rfl, rfl, ⟨by omega, by omega⟩, yes (Or.inl z)⟩, fun z => ⟨⟨⟨by omega, by omega⟩, by omega, by omega⟩, fun w => ⟨_, lt, rfl, rfl, rfl, ⟨by omega, by omega⟩, no (by unfold abSr; omega)⟩, fun w => ⟨⟨⟨by omega, by omega⟩, by omega, by omega⟩, fun u => ⟨_, lt, rfl, rfl, rfl, ⟨by omega, by omega⟩, no (by unfold abSr; omega)⟩, fun u => ⟨_, lt, rfl, rfl, rfl, ⟨by omega, by omega⟩, yes (by unfold abSr; omega)⟩⟩⟩⟩
theorem mtFar.fr {Z : abZ} {h : Int} {σ τ : slM} (F : mtFar Z h σ) (e6 : τ 6 0 = σ 6 0) (e46 : τ 46 0 = σ 46 0) : mtFar Z h τ := by
  unfold mtFar
  rw [e6, e46]
  exact F
set_option maxHeartbeats 4000000 in
set_option maxRecDepth 4000 in
theorem sp_X6_rankAll {G : slG} (hG : slGood G) {d K : Nat} (hd : 20 ≤ d) (hK : 0 ≤ K) {Φ : slPost} {σ : slM} {c : Nat} {s : Nat} {k : Nat} {x4 : Int} {N : Nat} {Z : abZ} {sg : slM} {s0 : Nat} (hZ : gdZ N Z) (m : cS c s0 Z sg σ) (hs : s = s0) (hk : k = 0) (h4 : 0 ≤ x4 ∧ x4 < 240) (h : ∀ τ, cS c s0 Z sg τ → isMt Z x4 τ → Φ (0, 0) τ) :
    slCall G mX6_rankAll d K [sR 6 0, sR 1 c, sR 8 s, sR 3 k, sI x4] σ Φ := by
  refine vc_X6_rankAll hG (by omega) hK (fun μ y5 σ' => slFr [(6, 0), (46, 0)] σ σ' ∧ μ = (100 + (Z.1 1 3 - y5).toNat, 100, 0) ∧ (0 ≤ y5 ∧ y5 ≤ Z.1 1 3) ∧ σ' 6 0 6 = Z.1 1 3 ∧ σ' 6 0 7 = Z.1 1 4 ∧ ∀ l s : Int, 0 ≤ l → l < y5 → 0 ≤ s → s < Z.1 1 4 → σ' 46 0 (l * 8 + s).toNat = mtD Z x4 l s) (fun μ y5 y6 σ' => slFr [(6, 0), (46, 0)] σ σ' ∧ μ = (100 + (Z.1 1 3 - y5).toNat, (Z.1 1 4 - y6).toNat, 0) ∧ (0 ≤ y5 ∧ y5 < Z.1 1 3) ∧ (0 ≤ y6 ∧ y6 ≤ Z.1 1 4) ∧ σ' 6 0 6 = Z.1 1 3 ∧ σ' 6 0 7 = Z.1 1 4 ∧ (∀ l s : Int, 0 ≤ l → l < y5 → 0 ≤ s → s < Z.1 1 4 → σ' 46 0 (l * 8 + s).toNat = mtD Z x4 l s) ∧ ∀ s : Int, 0 ≤ s → s < y6 → σ' 46 0 (y5 * 8 + s).toNat = mtD Z x4 y5 s) (fun μ y5 σ' => slFr [(6, 0), (46, 0), (44, 0), (45, 0)] σ σ' ∧ μ = ((Z.1 1 3 - y5).toNat, 100, 0) ∧ (0 ≤ y5 ∧ y5 ≤ Z.1 1 3) ∧ mtFar Z x4 σ' ∧ ∀ l s : Int, 0 ≤ l → l < y5 → 0 ≤ s → s < Z.1 1 4 → σ' 44 0 (l * 8 + s).toNat = mtP Z x4 l s ∧ σ' 45 0 (l * 8 + s).toNat = mtB Z x4 l s) (fun μ y5 y6 σ' => slFr [(6, 0), (46, 0), (44, 0), (45, 0)] σ σ' ∧ μ = ((Z.1 1 3 - y5).toNat, (Z.1 1 4 - y6).toNat, 0) ∧ (0 ≤ y5 ∧ y5 < Z.1 1 3) ∧ (0 ≤ y6 ∧ y6 ≤ Z.1 1 4) ∧ mtFar Z x4 σ' ∧ (∀ l s : Int, 0 ≤ l → l < y5 → 0 ≤ s → s < Z.1 1 4 → σ' 44 0 (l * 8 + s).toNat = mtP Z x4 l s ∧ σ' 45 0 (l * 8 + s).toNat = mtB Z x4 l s) ∧ ∀ s : Int, 0 ≤ s → s < y6 → σ' 44 0 (y5 * 8 + s).toNat = mtP Z x4 y5 s ∧ σ' 45 0 (y5 * 8 + s).toNat = mtB Z x4 y5 s) ?_ ?_ ?_ ?_ ?_
  · have a3 := hZ.c.2.2.2.1
    have p1 := m.2.1.cc.1
    refine ⟨_, (slFr.id.up (by simp)).up (by simp), rfl, ⟨by omega, by omega⟩, ?_, ?_, fun l s a b => by omega⟩
    · rw [slU_ne (by decide), slU_same, p1]
    · rw [slU_same, slU_else (by omega), p1]
  · have a3 := hZ.c.2.2.2.1
    have a4 := hZ.c.2.2.2.2.1
    rintro μ y5 σ' ⟨fr, rfl, hy, e6, e7, c1⟩
    rw [e6]
    exact ⟨⟨⟨by omega, by omega⟩, by omega, by omega⟩, fun q => ⟨((Z.1 1 3 - 0).toNat, 100, 0), Or.inl (by show (Z.1 1 3 - 0).toNat < 100 + (Z.1 1 3 - y5).toNat; omega), fr.mono (by simp), rfl, ⟨by omega, by omega⟩, ⟨e6, e7, fun l s a b => c1 l s a (by omega)⟩, fun l s a b => by omega⟩, fun q => ⟨(100 + (Z.1 1 3 - y5).toNat, (Z.1 1 4 - 0).toNat, 0), Or.inr ⟨rfl, Or.inl (by show (Z.1 1 4 - 0).toNat < 100; omega)⟩, fr, rfl, ⟨by omega, by omega⟩, ⟨by omega, by omega⟩, rfl, e7, c1, fun s a b => by omega⟩⟩
  · have a3 := hZ.c.2.2.2.1
    have a4 := hZ.c.2.2.2.2.1
    rintro μ y5 y6 σ' ⟨fr, rfl, hy, hy6, e6, e7, c1, c2⟩
    subst hs hk
    rw [e7]
    refine ⟨⟨⟨by omega, by omega⟩, by omega, by omega⟩, fun q => ⟨(100 + (Z.1 1 3 - (y5 + 1)).toNat, 100, 0), Or.inl (by show 100 + (Z.1 1 3 - (y5 + 1)).toNat < 100 + (Z.1 1 3 - y5).toNat; omega), fr, rfl, ⟨by omega, by omega⟩, e6, rfl, fun l s a b c d => ?_⟩, fun q => ?_⟩
    · by_cases z : l = y5
      · rw [z]; exact c2 s c (by omega)
      · exact c1 l s a (by omega) c d
    · have hP : isC c Z.1 σ' := m.2.1.cc.fr fr (by simp [chR])
      have s1 := m.2.1.s1
      refine sp_X3_cellOf hG (by omega) (by omega) ⟨by omega, by omega⟩ h4 (slKt.ok ⟨⟨by omega, by omega⟩, ?_⟩)
      rw [fr 35 0 (by simp), m.2.2.2.2.1 x4 y5 h4.1 h4.2 hy.1 hy.2, fr 53 s (by simp), m.2.1.ss.2.1 y6 hy6.1 (by omega)]
      refine sp_X1_farBetween hG (by omega) (by omega) hP hZ.c (abC_cell hZ.v hy.1 hy.2) (hZ.v.2.2.1 y6 hy6.1 (by omega)).1 (slKt.ok ⟨⟨by omega, by omega⟩, (100 + (Z.1 1 3 - y5).toNat, (Z.1 1 4 - (y6 + 1)).toNat, 0), Or.inr ⟨rfl, Or.inl (by show (Z.1 1 4 - (y6 + 1)).toNat < (Z.1 1 4 - y6).toNat; omega)⟩, fr.up (by simp), rfl, hy, ⟨by omega, by omega⟩, ?_, ?_, fun l s a b c d => ?_, fun s a b => ?_⟩)
      · rw [slU_else (by decide)]; exact e6
      · rw [slU_else (by decide)]; exact e7
      · rw [slU_ne (by omega)]; exact c1 l s a b c d
      · by_cases z : s = y6
        · rw [z, slU_same]; rfl
        · rw [slU_ne (by omega)]; exact c2 s a (by omega)
  · have a3 := hZ.c.2.2.2.1
    have a4 := hZ.c.2.2.2.2.1
    rintro μ y5 σ' ⟨fr, rfl, hy, F, c1⟩
    rw [F.1]
    refine ⟨⟨⟨by omega, by omega⟩, by omega, by omega⟩, fun q => h σ' (m.fr fr (by decide) (fun k hk => by rw [fr 36 1 (by simp)]; exact m.dz k hk)) ⟨F.1, F.2.1, fun l s a b => c1 l s a (by omega)⟩, fun q => ⟨((Z.1 1 3 - y5).toNat, (Z.1 1 4 - 0).toNat, 0), Or.inr ⟨rfl, Or.inl (by show (Z.1 1 4 - 0).toNat < 100; omega)⟩, fr, rfl, ⟨by omega, by omega⟩, ⟨by omega, by omega⟩, F, c1, fun s a b => by omega⟩⟩
  · have a3 := hZ.c.2.2.2.1
    have a4 := hZ.c.2.2.2.2.1
    rintro μ y5 y6 σ' ⟨fr, rfl, hy, hy6, F, c1, c2⟩
    rw [F.2.1]
    refine ⟨⟨⟨by omega, by omega⟩, by omega, by omega⟩, fun q => ⟨((Z.1 1 3 - (y5 + 1)).toNat, 100, 0), Or.inl (by show (Z.1 1 3 - (y5 + 1)).toNat < (Z.1 1 3 - y5).toNat; omega), fr, rfl, ⟨by omega, by omega⟩, F, fun l s a b c d => ?_⟩, fun q => ?_⟩
    · by_cases z : l = y5
      · rw [z]; exact c2 s c (by omega)
      · exact c1 l s a (by omega) c d
    · have hP : isC c Z.1 σ' := m.2.1.cc.fr fr (by simp [chR])
      refine sp_X6_nearerShips hG (by omega) (by omega) hZ F hy ⟨by omega, by omega⟩ (slKt.ok ⟨⟨by omega, by omega⟩, ?_⟩)
      have F2 : mtFar Z x4 (slU σ' 44 0 (y5 * 8 + y6).toNat (mtP Z x4 y5 y6)) := F.fr (slU_else (by decide)) (slU_else (by decide))
      have hP2 : isC c Z.1 (slU σ' 44 0 (y5 * 8 + y6).toNat (mtP Z x4 y5 y6)) := hP.fr (slFr.id.up (L := [(44, 0)]) (by simp)) (by simp [chR])
      refine sp_X6_brighterLights hG (by omega) (by omega) hZ hP2 F2 hy ⟨by omega, by omega⟩ (slKt.ok ⟨⟨by omega, by omega⟩, ((Z.1 1 3 - y5).toNat, (Z.1 1 4 - (y6 + 1)).toNat, 0), Or.inr ⟨rfl, Or.inl (by show (Z.1 1 4 - (y6 + 1)).toNat < (Z.1 1 4 - y6).toNat; omega)⟩, (fr.up (by simp)).up (by simp), rfl, hy, ⟨by omega, by omega⟩, F2.fr (slU_else (by decide)) (slU_else (by decide)), fun l s a b c d => ?_, fun s a b => ?_⟩)
      · rw [slU_else (by decide), slU_ne (by omega), slU_ne (by omega), slU_else (by decide)]; exact c1 l s a b c d
      · by_cases z : s = y6
        · rw [z, slU_same, slU_else (by decide), slU_same]; exact ⟨rfl, rfl⟩
        · rw [slU_else (by decide), slU_ne (by omega), slU_ne (by omega), slU_else (by decide)]; exact c2 s a (by omega)
set_option maxHeartbeats 1000000 in
set_option maxRecDepth 4000 in
theorem sp_X6_wouldRather {G : slG} (hG : slGood G) {d K : Nat} (hd : 0 ≤ d) (hK : 0 ≤ K) {Φ : slPost} {σ : slM} {x1 : Int} {x2 : Int} {x3 : Int} {N : Nat} {Z : abZ} {t : Int} (hZ : gdZ N Z) (M : isMt Z t σ) (h1 : 0 ≤ x1 ∧ x1 < Z.1 1 4) (h2 : 0 ≤ x2 ∧ x2 < Z.1 1 3) (h3 : -1 ≤ x3 ∧ x3 < Z.1 1 3) (h : Φ (0, abIf (mtSR Z t x1 x2 x3) 1 0) σ) :
    slCall G mX6_wouldRather d K [sR 6 0, sI x1, sI x2, sI x3] σ Φ := by
  refine vc_X6_wouldRather hG (by omega) hK  ?_
  have a3 := hZ.c.2.2.2.1
  have a4 := hZ.c.2.2.2.2.1
  refine ⟨⟨by omega, by omega⟩, fun q => ?_, fun q => ⟨⟨by omega, by omega⟩, ⟨by omega, by omega⟩, ?_⟩⟩
  · rwa [abIf_t (show mtSR Z t x1 x2 x3 from Or.inl q)] at h
  · rw [(M.2.2 x2 x1 h2.1 h2.2 h1.1 h1.2).2, (M.2.2 x3 x1 (by omega) h3.2 h1.1 h1.2).2]
    have r2 : 0 ≤ mtB Z t x2 x1 ∧ mtB Z t x2 x1 < Z.1 1 3 := cnt_r abSr_o h2
    have r3 : 0 ≤ mtB Z t x3 x1 ∧ mtB Z t x3 x1 < Z.1 1 3 := cnt_r abSr_o ⟨by omega, h3.2⟩
    have e : mtB Z t x2 x1 < mtB Z t x3 x1 ↔ abSr Z t x1 x2 x3 := cnt_lt abSr_o h2 ⟨by omega, h3.2⟩
    refine ⟨⟨⟨by omega, by omega⟩, by omega, by omega⟩, fun z => ?_, fun z => ?_⟩
    · rwa [abIf_f (show ¬ mtSR Z t x1 x2 x3 from fun w => w.elim q (fun u => by have := e.mpr u; omega))] at h
    · rwa [abIf_t (show mtSR Z t x1 x2 x3 from Or.inr (e.mp (by omega)))] at h
set_option maxHeartbeats 1000000 in
set_option maxRecDepth 4000 in
theorem sp_X6_lightWouldRather {G : slG} (hG : slGood G) {d K : Nat} (hd : 0 ≤ d) (hK : 0 ≤ K) {Φ : slPost} {σ : slM} {x1 : Int} {x2 : Int} {x3 : Int} {N : Nat} {Z : abZ} {t : Int} (hZ : gdZ N Z) (M : isMt Z t σ) (h1 : 0 ≤ x1 ∧ x1 < Z.1 1 3) (h2 : 0 ≤ x2 ∧ x2 < Z.1 1 4) (h3 : -1 ≤ x3 ∧ x3 < Z.1 1 4) (h : Φ (0, abIf (mtLR Z t x1 x2 x3) 1 0) σ) :
    slCall G mX6_lightWouldRather d K [sR 6 0, sI x1, sI x2, sI x3] σ Φ := by
  refine vc_X6_lightWouldRather hG (by omega) hK  ?_
  have a3 := hZ.c.2.2.2.1
  have a4 := hZ.c.2.2.2.2.1
  refine ⟨⟨by omega, by omega⟩, fun q => ?_, fun q => ⟨⟨by omega, by omega⟩, ⟨by omega, by omega⟩, ?_⟩⟩
  · rwa [abIf_t (show mtLR Z t x1 x2 x3 from Or.inl q)] at h
  · rw [(M.2.2 x1 x2 h1.1 h1.2 h2.1 h2.2).1, (M.2.2 x1 x3 h1.1 h1.2 (by omega) h3.2).1]
    have r2 : 0 ≤ mtP Z t x1 x2 ∧ mtP Z t x1 x2 < Z.1 1 4 := cnt_r abLr_o h2
    have r3 : 0 ≤ mtP Z t x1 x3 ∧ mtP Z t x1 x3 < Z.1 1 4 := cnt_r abLr_o ⟨by omega, h3.2⟩
    have e : mtP Z t x1 x2 < mtP Z t x1 x3 ↔ abLr Z t x1 x2 x3 := cnt_lt abLr_o h2 ⟨by omega, h3.2⟩
    refine ⟨⟨⟨by omega, by omega⟩, by omega, by omega⟩, fun z => ?_, fun z => ?_⟩
    · rwa [abIf_f (show ¬ mtLR Z t x1 x2 x3 from fun w => w.elim q (fun u => by have := e.mpr u; omega))] at h
    · rwa [abIf_t (show mtLR Z t x1 x2 x3 from Or.inr (e.mp (by omega)))] at h
