/-! ===== who is seen from which ship: the class ===== -/
theorem abSight_r {P : abP} {a b : Int} (hC : gdC P) (h1 : gc P a) (h2 : gc P b) : 0 ≤ abSight P a b ∧ abSight P a b ≤ 99 := by
  have g1 := h1.dv hC
  have g2 := h2.dv hC
  unfold abSight
  by_cases z : abHid P a b
  · rw [abIf_t z]; omega
  · rw [abIf_f z]
    unfold abFar abMax abAbs
    omega
def abSees (P : abP) (C : Int → Int → Int) (oil : Int → Int) (fog m h l : Int) : Prop := abLit (oil l) h ∧ abSight P m (C h l) ≤ P 26 l.toNat - fog
noncomputable def abSeen (P : abP) (C : Int → Int → Int) (oil : Int → Int) (fog m h : Int) : Int := abMask (abSees P C oil fog m h) (P 1 3).toNat
/-- what is seen now: ship and hour -/
noncomputable def abNow (P : abP) (C : Int → Int → Int) (oil mo : Int → Int) (s h : Int) : Int := abSeen P C oil (abFog P (h / 24)) (mo s) h
theorem abSeen_r {P : abP} {C : Int → Int → Int} {oil : Int → Int} {fog m h : Int} (hC : gdC P) : 0 ≤ abSeen P C oil fog m h ∧ abSeen P C oil fog m h < 32 := by
  have a := hC.2.2.2.1
  exact abMask_5 (by omega)
theorem abSeen_day {P : abP} {C : Int → Int → Int} {oil : Int → Int} {fog m h : Int} (hd : h % 24 < 12) : abSeen P C oil fog m h = 0 :=
  abMask_0.mpr (fun k _ _ z => by have := z.1.1; omega)
theorem abFog_r {P : abP} {n : Int} (hC : gdC P) (hn : 0 ≤ n) : 0 ≤ abFog P n ∧ abFog P n ≤ 9 := by
  unfold abFog
  by_cases z : 0 < P 1 5
  · rw [if_pos z]
    have m := ab_mod (a := n) (b := P 1 5) z
    exact hC.2.2.2.2.2.2.2.2.2.1 _ m.1 m.2
  · rw [if_neg z]; omega
theorem inAnd {a b : Int} : InR (sAnd a b) := ⟨Int32.le_toInt _, Int32.toInt_lt _⟩
theorem inOr {a b : Int} : InR (sOr a b) := ⟨Int32.le_toInt _, Int32.toInt_lt _⟩
theorem sAnd_z {b : Int} : sAnd 0 b = 0 := by
  unfold sAnd
  rw [show Int32.ofInt 0 = 0 from rfl, Int32.zero_and]
  rfl
theorem sAnd_zr {b : Int} : sAnd b 0 = 0 := by
  unfold sAnd
  rw [show Int32.ofInt 0 = 0 from rfl, Int32.and_zero]
  rfl
def gdM (P : abP) (mo : Int → Int) : Prop := ∀ s : Int, 0 ≤ s → s < P 1 4 → gc P (mo s) ∧ P 23 (mo s).toNat = 0
def isW (P : abP) (mo : Int → Int) (σ : slM) : Prop := ∀ s c : Int, 0 ≤ s → s < P 1 4 → gc P c → σ 60 0 (s * 144 + c).toNat = abSight P (mo s) c
set_option maxHeartbeats 1000000 in
set_option maxRecDepth 4000 in
theorem sp_X3_show {G : slG} (hG : slGood G) {d K : Nat} (hd : 0 ≤ d) (hK : 0 ≤ K) {Φ : slPost} {σ : slM} {i0 : Nat} {c : Nat} {x3 : Int} {x4 : Int} {x5 : Int} {P : abP} {Q : Int → Int → Prop} {cell : Int} (hP : isC c P σ) (hC : gdC P) (h3 : 0 ≤ x3 ∧ x3 < P 1 3) (h4 : 0 ≤ x4 ∧ x4 < 240) (h5 : 0 ≤ x5 ∧ x5 ≤ 9) (hc : σ 35 i0 (x3 * 240 + x4).toNat = cell) (gC : gc P cell) (hw : ∀ s : Int, 0 ≤ s → s < P 1 4 → InR (σ 60 0 (s * 144 + cell).toNat)) (hq : ∀ s : Int, 0 ≤ s → s < P 1 4 → (Q s x3 ↔ σ 60 0 (s * 144 + cell).toNat ≤ P 26 x3.toNat - x5)) (hm : ∀ s : Int, 0 ≤ s → s < P 1 4 → σ 36 i0 (s * 240 + x4).toNat = abMask (Q s) x3.toNat) (h : ∀ τ, slFr [(36, i0)] σ τ → (∀ s : Int, 0 ≤ s → s < P 1 4 → τ 36 i0 (s * 240 + x4).toNat = abMask (Q s) (x3 + 1).toNat) → (∀ k : Nat, k % 240 ≠ x4.toNat → τ 36 i0 k = σ 36 i0 k) → Φ (0, 0) τ) :
    slCall G mX3_show d K [sR 3 i0, sR 1 c, sR 60 0, sI x3, sI x4, sI x5] σ Φ := by
  refine vc_X3_show hG (by omega) hK (fun μ y6 y7 y8 σ' => slFr [(36, i0)] σ σ' ∧ μ = ((P 1 4 - y8).toNat, 0, 0) ∧ (0 ≤ y8 ∧ y8 ≤ P 1 4) ∧ y6 = P 26 x3.toNat - x5 ∧ y7 = cell ∧ (∀ s : Int, 0 ≤ s → s < y8 → σ' 36 i0 (s * 240 + x4).toNat = abMask (Q s) (x3 + 1).toNat) ∧ (∀ s : Int, y8 ≤ s → s < P 1 4 → σ' 36 i0 (s * 240 + x4).toNat = abMask (Q s) x3.toNat) ∧ (∀ k : Nat, k % 240 ≠ x4.toNat → σ' 36 i0 k = σ 36 i0 k)) ?_ ?_
  · have a := hC.2.2.2.1
    have a4 := hC.2.2.2.2.1
    obtain ⟨p1, p23, p24, p25, p26, -⟩ := hP
    rw [p26, hc]
    exact ⟨⟨by omega, by omega⟩, ⟨by omega, by omega⟩, _, slFr.id, rfl, ⟨by omega, by omega⟩, rfl, rfl, fun s x y => by omega, fun s x y => hm s (by omega) y, fun _ _ => rfl⟩
  · have a := hC.2.2.2.1
    have a4 := hC.2.2.2.2.1
    have b := hC.2.2.2.2.2.2.2.2.1 x3 h3.1 h3.2
    have gd := gC.dv hC
    rintro μ y6 y7 y8 σ' ⟨fr, rfl, hy, rfl, rfl, m1, m2, m3⟩
    rw [(hP.fr fr (by simp [chR])).1, fr 60 0 (by simp)]
    refine ⟨⟨⟨by omega, by omega⟩, by omega, by omega⟩, fun q => h σ' fr (fun s x y => m1 s x (by omega)) m3, fun q => ⟨⟨by omega, by omega⟩, ⟨hw y8 (by omega) (by omega), by omega, by omega⟩, fun q2 => ⟨_, Or.inl (by show (P 1 4 - (y8 + 1)).toNat < (P 1 4 - y8).toNat; omega), fr, rfl, ⟨by omega, by omega⟩, rfl, rfl, fun s x y => ?_, fun s x y => m2 s (by omega) y, m3⟩, fun q2 => ⟨⟨by omega, by omega⟩, ⟨by omega, by omega⟩, _, Or.inl (by show (P 1 4 - (y8 + 1)).toNat < (P 1 4 - y8).toNat; omega), fr.up (by simp), rfl, ⟨by omega, by omega⟩, rfl, rfl, fun s x y => ?_, fun s x y => ?_, fun k hk => ?_⟩⟩⟩
    · by_cases z : s = y8
      · rw [z, m2 y8 (by omega) (by omega), abMask_s h3.1, abIf_f (fun w => by have := (hq y8 (by omega) (by omega)).mp w; omega), Int.add_zero]
      · exact m1 s x (by omega)
    · by_cases z : s = y8
      · rw [z, slU_same, m2 y8 (by omega) (by omega), abMask_or h3.1 (by omega), abMask_s h3.1, abIf_t ((hq y8 (by omega) (by omega)).mpr (by omega))]
      · rw [slU_ne (by omega)]; exact m1 s x (by omega)
    · rw [slU_ne (by omega)]; exact m2 s (by omega) y
    · rw [slU_ne (by omega)]; exact m3 k hk
set_option maxHeartbeats 1000000 in
set_option maxRecDepth 4000 in
theorem sp_X3_lookInNight {G : slG} (hG : slGood G) {d K : Nat} (hd : 3 ≤ d) (hK : 0 ≤ K) {Φ : slPost} {σ : slM} {i0 : Nat} {c : Nat} {s : Nat} {x4 : Int} {x5 : Int} {P : abP} {C : Int → Int → Int} {oil mo : Int → Int} (hP : isC c P σ) (hC : gdC P) (h4 : 0 ≤ x4 ∧ x4 < 10) (h5 : 0 ≤ x5 ∧ x5 ≤ 9) (hc : ∀ h l : Int, 24 * x4 + 12 ≤ h → h < 24 * x4 + 24 → 0 ≤ l → l < P 1 3 → σ 35 i0 (l * 240 + h).toNat = C h l ∧ gc P (C h l)) (hW : isW P mo σ) (hM : gdM P mo) (ho : ∀ l : Int, 0 ≤ l → l < P 1 3 → σ 52 s l.toNat = oil l ∧ 0 ≤ oil l ∧ oil l ≤ 200) (h : ∀ τ, slFr [(36, i0)] σ τ → (∀ s h : Int, 0 ≤ s → s < P 1 4 → 24 * x4 + 12 ≤ h → h < 24 * x4 + 24 → τ 36 i0 (s * 240 + h).toNat = abSeen P C oil x5 (mo s) h) → (∀ k : Nat, ¬ (24 * x4 + 12 ≤ ((k % 240 : Nat) : Int) ∧ ((k % 240 : Nat) : Int) < 24 * x4 + 24) → τ 36 i0 k = σ 36 i0 k) → Φ (0, 0) τ) :
    slCall G mX3_lookInNight d K [sR 3 i0, sR 1 c, sR 8 s, sR 60 0, sI x4, sI x5] σ Φ := by
  refine vc_X3_lookInNight hG (by omega) hK (fun μ y6 σ' => slFr [(36, i0)] σ σ' ∧ μ = ((24 * x4 + 24 - y6).toNat, 20, 0) ∧ (24 * x4 + 12 ≤ y6 ∧ y6 ≤ 24 * x4 + 24) ∧ (∀ s h : Int, 0 ≤ s → s < P 1 4 → 24 * x4 + 12 ≤ h → h < y6 → σ' 36 i0 (s * 240 + h).toNat = abSeen P C oil x5 (mo s) h) ∧ (∀ k : Nat, ¬ (24 * x4 + 12 ≤ ((k % 240 : Nat) : Int) ∧ ((k % 240 : Nat) : Int) < 24 * x4 + 24) → σ' 36 i0 k = σ 36 i0 k)) (fun μ y6 y7 σ' => slFr [(36, i0)] σ σ' ∧ μ = ((24 * x4 + 24 - y6).toNat, 10, (P 1 4 - y7).toNat) ∧ (24 * x4 + 12 ≤ y6 ∧ y6 < 24 * x4 + 24) ∧ (0 ≤ y7 ∧ y7 ≤ P 1 4) ∧ (∀ s h : Int, 0 ≤ s → s < P 1 4 → 24 * x4 + 12 ≤ h → h < y6 → σ' 36 i0 (s * 240 + h).toNat = abSeen P C oil x5 (mo s) h) ∧ (∀ k : Nat, ¬ (24 * x4 + 12 ≤ ((k % 240 : Nat) : Int) ∧ ((k % 240 : Nat) : Int) < 24 * x4 + 24) → σ' 36 i0 k = σ 36 i0 k) ∧ ∀ s : Int, 0 ≤ s → s < y7 → σ' 36 i0 (s * 240 + y6).toNat = 0) (fun μ y6 y7 σ' => slFr [(36, i0)] σ σ' ∧ μ = ((24 * x4 + 24 - y6).toNat, 0, (P 1 3 - y7).toNat) ∧ (24 * x4 + 12 ≤ y6 ∧ y6 < 24 * x4 + 24) ∧ (0 ≤ y7 ∧ y7 ≤ P 1 3) ∧ (∀ s h : Int, 0 ≤ s → s < P 1 4 → 24 * x4 + 12 ≤ h → h < y6 → σ' 36 i0 (s * 240 + h).toNat = abSeen P C oil x5 (mo s) h) ∧ (∀ k : Nat, ¬ (24 * x4 + 12 ≤ ((k % 240 : Nat) : Int) ∧ ((k % 240 : Nat) : Int) < 24 * x4 + 24) → σ' 36 i0 k = σ 36 i0 k) ∧ ∀ s : Int, 0 ≤ s → s < P 1 4 → σ' 36 i0 (s * 240 + y6).toNat = abMask (abSees P C oil x5 (mo s) y6) y7.toNat) ?_ ?_ ?_ ?_
  · exact ⟨_, slFr.id, rfl, ⟨by omega, by omega⟩, fun s h a b c d => by omega, fun _ _ => rfl⟩
  · have a4 := hC.2.2.2.2.1
    rintro μ y6 σ' ⟨fr, rfl, hy, m1, m2⟩
    exact ⟨⟨⟨by omega, by omega⟩, by omega, by omega⟩, fun q => h σ' fr (fun s h a b c d => m1 s h a b c (by omega)) m2, fun q => ⟨((24 * x4 + 24 - y6).toNat, 10, (P 1 4 - 0).toNat), Or.inr ⟨rfl, Or.inl (by decide : 10 < 20)⟩, fr, rfl, ⟨by omega, by omega⟩, ⟨by omega, by omega⟩, m1, m2, fun s x y => by omega⟩⟩
  · have a := hC.2.2.2.1
    have a4 := hC.2.2.2.2.1
    rintro μ y6 y7 σ' ⟨fr, rfl, hy, hy7, m1, m2, m3⟩
    rw [(hP.fr fr (by simp [chR])).1]
    refine ⟨⟨⟨by omega, by omega⟩, by omega, by omega⟩, fun q => ⟨((24 * x4 + 24 - y6).toNat, 0, (P 1 3 - 0).toNat), Or.inr ⟨rfl, Or.inl (by decide : 0 < 10)⟩, fr, rfl, hy, ⟨by omega, by omega⟩, m1, m2, fun s x y => m3 s x (by omega)⟩, fun q => ⟨⟨by omega, by omega⟩, ((24 * x4 + 24 - y6).toNat, 10, (P 1 4 - (y7 + 1)).toNat), Or.inr ⟨rfl, Or.inr ⟨rfl, by show (P 1 4 - (y7 + 1)).toNat < (P 1 4 - y7).toNat; omega⟩⟩, fr.up (by simp), rfl, hy, ⟨by omega, by omega⟩, fun s h a b c d => ?_, fun k hk => ?_, fun s x y => ?_⟩⟩
    · rw [slU_ne (by omega)]; exact m1 s h a b c d
    · rw [slU_ne (by omega)]; exact m2 k hk
    · by_cases z : s = y7
      · rw [z, slU_same]
      · rw [slU_ne (by omega)]; exact m3 s x (by omega)
  · have a := hC.2.2.2.1
    have a4 := hC.2.2.2.2.1
    rintro μ y6 y7 σ' ⟨fr, rfl, hy, hy7, m1, m2, m3⟩
    have hP' : isC c P σ' := hP.fr fr (by simp [chR])
    rw [hP'.1, fr 52 s (by simp)]
    have lt : ¬ P 1 3 ≤ y7 → slLt ((24 * x4 + 24 - y6).toNat, 0, (P 1 3 - (y7 + 1)).toNat) ((24 * x4 + 24 - y6).toNat, 0, (P 1 3 - y7).toNat) := fun q => Or.inr ⟨rfl, Or.inr ⟨rfl, by show (P 1 3 - (y7 + 1)).toNat < (P 1 3 - y7).toNat; omega⟩⟩
    refine ⟨⟨⟨by omega, by omega⟩, by omega, by omega⟩, fun q => ⟨((24 * x4 + 24 - (y6 + 1)).toNat, 20, 0), Or.inl (by show (24 * x4 + 24 - (y6 + 1)).toNat < (24 * x4 + 24 - y6).toNat; omega), fr, rfl, ⟨by omega, by omega⟩, fun s h a b c d => ?_, m2⟩, fun q => ⟨⟨by omega, by omega⟩, ?_⟩⟩
    · by_cases z : h = y6
      · rw [z, m3 s a b]
        unfold abSeen
        rw [show y7.toNat = (P 1 3).toNat by omega]
      · exact m1 s h a b c (by omega)
    · have o := ho y7 hy7.1 (by omega)
      have g := hc y6 y7 hy.1 hy.2 hy7.1 (by omega)
      have g2 := g.2.dv hC
      rw [o.1]
      refine sp_X11_isLit hG (by omega) (by omega) ⟨by omega, by omega⟩ ⟨by omega, by omega⟩ (slKn.ok ⟨in01, fun q2 => ?_, fun q2 => ?_⟩)
      · have nl := abIf_z q2
        refine ⟨_, lt q, fr, rfl, hy, ⟨by omega, by omega⟩, m1, m2, fun s x y => ?_⟩
        rw [m3 s x y, abMask_s hy7.1, abIf_f (fun w => nl w.1), Int.add_zero]
      · have li := abIf_nz q2
        have e60 : σ' 60 0 = σ 60 0 := fr 60 0 (by simp)
        have ew : ∀ s : Int, 0 ≤ s → s < P 1 4 → σ' 60 0 (s * 144 + C y6 y7).toNat = abSight P (mo s) (C y6 y7) := fun s x y => by rw [e60]; exact hW s _ x y g.2
        refine sp_X3_show hG (by omega) (by omega) (Q := fun s l => abSees P C oil x5 (mo s) y6 l) (cell := C y6 y7) hP' hC ⟨by omega, by omega⟩ ⟨by omega, by omega⟩ h5 (by rw [fr 35 i0 (by simp)]; exact g.1) g.2 (fun s x y => ?_) (fun s x y => ?_) m3 (fun τ f2 d1 d2 => slKt.ok ⟨_, lt q, fr.tr f2, rfl, hy, ⟨by omega, by omega⟩, fun s h a b c d => ?_, fun k hk => ?_, d1⟩)
        · rw [ew s x y]
          have := abSight_r hC (hM s x y).1 g.2
          exact ⟨by omega, by omega⟩
        · rw [ew s x y]
          exact ⟨fun w => w.2, fun w => ⟨li, w⟩⟩
        · rw [d2 _ (by omega)]; exact m1 s h a b c d
        · rw [d2 _ (by omega)]; exact m2 k hk
set_option maxHeartbeats 1000000 in
set_option maxRecDepth 4000 in
theorem sp_X3_look {G : slG} (hG : slGood G) {d K : Nat} (hd : 4 ≤ d) (hK : 0 ≤ K) {Φ : slPost} {σ : slM} {i0 : Nat} {c : Nat} {s : Nat} {P : abP} {C : Int → Int → Int} {oil mo : Int → Int} (hP : isC c P σ) (hC : gdC P) (hc : ∀ h l : Int, 0 ≤ h → h < 240 → 0 ≤ l → l < P 1 3 → σ 35 i0 (l * 240 + h).toNat = C h l ∧ gc P (C h l)) (hW : isW P mo σ) (hM : gdM P mo) (ho : ∀ l : Int, 0 ≤ l → l < P 1 3 → σ 52 s l.toNat = oil l ∧ 0 ≤ oil l ∧ oil l ≤ 200) (hz : ∀ k : Nat, k % 240 % 24 < 12 → σ 36 i0 k = 0) (h : ∀ τ, slFr [(36, i0)] σ τ → (∀ s h : Int, 0 ≤ s → s < P 1 4 → 0 ≤ h → h < 240 → τ 36 i0 (s * 240 + h).toNat = abNow P C oil mo s h) → (∀ k : Nat, k % 240 % 24 < 12 → τ 36 i0 k = 0) → Φ (0, 0) τ) :
    slCall G mX3_look d K [sR 3 i0, sR 1 c, sR 8 s, sR 60 0] σ Φ := by
  refine vc_X3_look hG (by omega) hK (fun μ y4 σ' => slFr [(36, i0)] σ σ' ∧ μ = ((10 - y4).toNat, 0, 0) ∧ (0 ≤ y4 ∧ y4 ≤ 10) ∧ (∀ s h : Int, 0 ≤ s → s < P 1 4 → 0 ≤ h → h < 24 * y4 → σ' 36 i0 (s * 240 + h).toNat = abNow P C oil mo s h) ∧ (∀ k : Nat, k % 240 % 24 < 12 → σ' 36 i0 k = 0)) ?_ ?_
  · exact ⟨_, slFr.id, rfl, ⟨by omega, by omega⟩, fun s h a b c d => by omega, hz⟩
  · rintro μ y4 σ' ⟨fr, rfl, hy, m1, m2⟩
    have hP' : isC c P σ' := hP.fr fr (by simp [chR])
    refine ⟨⟨by omega, by omega⟩, fun q => h σ' fr (fun s h a b c d => m1 s h a b c (by omega)) m2, fun q => ?_⟩
    have fg := abFog_r (n := y4) hC hy.1
    refine sp_X1_fogIn hG (by omega) (by omega) hP' hC ⟨by omega, by omega⟩ (slKt.ok ?_)
    refine sp_X3_lookInNight hG (by omega) (by omega) (C := C) (oil := oil) (mo := mo) hP' hC ⟨by omega, by omega⟩ fg (fun h l a b c d => by rw [fr 35 i0 (by simp)]; exact hc h l (by omega) (by omega) c d) (fun s c x y g => by rw [fr 60 0 (by simp)]; exact hW s c x y g) hM (fun l x y => by rw [fr 52 s (by simp)]; exact ho l x y) (fun τ f2 d1 d2 => slKt.ok ⟨_, Or.inl (by show (10 - (y4 + 1)).toNat < (10 - y4).toNat; omega), fr.tr f2, rfl, ⟨by omega, by omega⟩, fun s h a b c d => ?_, fun k hk => ?_⟩)
    · by_cases z : h < 24 * y4
      · rw [d2 _ (by omega)]; exact m1 s h a b c z
      · by_cases w : h < 24 * y4 + 12
        · rw [d2 _ (by omega), m2 _ (by omega)]
          unfold abNow
          rw [abSeen_day (by omega)]
        · rw [d1 s h a b (by omega) (by omega)]
          unfold abNow
          rw [show h / 24 = y4 by omega]
    · rw [d2 _ (by omega)]; exact m2 k hk
/-! what is told from the sights W of a ship, hour by hour -/
noncomputable def abHrs (W : Int → Int) (night some : Int) : Int := abSum (fun k => abIf (¬ sAnd (W (24 * night + k)) some = 0) 1 0) 24
theorem abSum_z {f : Int → Int} : ∀ {n : Nat}, (∀ k : Int, 0 ≤ k → k < n → f k = 0) → abSum f n = 0
  | 0, _ => rfl
  | n + 1, h => by
    show abSum f n + f n = 0
    rw [abSum_z (fun k a b => h k a (by omega)), h n (by omega) (by omega)]
    rfl
theorem abHrs_r {W : Int → Int} {night some : Int} : 0 ≤ abHrs W night some ∧ abHrs W night some ≤ 24 := by
  have q := abSum_le (f := fun k => abIf (¬ sAnd (W (24 * night + k)) some = 0) 1 0) (B := 1) (n := 24) (fun k _ _ => by
    rcases abIf_01 (p := ¬ sAnd (W (24 * night + k)) some = 0) with z | z <;> (show 0 ≤ abIf _ 1 0 ∧ abIf _ 1 0 ≤ 1) <;> rw [z] <;> omega)
  unfold abHrs
  omega
set_option maxHeartbeats 1000000 in
set_option maxRecDepth 4000 in
theorem sp_X3_hoursBy {G : slG} (hG : slGood G) {d K : Nat} (hd : 0 ≤ d) (hK : 0 ≤ K) {Φ : slPost} {σ : slM} {i0 : Nat} {x1 : Int} {x2 : Int} {x3 : Int} {W : Int → Int} (h1 : 0 ≤ x1 ∧ x1 < 8) (h2 : 0 ≤ x2 ∧ x2 < 10) (hw : ∀ h : Int, 24 * x2 + 12 ≤ h → h < 24 * x2 + 24 → σ 36 i0 (x1 * 240 + h).toNat = W h) (hz : ∀ h : Int, 24 * x2 ≤ h → h < 24 * x2 + 12 → W h = 0) (h : Φ (0, abHrs W x2 x3) σ) :
    slCall G mX3_hoursBy d K [sR 3 i0, sI x1, sI x2, sI x3] σ Φ := by
  refine vc_X3_hoursBy hG (by omega) hK (fun μ y4 y5 y6 σ' => σ' = σ ∧ μ = ((24 - y6).toNat, 0, 0) ∧ (12 ≤ y6 ∧ y6 ≤ 24) ∧ y5 = x1 * 240 + x2 * 24 ∧ y4 = abSum (fun k => abIf (¬ sAnd (W (24 * x2 + k)) x3 = 0) 1 0) y6.toNat) ?_ ?_
  · refine ⟨_, rfl, rfl, ⟨by omega, by omega⟩, rfl, ?_⟩
    refine (abSum_z (fun k a b => ?_)).symm
    rw [hz _ (by omega) (by omega), sAnd_z]
    exact abIf_f (fun z => z rfl)
  · rintro μ y4 y5 y6 σ' ⟨rfl, rfl, hy, rfl, rfl⟩
    refine ⟨⟨by omega, by omega⟩, fun q => ?_, fun q => ⟨⟨by omega, by omega⟩, inAnd, fun q2 => ?_, fun q2 => ?_⟩⟩
    · rw [show y6.toNat = 24 by omega]; exact h
    · rw [show x1 * 240 + x2 * 24 + y6 = x1 * 240 + (24 * x2 + y6) by omega, hw _ (by omega) (by omega)] at q2
      refine ⟨_, Or.inl (by show (24 - (y6 + 1)).toNat < (24 - y6).toNat; omega), rfl, rfl, ⟨by omega, by omega⟩, rfl, ?_⟩
      rw [abSum_s (by omega), abIf_f (fun z => z q2), Int.add_zero]
    · rw [show x1 * 240 + x2 * 24 + y6 = x1 * 240 + (24 * x2 + y6) by omega, hw _ (by omega) (by omega)] at q2
      refine ⟨_, Or.inl (by show (24 - (y6 + 1)).toNat < (24 - y6).toNat; omega), rfl, rfl, ⟨by omega, by omega⟩, rfl, ?_⟩
      rw [abSum_s (by omega), abIf_t q2]
set_option maxHeartbeats 1000000 in
set_option maxRecDepth 4000 in
theorem sp_X3_contentBy {G : slG} (hG : slGood G) {d K : Nat} (hd : 1 ≤ d) (hK : 0 ≤ K) {Φ : slPost} {σ : slM} {i0 : Nat} {c : Nat} {s : Nat} {x3 : Int} {x4 : Int} {P : abP} {V : Int → Int → Int} (hP : isC c P σ) (hC : gdC P) (h3 : 0 ≤ x3 ∧ x3 < 10) (hw : ∀ s h : Int, 0 ≤ s → s < P 1 4 → 24 * x3 + 12 ≤ h → h < 24 * x3 + 24 → σ 36 i0 (s * 240 + h).toNat = V s h) (hz : ∀ s h : Int, 0 ≤ s → s < P 1 4 → 24 * x3 ≤ h → h < 24 * x3 + 12 → V s h = 0) (hi : ∀ k : Int, 0 ≤ k → k < P 1 4 → InR (σ 54 s k.toNat)) (h : Φ (0, abMask (fun k => σ 54 s k.toNat ≤ abHrs (V k) x3 x4) (P 1 4).toNat) σ) :
    slCall G mX3_contentBy d K [sR 3 i0, sR 1 c, sR 8 s, sI x3, sI x4] σ Φ := by
  refine vc_X3_contentBy hG (by omega) hK (fun μ y5 y6 σ' => σ' = σ ∧ μ = ((P 1 4 - y6).toNat, 0, 0) ∧ (0 ≤ y6 ∧ y6 ≤ P 1 4) ∧ y5 = abMask (fun k => σ 54 s k.toNat ≤ abHrs (V k) x3 x4) y6.toNat) ?_ ?_
  · have a4 := hC.2.2.2.2.1
    exact ⟨_, rfl, rfl, ⟨by omega, by omega⟩, rfl⟩
  · have a4 := hC.2.2.2.2.1
    rintro μ y5 y6 σ' ⟨rfl, rfl, hy, rfl⟩
    rw [hP.1]
    refine ⟨⟨⟨by omega, by omega⟩, by omega, by omega⟩, fun q => ?_, fun q => ?_⟩
    · rw [show y6.toNat = (P 1 4).toNat by omega]; exact h
    · have r := abHrs_r (W := V y6) (night := x3) (some := x4)
      refine sp_X3_hoursBy hG (by omega) (by omega) (W := V y6) ⟨by omega, by omega⟩ h3 (fun h a b => hw y6 h hy.1 (by omega) a b) (fun h a b => hz y6 h hy.1 (by omega) a b) (slKt.ok ⟨⟨by omega, by omega⟩, ⟨⟨by omega, by omega⟩, hi y6 hy.1 (by omega)⟩, fun q2 => ⟨_, Or.inl (by show (P 1 4 - (y6 + 1)).toNat < (P 1 4 - y6).toNat; omega), rfl, rfl, ⟨by omega, by omega⟩, ?_⟩, fun q2 => ⟨_, Or.inl (by show (P 1 4 - (y6 + 1)).toNat < (P 1 4 - y6).toNat; omega), rfl, rfl, ⟨by omega, by omega⟩, ?_⟩⟩)
      · rw [abMask_s hy.1, abIf_f (by omega), Int.add_zero]
      · rw [abMask_s hy.1, abMask_or hy.1 (by omega), abIf_t (by omega)]
set_option maxHeartbeats 1000000 in
set_option maxRecDepth 4000 in
theorem sp_X3_sumOfWatches {G : slG} (hG : slGood G) {d K : Nat} (hd : 1 ≤ d) (hK : 0 ≤ K) {Φ : slPost} {σ : slM} {i0 : Nat} {x1 : Int} {V : Int → Int → Int} (h1 : 0 ≤ x1 ∧ x1 ≤ 8) (hw : ∀ s h : Int, 0 ≤ s → s < x1 → 0 ≤ h → h < 240 → σ 36 i0 (s * 240 + h).toNat = V s h) (hz : ∀ s h : Int, 0 ≤ s → s < x1 → h % 24 < 12 → V s h = 0) (h : Φ (0, abSum (fun s => abSum (fun n => abHrs (V s) n 31) 10) x1.toNat) σ) :
    slCall G mX3_sumOfWatches d K [sR 3 i0, sI x1] σ Φ := by
  refine vc_X3_sumOfWatches hG (by omega) hK (fun μ y2 y3 σ' => σ' = σ ∧ μ = ((x1 - y3).toNat, 20, 0) ∧ (0 ≤ y3 ∧ y3 ≤ x1) ∧ y2 = abSum (fun s => abSum (fun n => abHrs (V s) n 31) 10) y3.toNat) (fun μ y2 y3 y4 σ' => σ' = σ ∧ μ = ((x1 - y3).toNat, 0, (10 - y4).toNat) ∧ (0 ≤ y3 ∧ y3 < x1) ∧ (0 ≤ y4 ∧ y4 ≤ 10) ∧ y2 = abSum (fun s => abSum (fun n => abHrs (V s) n 31) 10) y3.toNat + abSum (fun n => abHrs (V y3) n 31) y4.toNat) ?_ ?_ ?_
  · exact ⟨_, rfl, rfl, ⟨by omega, by omega⟩, rfl⟩
  · rintro μ y2 y3 σ' ⟨rfl, rfl, hy, rfl⟩
    refine ⟨⟨⟨by omega, by omega⟩, by omega, by omega⟩, fun q => ?_, fun q => ⟨((x1 - y3).toNat, 0, (10 - 0 : Int).toNat), Or.inr ⟨rfl, Or.inl (by decide : 0 < 20)⟩, rfl, rfl, ⟨by omega, by omega⟩, ⟨by omega, by omega⟩, ?_⟩⟩
    · rw [show y3.toNat = x1.toNat by omega]; exact h
    · exact (Int.add_zero _).symm
  · rintro μ y2 y3 y4 σ' ⟨rfl, rfl, hy, hy4, rfl⟩
    refine ⟨⟨by omega, by omega⟩, fun q => ⟨((x1 - (y3 + 1)).toNat, 20, 0), Or.inl (by show (x1 - (y3 + 1)).toNat < (x1 - y3).toNat; omega), rfl, rfl, ⟨by omega, by omega⟩, ?_⟩, fun q => ?_⟩
    · rw [abSum_s hy.1, show y4.toNat = 10 by omega]
    · refine sp_X3_hoursBy hG (by omega) (by omega) (W := V y3) ⟨by omega, by omega⟩ ⟨by omega, by omega⟩ (fun h a b => hw y3 h hy.1 (by omega) (by omega) (by omega)) (fun h a b => hz y3 h hy.1 (by omega) (by omega)) (slKt.ok ⟨((x1 - y3).toNat, 0, (10 - (y4 + 1)).toNat), Or.inr ⟨rfl, Or.inr ⟨rfl, by show (10 - (y4 + 1)).toNat < (10 - y4).toNat; omega⟩⟩, rfl, rfl, hy, ⟨by omega, by omega⟩, ?_⟩)
      rw [abSum_s hy4.1, Int.add_assoc]
noncomputable def abOrs (f : Int → Int) : Nat → Int
  | 0 => 0
  | n + 1 => sOr (abOrs f n) (f n)
theorem abOrs_s {f : Int → Int} {y : Int} (h : 0 ≤ y) : abOrs f (y + 1).toNat = sOr (abOrs f y.toNat) (f y) := by
  obtain ⟨n, rfl⟩ := Int.eq_ofNat_of_zero_le h
  have : ((n : Int) + 1).toNat = n + 1 := by omega
  rw [this, Int.toNat_natCast]
  rfl
theorem abOrs_z {f : Int → Int} : ∀ {n : Nat}, (∀ k : Int, 0 ≤ k → k < n → f k = 0) → abOrs f n = 0
  | 0, _ => rfl
  | n + 1, h => by
    show sOr (abOrs f n) (f n) = 0
    rw [abOrs_z (fun k a b => h k a (by omega)), h n (by omega) (by omega)]
    decide +kernel
theorem sOr_r {a b : Int} (ha : 0 ≤ a) (ha' : a < 32) (hb : 0 ≤ b) (hb' : b < 32) : (0 ≤ sOr a b ∧ sOr a b < 32) ∧ (sOr a b = 0 ↔ a = 0 ∧ b = 0) := by
  obtain ⟨m, rfl⟩ := Int.eq_ofNat_of_zero_le ha
  obtain ⟨n, rfl⟩ := Int.eq_ofNat_of_zero_le hb
  exact (by decide +kernel : ∀ m, m < 32 → ∀ n, n < 32 → (0 ≤ sOr ((m : Nat) : Int) ((n : Nat) : Int) ∧ sOr (m : Int) (n : Int) < 32) ∧ (sOr (m : Int) (n : Int) = 0 ↔ (m : Int) = 0 ∧ (n : Int) = 0)) m (by omega) n (by omega)
theorem abOrs_r {f : Int → Int} : ∀ {n : Nat}, (∀ k : Int, 0 ≤ k → k < n → 0 ≤ f k ∧ f k < 32) → (0 ≤ abOrs f n ∧ abOrs f n < 32) ∧ (abOrs f n = 0 ↔ ∀ k : Int, 0 ≤ k → k < n → f k = 0)
  | 0, _ => ⟨⟨Int.le_refl _, by show (0 : Int) < 32; decide⟩, ⟨fun _ k a b => by omega, fun _ => rfl⟩⟩
  | n + 1, h => by
    have ih := abOrs_r (f := f) (n := n) (fun k a b => h k a (by omega))
    have hn := h n (by omega) (by omega)
    have q := sOr_r ih.1.1 ih.1.2 hn.1 hn.2
    refine ⟨q.1, ?_⟩
    show sOr (abOrs f n) (f n) = 0 ↔ _
    rw [q.2, ih.2]
    constructor
    · rintro ⟨a, b⟩ k x y
      by_cases z : k = n
      · rw [z]; exact b
      · exact a k x (by omega)
    · intro a
      exact ⟨fun k x y => a k x (by omega), a n (by omega) (by omega)⟩
set_option maxHeartbeats 1000000 in
set_option maxRecDepth 4000 in
theorem sp_X3_lightsIn {G : slG} (hG : slGood G) {d K : Nat} (hd : 0 ≤ d) (hK : 0 ≤ K) {Φ : slPost} {σ : slM} {i0 : Nat} {x1 : Int} {x2 : Int} {W : Int → Int} (h1 : 0 ≤ x1 ∧ x1 < 8) (h2 : 0 ≤ x2 ∧ x2 < 10) (hw : ∀ h : Int, 24 * x2 + 12 ≤ h → h < 24 * x2 + 24 → σ 36 i0 (x1 * 240 + h).toNat = W h) (hz : ∀ h : Int, 24 * x2 ≤ h → h < 24 * x2 + 12 → W h = 0) (h : Φ (0, abOrs (fun k => W (24 * x2 + k)) 24) σ) :
    slCall G mX3_lightsIn d K [sR 3 i0, sI x1, sI x2] σ Φ := by
  refine vc_X3_lightsIn hG (by omega) hK (fun μ y3 y4 y5 σ' => σ' = σ ∧ μ = ((24 - y5).toNat, 0, 0) ∧ (12 ≤ y5 ∧ y5 ≤ 24) ∧ y4 = x1 * 240 + x2 * 24 ∧ y3 = abOrs (fun k => W (24 * x2 + k)) y5.toNat) ?_ ?_
  · exact ⟨_, rfl, rfl, ⟨by omega, by omega⟩, rfl, (abOrs_z (fun k a b => hz _ (by omega) (by omega))).symm⟩
  · rintro μ y3 y4 y5 σ' ⟨rfl, rfl, hy, rfl, rfl⟩
    refine ⟨⟨by omega, by omega⟩, fun q => ?_, fun q => ⟨⟨by omega, by omega⟩, _, Or.inl (by show (24 - (y5 + 1)).toNat < (24 - y5).toNat; omega), rfl, rfl, ⟨by omega, by omega⟩, rfl, ?_⟩⟩
    · rw [show y5.toNat = 24 by omega]; exact h
    · rw [abOrs_s (by omega), show x1 * 240 + x2 * 24 + y5 = x1 * 240 + (24 * x2 + y5) by omega, hw _ (by omega) (by omega)]
/-- the first night below n in which nothing is seen, or -1 -/
noncomputable def abUns (W : Int → Int) (k : Nat) : Nat → Int
  | 0 => -1
  | n + 1 => abIf (abHrs W k 31 = 0) k (abUns W (k + 1) n)
theorem abHrs_0 {W : Int → Int} {n : Int} (h : ∀ k : Int, 0 ≤ k → k < 24 → 0 ≤ W (24 * n + k) ∧ W (24 * n + k) < 32) : abHrs W n 31 = 0 ↔ abOrs (fun k => W (24 * n + k)) 24 = 0 := by
  rw [(abOrs_r (f := fun k => W (24 * n + k)) (n := 24) h).2]
  have key : ∀ m : Nat, m ≤ 24 → (abSum (fun k => abIf (¬ sAnd (W (24 * n + k)) 31 = 0) 1 0) m = 0 ↔ ∀ k : Int, 0 ≤ k → k < m → W (24 * n + k) = 0) := by
    intro m
    induction m with
    | zero => exact fun _ => ⟨fun _ k a b => by omega, fun _ => rfl⟩
    | succ m ih =>
      intro hm
      have i2 := ih (by omega)
      have r := abSum_le (f := fun k => abIf (¬ sAnd (W (24 * n + k)) 31 = 0) 1 0) (B := 1) (n := m) (fun k _ _ => by
        rcases abIf_01 (p := ¬ sAnd (W (24 * n + k)) 31 = 0) with z | z <;> (show 0 ≤ abIf _ 1 0 ∧ abIf _ 1 0 ≤ 1) <;> rw [z] <;> omega)
      have hm2 := h m (by omega) (by omega)
      show abSum _ m + abIf (¬ sAnd (W (24 * n + m)) 31 = 0) 1 0 = 0 ↔ _
      rw [sNz hm2.1 hm2.2]
      by_cases z : W (24 * n + m) = 0
      · rw [abIf_f (fun w => w z), Int.add_zero, i2]
        constructor
        · intro a k x y
          by_cases e : k = m
          · rw [e]; exact z
          · exact a k x (by omega)
        · exact fun a k x y => a k x (by omega)
      · rw [abIf_t z]
        exact ⟨fun a => by omega, fun a => absurd (a m (by omega) (by omega)) z⟩
  exact key 24 (by omega)
set_option maxHeartbeats 1000000 in
set_option maxRecDepth 4000 in
theorem sp_X3_firstUnseen {G : slG} (hG : slGood G) {d K : Nat} (hd : 1 ≤ d) (hK : 0 ≤ K) {Φ : slPost} {σ : slM} {i0 : Nat} {x1 : Int} {W : Int → Int} (h1 : 0 ≤ x1 ∧ x1 < 8) (hw : ∀ h : Int, 0 ≤ h → h < 240 → σ 36 i0 (x1 * 240 + h).toNat = W h ∧ 0 ≤ W h ∧ W h < 32) (hz : ∀ h : Int, h % 24 < 12 → W h = 0) (h : Φ (0, abUns W 0 10) σ) :
    slCall G mX3_firstUnseen d K [sR 3 i0, sI x1] σ Φ := by
  refine vc_X3_firstUnseen hG (by omega) hK (fun μ y2 σ' => σ' = σ ∧ μ = ((10 - y2).toNat, 0, 0) ∧ (0 ≤ y2 ∧ y2 ≤ 10) ∧ abUns W 0 10 = abUns W y2.toNat (10 - y2).toNat) ?_ ?_
  · exact ⟨_, rfl, rfl, ⟨by omega, by omega⟩, rfl⟩
  · rintro μ y2 σ' ⟨rfl, rfl, hy, e⟩
    refine ⟨⟨by omega, by omega⟩, fun q => ?_, fun q => ?_⟩
    · rw [e, show (10 - y2).toNat = 0 by omega] at h; exact h
    · have e2 : abUns W y2.toNat (10 - y2).toNat = abIf (abHrs W y2 31 = 0) y2 (abUns W (y2 + 1).toNat (10 - (y2 + 1)).toNat) := by
        rw [show (10 - y2).toNat = (10 - (y2 + 1)).toNat + 1 by omega, show (y2 + 1).toNat = y2.toNat + 1 by omega]
        show abIf (abHrs W (y2.toNat : Int) 31 = 0) (y2.toNat : Int) _ = _
        rw [show ((y2.toNat : Nat) : Int) = y2 by omega]
      have hr := abHrs_0 (W := W) (n := y2) (fun k a b => (hw _ (by omega) (by omega)).2)
      have r := (abOrs_r (f := fun k => W (24 * y2 + k)) (n := 24) (fun k a b => (hw _ (by omega) (by omega)).2)).1
      refine sp_X3_lightsIn hG (by omega) (by omega) (W := W) h1 ⟨by omega, by omega⟩ (fun h a b => (hw h (by omega) (by omega)).1) (fun h a b => hz h (by omega)) (slKt.ok ⟨⟨by omega, by omega⟩, fun q2 => ⟨_, Or.inl (by show (10 - (y2 + 1)).toNat < (10 - y2).toNat; omega), rfl, rfl, ⟨by omega, by omega⟩, ?_⟩, fun q2 => ?_⟩)
      · rw [e, e2, abIf_f (fun w => q2 (hr.mp w))]
      · rw [e, e2, abIf_t (hr.mpr q2)] at h; exact h
noncomputable def abDk (W : Int → Int) : Nat → Int × Int
  | 0 => (0, 0)
  | n + 1 => if (n : Int) % 24 < 12 then abDk W n else ((if (abDk W n).1 < (if ¬ W n = 0 then 0 else (abDk W n).2 + 1) then (if ¬ W n = 0 then 0 else (abDk W n).2 + 1) else (abDk W n).1), (if ¬ W n = 0 then 0 else (abDk W n).2 + 1))
theorem abDk_r {W : Int → Int} : ∀ {n : Nat}, (0 ≤ (abDk W n).1 ∧ (abDk W n).1 ≤ n) ∧ (0 ≤ (abDk W n).2 ∧ (abDk W n).2 ≤ n)
  | 0 => by show ((0 : Int) ≤ 0 ∧ (0 : Int) ≤ ((0 : Nat) : Int)) ∧ ((0 : Int) ≤ 0 ∧ (0 : Int) ≤ ((0 : Nat) : Int)); omega
  | n + 1 => by
    have ih := abDk_r (W := W) (n := n)
    unfold abDk
    by_cases z : (n : Int) % 24 < 12
    · rw [if_pos z]; omega
    · rw [if_neg z]
      by_cases w : W n = 0
      · simp only [w, not_true_eq_false, if_false]
        split <;> omega
      · simp only [w, not_false_eq_true, if_true]
        split <;> omega
theorem abDk_s {W : Int → Int} {y : Int} (h : 0 ≤ y) : abDk W (y + 1).toNat = if y % 24 < 12 then abDk W y.toNat else ((if (abDk W y.toNat).1 < (if ¬ W y = 0 then 0 else (abDk W y.toNat).2 + 1) then (if ¬ W y = 0 then 0 else (abDk W y.toNat).2 + 1) else (abDk W y.toNat).1), (if ¬ W y = 0 then 0 else (abDk W y.toNat).2 + 1)) := by
  obtain ⟨n, rfl⟩ := Int.eq_ofNat_of_zero_le h
  have : ((n : Int) + 1).toNat = n + 1 := by omega
  rw [this, Int.toNat_natCast]
  rfl
set_option maxHeartbeats 1000000 in
set_option maxRecDepth 4000 in
theorem sp_X3_longestDark {G : slG} (hG : slGood G) {d K : Nat} (hd : 1 ≤ d) (hK : 0 ≤ K) {Φ : slPost} {σ : slM} {i0 : Nat} {x1 : Int} {W : Int → Int} (h1 : 0 ≤ x1 ∧ x1 < 8) (hw : ∀ h : Int, 0 ≤ h → h < 240 → σ 36 i0 (x1 * 240 + h).toNat = W h ∧ 0 ≤ W h ∧ W h < 32) (h : Φ (0, (abDk W 240).1) σ) :
    slCall G mX3_longestDark d K [sR 3 i0, sI x1] σ Φ := by
  refine vc_X3_longestDark hG (by omega) hK (fun μ y2 y3 y4 σ' => σ' = σ ∧ μ = ((240 - y4).toNat, 0, 0) ∧ (0 ≤ y4 ∧ y4 ≤ 240) ∧ y2 = (abDk W y4.toNat).1 ∧ y3 = (abDk W y4.toNat).2) ?_ ?_
  · exact ⟨_, rfl, rfl, ⟨by omega, by omega⟩, rfl, rfl⟩
  · rintro μ y2 y3 y4 σ' ⟨rfl, rfl, hy, rfl, rfl⟩
    have r := abDk_r (W := W) (n := y4.toNat)
    refine ⟨⟨by omega, by omega⟩, fun q => ?_, fun q => ?_⟩
    · rw [show y4.toNat = 240 by omega]; exact h
    · rw [sRem_eq hy.1 (by omega) (by omega) (by omega), (hw y4 hy.1 (by omega)).1]
      have w := (hw y4 hy.1 (by omega)).2
      refine ⟨⟨by omega, by omega⟩, fun q2 => ⟨_, Or.inl (by show (240 - (y4 + 1)).toNat < (240 - y4).toNat; omega), rfl, rfl, ⟨by omega, by omega⟩, ?_, ?_⟩, fun q2 => ⟨⟨by omega, by omega⟩, ⟨by omega, by omega⟩, ⟨⟨by omega, by omega⟩, ?_⟩, _, Or.inl (by show (240 - (y4 + 1)).toNat < (240 - y4).toNat; omega), rfl, rfl, ⟨by omega, by omega⟩, ?_, ?_⟩⟩
      · rw [abDk_s hy.1, if_pos q2]
      · rw [abDk_s hy.1, if_pos q2]
      · split <;> exact ⟨by omega, by omega⟩
      · rw [abDk_s hy.1, if_neg q2]
      · rw [abDk_s hy.1, if_neg q2]
