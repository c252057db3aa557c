/-! ===== years of storms ===== -/
def abSd (x : Int) : Int := wr (wr (x * 1103515245) + 12345)
def abRaw (x : Int) : Int := sAnd (sUshr x 16) 32767
theorem sAnd32767 (v : Int) : 0 ≤ sAnd v 32767 ∧ sAnd v 32767 < 32768 := by
  unfold sAnd
  have e : (Int32.ofInt v &&& Int32.ofInt 32767).toInt = (((Int32.ofInt v).toBitVec &&& (32767#32)).toNat : Int) := by
    rw [show (Int32.ofInt v &&& Int32.ofInt 32767).toInt = ((Int32.ofInt v).toBitVec &&& (32767#32)).toInt from rfl]
    refine BitVec.toInt_eq_toNat_of_lt ?_
    rw [BitVec.toNat_and]
    have : (Int32.ofInt v).toBitVec.toNat &&& (32767#32).toNat ≤ (32767#32).toNat := Nat.and_le_right
    have e2 : (32767#32).toNat = 32767 := rfl
    omega
  rw [e, BitVec.toNat_and]
  have : (Int32.ofInt v).toBitVec.toNat &&& (32767#32).toNat ≤ (32767#32).toNat := Nat.and_le_right
  have e2 : (32767#32).toNat = 32767 := rfl
  omega
theorem bv_sh15 (w : BitVec 32) : (w.sshiftRight 16) &&& (32767#32) = (w >>> 16) &&& (32767#32) := by
  apply BitVec.eq_of_getLsbD_eq
  intro i hi
  rw [BitVec.getLsbD_and, BitVec.getLsbD_and, BitVec.getLsbD_sshiftRight, BitVec.getLsbD_ushiftRight]
  by_cases z : i < 15
  · have a1 : ¬ 32 ≤ i := by omega
    have a2 : 16 + i < 32 := by omega
    simp [a1, a2]
  · have : (32767#32).getLsbD i = false := by
      have hh : ∀ j : Nat, j < 32 → ¬ j < 15 → (32767#32).getLsbD j = false := by decide
      exact hh i hi z
    rw [this, Bool.and_false, Bool.and_false]
theorem abRaw_m (x : Int) : sAnd (sShr x 16) 32767 = abRaw x := by
  have key : ∀ (w : BitVec 32), (Int32.ofInt (Int32.ofBitVec (w.sshiftRight 16)).toInt &&& Int32.ofInt 32767).toInt = (Int32.ofInt (Int32.ofBitVec (w >>> 16)).toInt &&& Int32.ofInt 32767).toInt := by
    intro w
    rw [Int32.ofInt_toInt, Int32.ofInt_toInt]
    have := bv_sh15 w
    show ((w.sshiftRight 16) &&& (32767#32)).toInt = ((w >>> 16) &&& (32767#32)).toInt
    rw [this]
  exact key (Int32.ofInt x).toBitVec
theorem abRaw_r {x : Int} : 0 ≤ abRaw x ∧ abRaw x < 32768 := sAnd32767 _
theorem abPop_le {f : Int → Prop} {n : Nat} (h : n ≤ 8) : abPop (abMask f n) ≤ n := by
  have r := abMask_r (f := f) (n := n)
  obtain ⟨m, e⟩ := Int.eq_ofNat_of_zero_le r.1
  rw [e] at r ⊢
  rw [abPop_e]
  exact (by decide +kernel : ∀ n : Nat, n ≤ 8 → ∀ m : Nat, m < 2 ^ n → abBit ((m : Nat) : Int) 0 + abBit (m : Int) 1 + abBit (m : Int) 2 + abBit (m : Int) 3 + abBit (m : Int) 4 + abBit (m : Int) 5 + abBit (m : Int) 6 + abBit (m : Int) 7 ≤ (n : Int)) n h m (by exact_mod_cast r.2)
theorem slU_tw {σ : slM} {r i k : Nat} {v w : Int} : slU (slU σ r i k v) r i k w = slU σ r i k w := by
  funext r' i' k'
  unfold slU
  by_cases z : r' = r ∧ i' = i ∧ k' = k
  · rw [if_pos z, if_pos z]
  · rw [if_neg z, if_neg z, if_neg z]
/-- which light a storm takes, and where to -/
def abStL (P : abP) (x : Int) : Int := abRaw (abSd x) % P 1 3
def abStC (P : abP) (x : Int) (b : Int → Int) : Int := abBehind P (b (abStL P x)) (abRaw (abSd (abSd x)) % 4)
noncomputable def abStm (P : abP) (x : Int) (b : Int → Int) : Int × (Int → Int) :=
  abIte (0 < P 1 3) (abSd (abSd x), abIte (abFree P b (P 1 3) (abStL P x) (abStC P x b)) (abPut b (abStL P x) (abStC P x b)) b) (x, b)
theorem abStm_g {P : abP} {x : Int} {b : Int → Int} (h : gdP P b) : gdP P (abStm P x b).2 := by
  unfold abStm
  by_cases q : 0 < P 1 3
  · rw [abIte_t q]
    show gdP P (abIte _ _ _)
    by_cases z : abFree P b (P 1 3) (abStL P x) (abStC P x b)
    · rw [abIte_t z]; exact h.put z
    · rw [abIte_f z]; exact h
  · rw [abIte_f q]; exact h
noncomputable def abNgM (Z : abZ) (b : Int → Int) (fog : Int) : Int := abMask (fun k => Z.2.1.1 4 k ≤ abHrs (abSeen Z.1 (abCL Z.1 (Z.2.1.1 3 0) (Z.2.1.1 0) b) (Z.2.1.1 0) fog (Z.2.1.1 1 k)) 0 31) (Z.1 1 4).toNat
theorem abNgM_r {Z : abZ} {b : Int → Int} {fog : Int} (hC : gdC Z.1) : 0 ≤ abNgM Z b fog ∧ abNgM Z b fog < 256 := by
  have a4 := hC.2.2.2.2.1
  exact abMask_8 (by omega)
theorem abNgM_p {Z : abZ} {b : Int → Int} {fog : Int} (hC : gdC Z.1) : 0 ≤ abPop (abNgM Z b fog) ∧ abPop (abNgM Z b fog) ≤ Z.1 1 4 := by
  have a4 := hC.2.2.2.2.1
  have := abPop_le (f := fun k => Z.2.1.1 4 k ≤ abHrs (abSeen Z.1 (abCL Z.1 (Z.2.1.1 3 0) (Z.2.1.1 0) b) (Z.2.1.1 0) fog (Z.2.1.1 1 k)) 0 31) (n := (Z.1 1 4).toNat) (by omega)
  have e : abNgM Z b fog = abMask (fun k => Z.2.1.1 4 k ≤ abHrs (abSeen Z.1 (abCL Z.1 (Z.2.1.1 3 0) (Z.2.1.1 0) b) (Z.2.1.1 0) fog (Z.2.1.1 1 k)) 0 31) (Z.1 1 4).toNat := rfl
  rw [← e] at this
  exact ⟨abPop_r.1, by omega⟩
/-- seed and begins; all, the fewest, full -/
abbrev abY9 : Type := (Int × (Int → Int)) × Int × Int × Int
noncomputable def abYv (Z : abZ) (q : Int × (Int → Int)) : Int := abPop (abNgM Z q.2 (abRaw (abSd q.1) % 10))
noncomputable def abYs (Z : abZ) (y : abY9) : abY9 :=
  ((abSd (abStm Z.1 y.1.1 y.1.2).1, (abStm Z.1 y.1.1 y.1.2).2), y.2.1 + abYv Z (abStm Z.1 y.1.1 y.1.2), (if abYv Z (abStm Z.1 y.1.1 y.1.2) < y.2.2.1 then abYv Z (abStm Z.1 y.1.1 y.1.2) else y.2.2.1), y.2.2.2 + (if ¬ abYv Z (abStm Z.1 y.1.1 y.1.2) = Z.1 1 4 then 0 else 1))
noncomputable def abYr (Z : abZ) (x : Int) : Nat → abY9
  | 0 => ((x, Z.2.1.1 2), 0, Z.1 1 4, 0)
  | n + 1 => abYs Z (abYr Z x n)
theorem abYr_s {Z : abZ} {x y : Int} (h : 0 ≤ y) : abYr Z x (y + 1).toNat = abYs Z (abYr Z x y.toNat) := by
  obtain ⟨n, rfl⟩ := Int.eq_ofNat_of_zero_le h
  rw [show ((n : Int) + 1).toNat = n + 1 by omega, Int.toNat_natCast]
  rfl
theorem abYr_g {Z : abZ} {x : Int} (h : gdP Z.1 (Z.2.1.1 2)) : ∀ n : Nat, gdP Z.1 (abYr Z x n).1.2
  | 0 => h
  | n + 1 => abStm_g (abYr_g h n)
theorem abYr_r {Z : abZ} {x : Int} (hC : gdC Z.1) : ∀ n : Nat, (0 ≤ (abYr Z x n).2.1 ∧ (abYr Z x n).2.1 ≤ 8 * n) ∧ (0 ≤ (abYr Z x n).2.2.1 ∧ (abYr Z x n).2.2.1 ≤ 8) ∧ (0 ≤ (abYr Z x n).2.2.2 ∧ (abYr Z x n).2.2.2 ≤ n)
  | 0 => by
    have a4 := hC.2.2.2.2.1
    show ((0 : Int) ≤ 0 ∧ (0 : Int) ≤ 8 * ((0 : Nat) : Int)) ∧ (0 ≤ Z.1 1 4 ∧ Z.1 1 4 ≤ 8) ∧ ((0 : Int) ≤ 0 ∧ (0 : Int) ≤ ((0 : Nat) : Int))
    omega
  | n + 1 => by
    have a4 := hC.2.2.2.2.1
    have ih := abYr_r (x := x) hC n
    have v : 0 ≤ abYv Z (abStm Z.1 (abYr Z x n).1.1 (abYr Z x n).1.2) ∧ abYv Z (abStm Z.1 (abYr Z x n).1.1 (abYr Z x n).1.2) ≤ Z.1 1 4 := abNgM_p hC
    show (0 ≤ (abYr Z x n).2.1 + abYv Z (abStm Z.1 (abYr Z x n).1.1 (abYr Z x n).1.2) ∧ (abYr Z x n).2.1 + abYv Z (abStm Z.1 (abYr Z x n).1.1 (abYr Z x n).1.2) ≤ 8 * ((n + 1 : Nat) : Int)) ∧ (0 ≤ (if abYv Z (abStm Z.1 (abYr Z x n).1.1 (abYr Z x n).1.2) < (abYr Z x n).2.2.1 then abYv Z (abStm Z.1 (abYr Z x n).1.1 (abYr Z x n).1.2) else (abYr Z x n).2.2.1) ∧ (if abYv Z (abStm Z.1 (abYr Z x n).1.1 (abYr Z x n).1.2) < (abYr Z x n).2.2.1 then abYv Z (abStm Z.1 (abYr Z x n).1.1 (abYr Z x n).1.2) else (abYr Z x n).2.2.1) ≤ 8) ∧ (0 ≤ (abYr Z x n).2.2.2 + (if ¬ abYv Z (abStm Z.1 (abYr Z x n).1.1 (abYr Z x n).1.2) = Z.1 1 4 then 0 else 1) ∧ (abYr Z x n).2.2.2 + (if ¬ abYv Z (abStm Z.1 (abYr Z x n).1.1 (abYr Z x n).1.2) = Z.1 1 4 then 0 else 1) ≤ ((n + 1 : Nat) : Int))
    generalize abYv Z (abStm Z.1 (abYr Z x n).1.1 (abYr Z x n).1.2) = w at *
    refine ⟨by omega, ?_, ?_⟩
    · split <;> omega
    · split <;> omega
noncomputable def abYears (Z : abZ) (x n w : Int) : Int := if w = 0 then (abYr Z x n.toNat).2.1 else if w = 1 then (if n = 0 then 0 else (abYr Z x n.toNat).2.2.1) else (abYr Z x n.toNat).2.2.2
set_option maxHeartbeats 1000000 in
set_option maxRecDepth 4000 in
theorem sp_X11_draw {G : slG} (hG : slGood G) {d K : Nat} (hd : 1 ≤ d) (hK : 0 ≤ K) {Φ : slPost} {σ : slM} {x1 : Int} (h1 : 0 < x1 ∧ x1 < 2147483648) (h : Φ (0, abRaw (abSd (σ 11 0 18)) % x1) (slU σ 11 0 18 (abSd (σ 11 0 18)))) :
    slCall G mX11_draw d K [sR 11 0, sI x1] σ Φ := by
  refine vc_X11_draw hG (by omega) hK  ?_
  rw [slU_same]
  have r := abRaw_r (x := abSd (σ 11 0 18))
  exact sp_X11_remainder hG (by omega) (by omega) (x0 := abRaw (abSd (σ 11 0 18))) ⟨r.1, by omega⟩ h1 (slKt.ok h)
set_option maxHeartbeats 1000000 in
set_option maxRecDepth 4000 in
theorem sp_X12_draw {G : slG} (hG : slGood G) {d K : Nat} (hd : 0 ≤ d) (hK : 0 ≤ K) {Φ : slPost} {σ : slM} {x1 : Int} (h1 : 0 < x1 ∧ x1 < 2147483648) (h : Φ (0, abRaw (abSd (σ 12 0 74)) % x1) (slU σ 12 0 74 (abSd (σ 12 0 74)))) :
    slCall G mX12_draw d K [sR 12 0, sI x1] σ Φ := by
  refine vc_X12_draw hG (by omega) hK  ?_
  rw [slU_same]
  have e := abRaw_m (abSd (σ 12 0 74))
  have r := abRaw_r (x := abSd (σ 12 0 74))
  refine ⟨⟨⟨by omega, by omega⟩, by omega⟩, ?_⟩
  show Φ (0, sRem (sAnd (sShr (abSd (σ 12 0 74)) 16) 32767) x1) (slU σ 12 0 74 (abSd (σ 12 0 74)))
  rw [e, sRem_eq r.1 (by omega) h1.1 h1.2]
  exact h
theorem cS.sd {c s : Nat} {Z : abZ} {σ τ : slM} {v : Int} (m : cS c s Z σ τ) : cS c s Z σ (slU τ 11 0 18 v) := by
  have f : cQ τ (slU τ 11 0 18 v) := cQ.id.up11 (Or.inr rfl)
  have q : ∀ r, r = 60 ∨ r = 56 ∨ r = 35 ∨ r = 36 → slU τ 11 0 18 v r 0 = τ r 0 := fun r hr => slU_else (by omega)
  exact ⟨m.1.tr f, m.2.1.q1 f q (slU_ne (by decide)) (fun k hk => by rw [slU_else (by decide)]; exact m.dz k hk), m.2.2.c q⟩
theorem isG.sd {Z : abZ} {b oil : Int → Int} {σ : slM} {v : Int} (h : isG Z b oil σ) : isG Z b oil (slU σ 11 0 18 v) := h.c (slU_else (by decide)) (slU_else (by decide)) (slU_else (by decide))
set_option maxHeartbeats 1000000 in
set_option maxRecDepth 4000 in
theorem sp_X11_storm {G : slG} (hG : slGood G) {d K : Nat} (hd : 45 ≤ d) (hK : 0 ≤ K) {Φ : slPost} {σ : slM}  {c s N : Nat} {Z : abZ} {σ0 : slM} {b : Int → Int} (hZ : gdZ N Z) (m : cS c s Z σ0 σ) (g : isG Z b (Z.2.1.1 0) σ) (hg : gdP Z.1 b) (h : ∀ τ, cS c s Z σ0 τ → isG Z (abStm Z.1 (σ 11 0 18) b).2 (Z.2.1.1 0) τ → τ 11 0 18 = (abStm Z.1 (σ 11 0 18) b).1 → Φ (0, 0) τ) :
    slCall G mX11_storm d K [sR 11 0] σ Φ := by
  refine vc_X11_storm hG (by omega) hK  ?_
  have a3 := hZ.c.2.2.2.1
  have e4 : ∀ v, (slU σ 11 0 18 v 11 0 4).toNat = c := fun v => by rw [slU_ne (by decide)]; exact m.2.1.e4
  have e51 : ∀ v, slU σ 11 0 18 v 51 3 = σ 51 3 := fun v => slU_else (by decide)
  rw [m.2.1.e4, m.2.1.cc.1]
  refine ⟨⟨by omega, by omega⟩, fun q => ?_, fun q => ?_⟩
  · unfold abStm at h
    rw [abIte_t q] at h
    have l : 0 ≤ abStL Z.1 (σ 11 0 18) ∧ abStL Z.1 (σ 11 0 18) < Z.1 1 3 := ab_mod q
    have r4 := ab_mod (a := abRaw (abSd (abSd (σ 11 0 18)))) (b := 4) (by decide)
    have gl := hg _ l.1 l.2
    have br := abBehind_r (s := abRaw (abSd (abSd (σ 11 0 18))) % 4) hZ.c gl.1
    have m2 := m.sd (v := abSd (abSd (σ 11 0 18)))
    refine sp_X11_draw hG (by omega) (by omega) ⟨q, by omega⟩ (slKt.ok ?_)
    refine ⟨⟨by have := l.1; exact this, by have := l.2; have : abStL Z.1 (σ 11 0 18) < 5 := by omega
                                            exact this⟩, ?_⟩
    refine sp_X11_draw hG (by omega) (by omega) ⟨by decide, by decide⟩ (slKt.ok ?_)
    rw [slU_same, slU_tw, e4, e51]
    have eb : σ 51 3 (abRaw (abSd (σ 11 0 18)) % Z.1 1 3).toNat = b (abStL Z.1 (σ 11 0 18)) := g.1 _ l.1 l.2
    rw [eb]
    refine sp_X1_cellBehind hG (by omega) (by omega) m2.2.1.cc hZ.c gl.1 ⟨by omega, by omega⟩ (slKt.ok ?_)
    refine sp_X11_canBegin hG (by omega) (by omega) (f := b) (x2 := abStL Z.1 (σ 11 0 18)) (x3 := abStC Z.1 (σ 11 0 18) b) m2.2.1 hZ (fun k x y => ⟨by rw [e51]; exact g.1 k x y, (hg k x y).1⟩) ⟨by omega, by omega⟩ ⟨by show -2147483648 ≤ abBehind _ _ _; omega, by show abBehind _ _ _ < 2147483648; omega⟩ (slKt.ok ⟨in01, fun z => ?_, fun z => ?_⟩)
    · rw [abIte_f (abIf_z z)] at h
      exact h _ m2 g.sd (slU_same _ _ _ _ _)
    · rw [abIte_t (abIf_nz z)] at h
      refine ⟨⟨l.1, by have : abStL Z.1 (σ 11 0 18) < 5 := by omega
                       exact this⟩, ?_⟩
      have f3 : slFr [(51, 3)] (slU σ 11 0 18 (abSd (abSd (σ 11 0 18)))) (slU (slU σ 11 0 18 (abSd (abSd (σ 11 0 18)))) 51 3 (abStL Z.1 (σ 11 0 18)).toNat (abStC Z.1 (σ 11 0 18) b)) := slFr.id.up (by simp)
      have g2 := g.sd (v := abSd (abSd (σ 11 0 18)))
      refine h _ (m2.fr f3 (by decide) (fun k hk => by rw [slU_else (by decide)]; exact m2.dz k hk)) ⟨fun k x y => ?_, fun k x y => ?_, fun k x y => ?_⟩ ?_
      · unfold abPut
        show slU (slU σ 11 0 18 (abSd (abSd (σ 11 0 18)))) 51 3 (abStL Z.1 (σ 11 0 18)).toNat (abStC Z.1 (σ 11 0 18) b) 51 3 k.toNat = if k = abStL Z.1 (σ 11 0 18) then abStC Z.1 (σ 11 0 18) b else b k
        by_cases w : k = abStL Z.1 (σ 11 0 18)
        · rw [if_pos w, w, slU_same]
        · rw [if_neg w, slU_ne (by omega)]; exact g2.1 k x y
      · rw [slU_else (by decide)]; exact g2.2.1 k x y
      · rw [slU_else (by decide)]; exact g2.2.2 k x y
      · rw [slU_else (by decide)]; exact slU_same _ _ _ _ _
  · unfold abStm at h
    rw [abIte_f q] at h
    exact h σ m g rfl
set_option maxHeartbeats 1000000 in
set_option maxRecDepth 4000 in
theorem sp_X11_nightInFog {G : slG} (hG : slGood G) {d K : Nat} (hd : 45 ≤ d) (hK : 0 ≤ K) {Φ : slPost} {σ : slM} {x1 : Int} {c s N : Nat} {Z : abZ} {σ0 : slM} {b : Int → Int} (hZ : gdZ N Z) (m : cS c s Z σ0 σ) (g : isG Z b (Z.2.1.1 0) σ) (hg : gdP Z.1 b) (h1 : 0 ≤ x1 ∧ x1 ≤ 9) (h : ∀ τ, cS c s Z σ0 τ → isG Z b (Z.2.1.1 0) τ → τ 11 0 18 = σ 11 0 18 → Φ (0, abNgM Z b x1) τ) :
    slCall G mX11_nightInFog d K [sR 11 0, sI x1] σ Φ := by
  refine vc_X11_nightInFog hG (by omega) hK  ?_
  rw [m.2.1.e4]
  refine sp_X3_sail hG (by omega) (by omega) (ord := abOrd Z.1 (Z.2.1.1 3 0) (Z.2.1.1 0)) (b := b) m.2.1.cc hZ.c ⟨by decide, by decide⟩ g.1 hg (fun n hn => m.2.2.2.1 n (by omega)) (fun n l hl => abOrd_mem hZ.c hl) (fun τ1 f1 c1 _ => slKt.ok ?_)
  have m1 : cS c s Z σ0 τ1 := m.fr f1 (by decide) (fun k hk => by rw [f1 36 1 (by simp)]; exact m.dz k hk)
  have g1 := g.c (f1 51 3 (by simp)) (f1 52 3 (by simp)) (f1 54 3 (by simp))
  have c1' : ∀ h l : Int, 24 * 0 + 12 ≤ h → h < 24 * 0 + 24 → 0 ≤ l → l < Z.1 1 3 → τ1 35 1 (l * 240 + h).toNat = abCL Z.1 (Z.2.1.1 3 0) (Z.2.1.1 0) b h l ∧ gc Z.1 (abCL Z.1 (Z.2.1.1 3 0) (Z.2.1.1 0) b h l) := fun h l a1 a2 a3 a4 => by
    have := c1 h.toNat l (by omega) a3 a4
    rw [show ((h.toNat : Nat) : Int) = h by omega] at this
    exact ⟨this, abCL_gc hg a3 a4⟩
  rw [m1.2.1.e4]
  refine sp_X3_lookInNight hG (by omega) (by omega) (C := abCL Z.1 (Z.2.1.1 3 0) (Z.2.1.1 0) b) (oil := Z.2.1.1 0) (mo := Z.2.1.1 1) m1.2.1.cc hZ.c ⟨by decide, by decide⟩ h1 c1' m1.2.2.1 hZ.v.2.2.1 (fun l a b => ⟨g1.2.1 l a b, hZ.v.2.1 l a b⟩) (fun τ2 f2 c2 z2 => slKt.ok ?_)
  have m2 : cS c s Z σ0 τ2 := m1.fr f2 (by decide) (fun k hk => by rw [z2 k (by omega)]; exact m1.dz k hk)
  have g2 := g1.c (f2 51 3 (by simp)) (f2 52 3 (by simp)) (f2 54 3 (by simp))
  rw [m2.2.1.e4]
  refine sp_X3_contentBy hG (by omega) (by omega) (V := fun k x => abSeen Z.1 (abCL Z.1 (Z.2.1.1 3 0) (Z.2.1.1 0) b) (Z.2.1.1 0) x1 (Z.2.1.1 1 k) x) m2.2.1.cc hZ.c ⟨by decide, by decide⟩ c2 (fun k x a1 a2 a3 a4 => abSeen_day (by omega)) (fun k a1 a2 => ?_) (slKt.ok ?_)
  · rw [g2.2.2 k a1 a2]
    have := hZ.v.2.2.2.1 k a1 a2
    exact ⟨by omega, by omega⟩
  · have e : abMask (fun k => τ2 54 3 k.toNat ≤ abHrs (abSeen Z.1 (abCL Z.1 (Z.2.1.1 3 0) (Z.2.1.1 0) b) (Z.2.1.1 0) x1 (Z.2.1.1 1 k)) 0 31) (Z.1 1 4).toNat = abNgM Z b x1 := abMask_c (fun k a1 a2 => by rw [g2.2.2 k a1 (by omega)])
    have k := h τ2 m2 g2 (by rw [f2 11 0 (by simp), f1 11 0 (by simp)])
    rw [← e] at k
    exact k
set_option maxHeartbeats 4000000 in
set_option maxRecDepth 4000 in
theorem sp_X11_years {G : slG} (hG : slGood G) {d K : Nat} (hd : 50 ≤ d) (hK : 2 ≤ K) {Φ : slPost} {σ : slM} {x1 : Int} {x2 : Int} {x3 : Int} {c s N : Nat} {Z : abZ} (hX : isX c s Z σ) (hZ : gdZ N Z) (i2 : InR x2) (i3 : InR x3) (h : cA c s Z σ Φ (abOk2 (0 ≤ x3 ∧ x3 < 3) (0 ≤ x2 ∧ x2 ≤ 40) (abYears Z x1 x2 x3))) :
    slCall G mX11_years d K [sR 11 0, sI x1, sI x2, sI x3] σ Φ := by
  refine vc_X11_years hG (by omega) hK (fun μ y4 y5 y6 y7 σ' => (0 ≤ x3 ∧ x3 < 3) ∧ (0 ≤ x2 ∧ x2 ≤ 40) ∧ cS c s Z σ σ' ∧ isG Z (abYr Z x1 y7.toNat).1.2 (Z.2.1.1 0) σ' ∧ σ' 11 0 18 = (abYr Z x1 y7.toNat).1.1 ∧ μ = ((x2 - y7).toNat, 0, 0) ∧ (0 ≤ y7 ∧ y7 ≤ x2) ∧ y4 = (abYr Z x1 y7.toNat).2.1 ∧ y5 = (if x2 = 0 then 0 else (abYr Z x1 y7.toNat).2.2.1) ∧ y6 = (abYr Z x1 y7.toNat).2.2.2) ?_ ?_
  · refine sp_X11_needWhat hG (by omega) (by omega) i3 ⟨by decide, by decide⟩ (fun q3 => slKt.ok ?_) (fun q => slKt.ex (Or.inl rfl) (h.no1 q cQ.id hX))
    refine ⟨i2, fun q => h.no2 q3 (fun z => by have := z.1; omega) cQ.id hX, fun q => ⟨i2, fun q2 => ?_, fun q2 => h.no2 q3 (fun z => by have := z.2; omega) cQ.id hX⟩⟩
    refine sp_X11_settle hG (by omega) (by omega) hX hZ (fun τ f x t => slKt.ok ?_)
    rw [x.e5]
    refine cS.take hG (by omega) hZ ⟨f, x, t⟩ (fun τ1 m1 g1 _ => slKt.ok ?_)
    have m2 := m1.sd (v := x1)
    have g2 := g1.sd (v := x1)
    rw [m2.2.1.e4, m2.2.1.cc.1]
    refine ⟨i2, fun z => ⟨_, q3, ⟨by omega, by omega⟩, m2, g2, slU_same _ _ _ _ _, rfl, ⟨by omega, by omega⟩, rfl, ?_, rfl⟩, fun z => ⟨_, q3, ⟨by omega, by omega⟩, m2, g2, slU_same _ _ _ _ _, rfl, ⟨by omega, by omega⟩, rfl, ?_, rfl⟩⟩
    · rw [if_neg z]; rfl
    · rw [if_pos z]
  · have a4 := hZ.c.2.2.2.2.1
    rintro μ y4 y5 y6 y7 σ' ⟨q3, q2, m, g, e18, rfl, hy, rfl, rfl, rfl⟩
    refine ⟨⟨⟨by omega, by omega⟩, i2⟩, fun q => ?_, fun q => ?_⟩
    · have k := h.yes2 q3 q2 m.1 m.2.1
      unfold abYears at k
      rw [show x2.toNat = y7.toNat by omega] at k
      refine ⟨i3, fun z => ⟨i3, fun w => ?_, fun w => ?_⟩, fun z => ?_⟩
      · rwa [if_neg z, if_neg w] at k
      · rwa [if_neg z, if_pos w] at k
      · rwa [if_pos z] at k
    · have hg := abYr_g (x := x1) hZ.v.1 y7.toNat
      have hr := abYr_r (x := x1) hZ.c y7.toNat
      have lt : slLt ((x2 - (y7 + 1)).toNat, 0, 0) ((x2 - y7).toNat, 0, 0) := Or.inl (by show (x2 - (y7 + 1)).toNat < (x2 - y7).toNat; omega)
      refine sp_X11_storm hG (by omega) (by omega) hZ m g hg (fun τ1 m1 g1 e1 => slKt.ok ?_)
      rw [e18] at g1 e1
      refine sp_X11_draw hG (by omega) (by omega) ⟨by decide, by decide⟩ (slKt.ok ?_)
      rw [e1]
      have r10 := ab_mod (a := abRaw (abSd (abStm Z.1 (abYr Z x1 y7.toNat).1.1 (abYr Z x1 y7.toNat).1.2).1)) (b := 10) (by decide)
      refine sp_X11_nightInFog hG (by omega) (by omega) hZ m1.sd g1.sd (abStm_g hg) ⟨r10.1, by omega⟩ (fun τ2 m2 g2 e2 => slKt.ok ?_)
      rw [slU_same] at e2
      have pr := abNgM_p (b := (abStm Z.1 (abYr Z x1 y7.toNat).1.1 (abYr Z x1 y7.toNat).1.2).2) (fog := abRaw (abSd (abStm Z.1 (abYr Z x1 y7.toNat).1.1 (abYr Z x1 y7.toNat).1.2).1) % 10) hZ.c
      refine sp_J6_bitCount_0f7a4 hG (by omega) (by omega) (abNgM_r hZ.c) (slKt.ok ?_)
      rw [m2.2.1.e4, m2.2.1.cc.1, if_neg (show ¬ x2 = 0 by omega)]
      refine ⟨⟨⟨by omega, by omega⟩, by omega, by omega⟩, ⟨⟨by omega, by omega⟩, by omega, by omega⟩, _, lt, q3, q2, m2, ?_, ?_, rfl, ⟨by omega, by omega⟩, ?_, ?_, ?_⟩
      · rw [abYr_s hy.1]; exact g2
      · rw [abYr_s hy.1]; exact e2
      · rw [abYr_s hy.1]; rfl
      · rw [abYr_s hy.1, if_neg (show ¬ x2 = 0 by omega)]; rfl
      · rw [abYr_s hy.1]; rfl
/-! the model: begins change over and over, and come back -/
def abBs (T : Int → Int → Int) (b : Int → Int) : Int → Int → Int := fun k w => if k = 2 then b w else T k w
theorem abBs_2 {T : Int → Int → Int} {b : Int → Int} {w : Int} : abBs T b 2 w = b w := if_pos rfl
theorem abBs_o {T : Int → Int → Int} {b : Int → Int} {k w : Int} (h : k ≠ 2) : abBs T b k w = T k w := if_neg h
def isYb (Z : abZ) (b : Int → Int) (σ : slM) : Prop := isY (Z.1, (abBs Z.2.1.1 b, Z.2.1.2), Z.2.2) σ
theorem isYb.mk {Z : abZ} {σ : slM} (h : isY Z σ) : isYb Z (Z.2.1.1 2) σ := by
  have e : abBs Z.2.1.1 (Z.2.1.1 2) = Z.2.1.1 := by
    funext k w
    by_cases z : k = 2
    · rw [z]; exact abBs_2
    · exact abBs_o z
  unfold isYb
  rw [e]
  exact h
theorem isYb.q {Z : abZ} {b : Int → Int} {σ τ : slM} (h : isYb Z b σ) (f : mQ σ τ) : isYb Z b τ := isY.q h f
theorem isYb.put {Z : abZ} {b : Int → Int} {σ : slM} {l v : Int} (h : isYb Z b σ) (hC : gdC Z.1) (hl : 0 ≤ l ∧ l < Z.1 1 3) : isYb Z (abPut b l v) (slU σ 88 0 (13 + l).toNat v) := by
  have hw : 0 ≤ l ∧ l < abMany Z.1 2 := hl
  have h' : isY (Z.1, (abBs Z.2.1.1 b, Z.2.1.2), Z.2.2) σ := h
  have a : isY (Z.1, (abUnd (abBs Z.2.1.1 b) 2 l v, Z.2.1.2), Z.2.2) (slU σ 88 0 (abPl 2 l).toNat v) := by
    refine h'.st (mFr.id.up (by decide) (by decide)) (h'.2.1.und hC ⟨by decide, by decide⟩ hw (fun i => slU_at) ?_ ?_ ?_ ?_)
    · rw [slU_else (by decide)]; exact h'.2.1.2.2.2.2.2.1
    · rw [slU_else (by decide)]; exact h'.2.1.2.2.2.2.2.2.1
    · rw [slU_else (by decide)]
    · rw [slU_else (by decide)]
  have e : abUnd (abBs Z.2.1.1 b) 2 l v = abBs Z.2.1.1 (abPut b l v) := by
    funext k w
    by_cases z : k = 2
    · rw [z, abBs_2]
      unfold abPut
      by_cases y : w = l
      · rw [if_pos y, y]; exact if_pos ⟨rfl, rfl⟩
      · rw [if_neg y, abUnd_ne (fun t => y t.2), abBs_2]
    · rw [abBs_o z, abUnd_ne (fun t => z t.1), abBs_o z]
  rw [e] at a
  exact a
theorem isYb.p {Z : abZ} {b : Int → Int} {σ : slM} (h : isYb Z b σ) : isM Z.1 σ ∧ (∀ l : Int, 0 ≤ l → l < Z.1 1 3 → σ 88 0 (13 + l).toNat = b l) ∧ (∀ l : Int, 0 ≤ l → l < Z.1 1 3 → σ 88 0 (0 + l).toNat = Z.2.1.1 0 l) ∧ σ 88 0 18 = Z.2.1.1 3 0 ∧ mMo Z.1 (Z.2.1.1 1) σ ∧ ∀ k : Int, 0 ≤ k → k < Z.1 1 4 → σ 88 0 (19 + k).toNat = Z.2.1.1 4 k := by
  obtain ⟨h1, ⟨n1, n2, n3, n4, n5, -⟩, -⟩ := h
  exact ⟨h1, fun l a c => (n3 l a c).trans (abBs_2 (T := Z.2.1.1) (b := b)), fun l a c => (n1 l a c).trans (abBs_o (T := Z.2.1.1) (b := b) (k := 0) (by decide)), n4.trans (abBs_o (T := Z.2.1.1) (b := b) (k := 3) (by decide)), fun l a c => (n2 l a c).trans (abBs_o (T := Z.2.1.1) (b := b) (k := 1) (by decide)), fun l a c => (n5 l a c).trans (abBs_o (T := Z.2.1.1) (b := b) (k := 4) (by decide))⟩
theorem isYb.back {Z : abZ} {b : Int → Int} {σ : slM} (h : isYb Z b σ) (e : ∀ l : Int, 0 ≤ l → l < Z.1 1 3 → b l = Z.2.1.1 2 l) : isY Z σ := by
  have p := h.p
  obtain ⟨h1, ⟨n1, n2, n3, n4, n5, n6⟩, h3⟩ := h
  exact ⟨h1, ⟨p.2.2.1, p.2.2.2.2.1, fun l a c => (p.2.1 l a c).trans (e l a c), p.2.2.2.1, p.2.2.2.2.2, n6⟩, h3⟩
set_option maxHeartbeats 1000000 in
theorem yr_tail {G : slG} (hG : slGood G) {d K d' : Nat} (hd : 12 ≤ d) (hd' : 12 ≤ d') {Φ : slPost} {R : Int → slM → Prop} {τ0 : slM} {N : Nat} {Z : abZ} {b : Int → Int} {x : Int} (hZ : gdZ N Z) (Y : isYb Z b τ0) (hg : gdP Z.1 b) (ex : x = Z.2.1.1 3 0)
    (h : ∀ τ, mFr [90, 91, 92, 93, 94, 95] [65, 74] τ0 τ → isYb Z b τ → τ 12 0 74 = abSd (τ0 12 0 74) → R (abPop (abNgM Z b (abRaw (abSd (τ0 12 0 74)) % 10))) τ) :
    slCall G mX12_sails d K [sR 12 0, sI 24, sI x] τ0 (slKt (fun _ τ45 => slCall G mX12_draw d' 0 [sR 12 0, sI 10] τ45 (slKt (fun v47 τ48 => slCall G mX12_contentBy d' 0 [sR 12 0, sI 0, sI v47, sI 31] τ48 (slKt (fun v50 τ51 => slCall G mX12_bits d' 0 [sI v50] τ51 (slKt (fun v53 τ54 => R v53 τ54) Φ)) Φ)) Φ)) Φ) := by
  have p := Y.p
  rw [ex]
  refine ms_sails hG (by omega) p.1 hZ.c ⟨by decide, by decide⟩ hZ.v.2.2.2.2 p.2.1 hg p.2.2.1 hZ.v.2.1 (fun τ1 f1 c1 _ => slKt.ok ?_)
  refine sp_X12_draw hG (by omega) (by omega) ⟨by decide, by decide⟩ (slKt.ok ?_)
  have e74 : τ1 12 0 74 = τ0 12 0 74 := f1.2 74 (by decide)
  rw [e74]
  have f2 : mFr [90, 91, 92, 93, 94, 95] [65, 74] τ0 (slU τ1 12 0 74 (abSd (τ0 12 0 74))) := mFr.up12 (f1.mono (by decide) (by decide)) (by decide)
  have Y2 : isYb Z b (slU τ1 12 0 74 (abSd (τ0 12 0 74))) := Y.q (f2.mono (by decide) (by decide))
  have p2 := Y2.p
  have r10 := ab_mod (a := abRaw (abSd (τ0 12 0 74))) (b := 10) (by decide)
  refine sp_X12_contentBy hG (by omega) (by omega) (H := 24) (C := abCL Z.1 (Z.2.1.1 3 0) (Z.2.1.1 0) b) (oil := Z.2.1.1 0) (mo := Z.2.1.1 1) p2.1 hZ.c (fun h l a1 a2 a3 a4 => ?_) (gdK_cl hg hZ.v.2.1) (by decide) p2.2.2.2.2.1 hZ.v.2.2.1 ⟨by decide, by decide⟩ ⟨r10.1, by omega⟩ (fun k a1 a2 => ?_) (slKt.ok ?_)
  · rw [slU_else (by decide), slU_else (by decide)]
    exact c1 h l a1 a2 a3 a4
  · rw [p2.2.2.2.2.2 k a1 a2]
    have := hZ.v.2.2.2.1 k a1 a2
    exact ⟨by omega, by omega⟩
  · have e : abMask (fun k => slU τ1 12 0 74 (abSd (τ0 12 0 74)) 88 0 (19 + k).toNat ≤ abHrs (abSeen Z.1 (abCL Z.1 (Z.2.1.1 3 0) (Z.2.1.1 0) b) (Z.2.1.1 0) (abRaw (abSd (τ0 12 0 74)) % 10) (Z.2.1.1 1 k)) 0 31) (Z.1 1 4).toNat = abNgM Z b (abRaw (abSd (τ0 12 0 74)) % 10) := abMask_c (fun k a1 a2 => by rw [p2.2.2.2.2.2 k a1 (by omega)])
    rw [e]
    exact sp_X12_bits hG (by omega) (by omega) (abNgM_r hZ.c) (slKt.ok (h _ f2 Y2 (slU_same _ _ _ _ _)))
def yrI (Z : abZ) (σ : slM) (x1 x2 x3 : Int) (μ : slMu) (y4 y5 y6 y7 : Int) (σ' : slM) : Prop :=
  (0 ≤ x3 ∧ x3 < 3) ∧ (0 ≤ x2 ∧ x2 ≤ 40) ∧ mdF σ σ' ∧ isYb Z (abYr Z x1 y7.toNat).1.2 σ' ∧ σ' 12 0 0 = 0 ∧ (∀ l : Int, 0 ≤ l → l < Z.1 1 3 → σ' 103 0 l.toNat = Z.2.1.1 2 l) ∧ σ' 12 0 74 = (abYr Z x1 y7.toNat).1.1 ∧ μ = (1, (x2 - y7).toNat, 0) ∧ (0 ≤ y7 ∧ y7 ≤ x2) ∧ y4 = (abYr Z x1 y7.toNat).2.1 ∧ y5 = (if y7 = 0 then 0 else (abYr Z x1 y7.toNat).2.2.1) ∧ y6 = (abYr Z x1 y7.toNat).2.2.2
theorem yrI.go {N : Nat} {Z : abZ} {σ σ' : slM} {x1 x2 x3 : Int} {μ : slMu} {y4 y5 y6 y7 : Int} (hZ : gdZ N Z) (i : yrI Z σ x1 x2 x3 μ y4 y5 y6 y7 σ') (q : ¬ x2 ≤ y7) {τ : slM} {v : Int} (hv : v = abYv Z (abStm Z.1 (abYr Z x1 y7.toNat).1.1 (abYr Z x1 y7.toNat).1.2))
    (f : mdF σ τ) (Y : isYb Z (abStm Z.1 (abYr Z x1 y7.toNat).1.1 (abYr Z x1 y7.toNat).1.2).2 τ) (e0 : τ 12 0 0 = 0) (c3 : ∀ l : Int, 0 ≤ l → l < Z.1 1 3 → τ 103 0 l.toNat = Z.2.1.1 2 l) (e74 : τ 12 0 74 = abSd (abStm Z.1 (abYr Z x1 y7.toNat).1.1 (abYr Z x1 y7.toNat).1.2).1) :
    (InR y7) ∧ (y7 = 0 → ((InR v) ∧ (InR (τ 12 0 5))) ∧ (∃ μ60, slLt μ60 μ ∧ yrI Z σ x1 x2 x3 μ60 (y4 + v) v (y6 + (if ¬ v = τ 12 0 5 then (0 : Int) else 1)) (y7 + 1) τ)) ∧ (¬ (y7 = 0) → ((InR v) ∧ (InR y5)) ∧ ((InR v) ∧ (InR (τ 12 0 5))) ∧ (∃ μ71, slLt μ71 μ ∧ yrI Z σ x1 x2 x3 μ71 (y4 + v) (if y5 ≤ v then (y5 : Int) else v) (y6 + (if ¬ v = τ 12 0 5 then (0 : Int) else 1)) (y7 + 1) τ)) := by
  have a4 := hZ.c.2.2.2.2.1
  obtain ⟨q3, q2, -, -, -, -, -, rfl, hy, e4, e5, e6⟩ := i
  have hr := abYr_r (x := x1) hZ.c y7.toNat
  have pv : 0 ≤ v ∧ v ≤ Z.1 1 4 := by rw [hv]; exact abNgM_p hZ.c
  rw [Y.p.1.1.2.2.2.2.1]
  have lt : slLt (1, (x2 - (y7 + 1)).toNat, 0) (1, (x2 - y7).toNat, 0) := Or.inr ⟨rfl, Or.inl (by show (x2 - (y7 + 1)).toNat < (x2 - y7).toNat; omega)⟩
  have n1 : ¬ y7 + 1 = 0 := by omega
  have es := abYr_s (Z := Z) (x := x1) hy.1
  have g1 : isYb Z (abYr Z x1 (y7 + 1).toNat).1.2 τ := by rw [es]; exact Y
  have g2 : τ 12 0 74 = (abYr Z x1 (y7 + 1).toNat).1.1 := by rw [es]; exact e74
  have g3 : y4 + v = (abYr Z x1 (y7 + 1).toNat).2.1 := by rw [es, e4, hv]; rfl
  have g4 : y6 + (if ¬ v = Z.1 1 4 then (0 : Int) else 1) = (abYr Z x1 (y7 + 1).toNat).2.2.2 := by rw [es, e6, hv]; rfl
  have g5 : (abYr Z x1 (y7 + 1).toNat).2.2.1 = if v < (abYr Z x1 y7.toNat).2.2.1 then v else (abYr Z x1 y7.toNat).2.2.1 := by rw [es, hv]; rfl
  refine ⟨⟨by omega, by omega⟩, fun z => ⟨⟨⟨by omega, by omega⟩, by omega, by omega⟩, _, lt, q3, q2, f, g1, e0, c3, g2, rfl, ⟨by omega, by omega⟩, g3, ?_, g4⟩, fun z => ⟨⟨⟨by omega, by omega⟩, ?_⟩, ⟨⟨by omega, by omega⟩, by omega, by omega⟩, _, lt, q3, q2, f, g1, e0, c3, g2, rfl, ⟨by omega, by omega⟩, g3, ?_, g4⟩⟩
  · rw [if_neg n1, g5, z]
    have : (abYr Z x1 (0 : Int).toNat).2.2.1 = Z.1 1 4 := rfl
    rw [this]
    split <;> omega
  · rw [e5, if_neg z]
    exact ⟨by omega, by omega⟩
  · rw [e5, if_neg z, if_neg n1, g5]
    split <;> split <;> omega
set_option maxHeartbeats 8000000 in
set_option maxRecDepth 4000 in
theorem sp_X12_years {G : slG} (hG : slGood G) {d K : Nat} (hd : 50 ≤ d) (hK : 0 ≤ K) {Φ : slPost} {σ : slM} {x1 : Int} {x2 : Int} {x3 : Int} {N : Nat} {Z : abZ} (hY : isY Z σ) (hZ : gdZ N Z) (i2 : InR x2) (i3 : InR x3) (h : ∀ τ, mdF σ τ → isY Z τ → τ 12 0 0 = (abOk2 (0 ≤ x3 ∧ x3 < 3) (0 ≤ x2 ∧ x2 ≤ 40) (abYears Z x1 x2 x3)).1 → Φ (0, (abOk2 (0 ≤ x3 ∧ x3 < 3) (0 ≤ x2 ∧ x2 ≤ 40) (abYears Z x1 x2 x3)).2) τ) :
    slCall G mX12_years d K [sR 12 0, sI x1, sI x2, sI x3] σ Φ := by
  refine vc_X12_years hG (by omega) hK (fun μ y4 σ' => (0 ≤ x3 ∧ x3 < 3) ∧ (0 ≤ x2 ∧ x2 ≤ 40) ∧ mdF σ σ' ∧ isY Z σ' ∧ σ' 12 0 0 = 0 ∧ μ = (2, (Z.1 1 3 - y4).toNat, 0) ∧ (0 ≤ y4 ∧ y4 ≤ Z.1 1 3) ∧ ∀ l : Int, 0 ≤ l → l < y4 → σ' 103 0 l.toNat = Z.2.1.1 2 l) (fun μ y4 y5 y6 y7 σ' => yrI Z σ x1 x2 x3 μ y4 y5 y6 y7 σ') (fun μ y4 y5 y6 y7 σ' => (0 ≤ x3 ∧ x3 < 3) ∧ (0 ≤ x2 ∧ x2 ≤ 40) ∧ mdF σ σ' ∧ (∃ b, isYb Z b σ' ∧ ∀ l : Int, 0 ≤ l → l < y7 → b l = Z.2.1.1 2 l) ∧ σ' 12 0 0 = 0 ∧ (∀ l : Int, 0 ≤ l → l < Z.1 1 3 → σ' 103 0 l.toNat = Z.2.1.1 2 l) ∧ μ = (0, (Z.1 1 3 - y7).toNat, 0) ∧ (0 ≤ y7 ∧ y7 ≤ Z.1 1 3) ∧ y4 = (abYr Z x1 x2.toNat).2.1 ∧ y5 = (if x2 = 0 then 0 else (abYr Z x1 x2.toNat).2.2.1) ∧ y6 = (abYr Z x1 x2.toNat).2.2.2) ?_ ?_ ?_ ?_
  · have a3 := hZ.c.2.2.2.1
    have y0 := hY.z
    have f0 : mdF σ (slU σ 12 0 0 0) := mdF.id.up (Or.inl rfl)
    have no1 : ¬ (0 ≤ x3 ∧ x3 < 3) → Φ (0, 0) (slU (slU σ 12 0 0 0) 12 0 0 1) := fun p => by
      have := h (slU (slU σ 12 0 0 0) 12 0 0 1) (f0.up (Or.inl rfl)) (y0.q mQ.id.t0)
      unfold abOk2 at this
      rw [abIte_f p] at this
      exact this (slU_same _ _ _ _ _)
    have no2 : (0 ≤ x3 ∧ x3 < 3) → ¬ (0 ≤ x2 ∧ x2 ≤ 40) → Φ (0, 0) (slU (slU σ 12 0 0 0) 12 0 0 2) := fun p p2 => by
      have := h (slU (slU σ 12 0 0 0) 12 0 0 2) (f0.up (Or.inl rfl)) (y0.q mQ.id.t0)
      unfold abOk2 at this
      rw [abIte_t p, abIte_f p2] at this
      exact this (slU_same _ _ _ _ _)
    refine sp_X12_isWhat hG (by omega) (by omega) i3 ⟨by decide, by decide⟩ (slU_same _ _ _ _ _) (fun q3 => slKt.ok ⟨in1, fun z => absurd z (by decide), fun _ => ?_⟩) (fun q => slKt.ok ⟨in0, fun _ => no1 (fun z => q ⟨z.1, by omega⟩), fun z => absurd rfl z⟩)
    have q3 : 0 ≤ x3 ∧ x3 < 3 := ⟨q3.1, by omega⟩
    refine sp_X12_within hG (by omega) (by omega) i2 ⟨by decide, by decide⟩ ⟨by decide, by decide⟩ (slKt.ok ?_)
    refine sp_X12_right hG (by omega) (by omega) (slU_same _ _ _ _ _) in01 ⟨by decide, by decide⟩ (by decide) (fun z => slKt.ok ⟨in1, fun _ => ?_, fun z => absurd z (by decide)⟩) (fun z => slKt.ok ⟨in0, fun z => absurd rfl z, fun _ => no2 q3 (abIf_z z)⟩)
    exact ⟨_, q3, abIf_nz z, f0, y0, slU_same _ _ _ _ _, rfl, ⟨by omega, by omega⟩, fun l a b => by omega⟩
  · have a3 := hZ.c.2.2.2.1
    rintro μ y4 σ' ⟨q3, q2, f, Y, e0, rfl, hy, c3⟩
    rw [Y.1.1.2.2.2.1]
    refine ⟨⟨⟨by omega, by omega⟩, by omega, by omega⟩, fun q => ⟨(1, (x2 - 0).toNat, 0), Or.inl (by show 1 < 2; decide), q3, q2, f.up (Or.inl rfl), (isYb.mk Y).q (mFr.up12 mQ.id (by decide)), ?_, ?_, slU_same _ _ _ _ _, rfl, ⟨by omega, by omega⟩, rfl, rfl, rfl⟩, fun q => ⟨⟨by omega, by omega⟩, ⟨by omega, by omega⟩, (2, (Z.1 1 3 - (y4 + 1)).toNat, 0), Or.inr ⟨rfl, Or.inl (by show (Z.1 1 3 - (y4 + 1)).toNat < (Z.1 1 3 - y4).toNat; omega)⟩, q3, q2, f.up (Or.inr (by decide)), Y.q (mFr.up mQ.id (by decide) (by decide)), ?_, rfl, ⟨by omega, by omega⟩, fun l a b => ?_⟩⟩
    · rw [slU_ne (by decide)]; exact e0
    · intro l a b
      rw [slU_else (by decide)]; exact c3 l a (by omega)
    · rw [slU_else (by decide)]; exact e0
    · by_cases z : l = y4
      · rw [z, slU_same]; exact Y.sb.1 y4 hy.1 (by omega)
      · rw [slU_ne (by omega)]; exact c3 l a (by omega)
  · have a3 := hZ.c.2.2.2.1
    rintro μ y4 y5 y6 y7 σ' i
    have go := fun (q : ¬ x2 ≤ y7) (τ : slM) (v : Int) => i.go hZ q (τ := τ) (v := v)
    obtain ⟨q3, q2, f, Y, e0, c3, e74, rfl, hy, e4, e5, e6⟩ := i
    have hg := abYr_g (x := x1) hZ.v.1 y7.toNat
    refine ⟨⟨⟨by omega, by omega⟩, i2⟩, fun q => ⟨(0, (Z.1 1 3 - 0).toNat, 0), Or.inl (by show 0 < 1; decide), q3, q2, f, ⟨_, Y, fun l a b => by omega⟩, e0, c3, rfl, ⟨by omega, by omega⟩, ?_, ?_, ?_⟩, fun q => ?_⟩
    · rw [show x2.toNat = y7.toNat by omega]; exact e4
    · rw [show x2.toNat = y7.toNat by omega, show x2 = y7 by omega]; exact e5
    · rw [show x2.toNat = y7.toNat by omega]; exact e6
    · have go := go q
      have p := Y.p
      generalize eB : (abYr Z x1 y7.toNat).1.2 = b at *
      generalize eS : (abYr Z x1 y7.toNat).1.1 = sd at *
      rw [p.1.1.2.2.2.1]
      refine ⟨⟨by omega, by omega⟩, fun q0 => ?_, fun q0 => ?_⟩
      · have st : abStm Z.1 sd b = (sd, b) := abIte_f (by omega)
        rw [st] at go
        refine yr_tail hG (by omega) (by omega) hZ Y hg p.2.2.2.1 (fun τ f2 Y2 e2 => ?_)
        rw [e74] at e2 ⊢
        exact go _ _ rfl (f.tr (f2.md (by decide))) Y2 ((f2.2 0 (by decide)).trans e0) (fun l a b => by rw [f2.1 103 0 (by decide) (by decide)]; exact c3 l a b) e2
      · have l : 0 ≤ abStL Z.1 sd ∧ abStL Z.1 sd < Z.1 1 3 := ab_mod (by omega)
        have r4 := ab_mod (a := abRaw (abSd (abSd sd))) (b := 4) (by decide)
        have gl := hg _ l.1 l.2
        have br := abBehind_r (s := abRaw (abSd (abSd sd)) % 4) hZ.c gl.1
        have st : abStm Z.1 sd b = (abSd (abSd sd), abIte (abFree Z.1 b (Z.1 1 3) (abStL Z.1 sd) (abStC Z.1 sd b)) (abPut b (abStL Z.1 sd) (abStC Z.1 sd b)) b) := abIte_t (by omega)
        rw [st] at go
        refine sp_X12_draw hG (by omega) (by omega) ⟨by omega, by omega⟩ (slKt.ok ?_)
        rw [e74]
        have l13 : 0 ≤ 13 + abStL Z.1 sd ∧ 13 + abStL Z.1 sd < 27 := ⟨by omega, by omega⟩
        refine ⟨l13, ?_⟩
        refine sp_X12_draw hG (by omega) (by omega) ⟨by decide, by decide⟩ (slKt.ok ?_)
        rw [slU_same, slU_tw]
        have Y1 : isYb Z b (slU σ' 12 0 74 (abSd (abSd sd))) := Y.q (mFr.up12 mQ.id (by decide))
        have p1 := Y1.p
        have eb : slU σ' 12 0 74 (abSd sd) 88 0 (13 + abRaw (abSd sd) % Z.1 1 3).toNat = b (abStL Z.1 sd) := by
          rw [slU_else (by decide)]
          exact p.2.1 _ l.1 l.2
        rw [eb]
        have F1 : mdF σ (slU σ' 12 0 74 (abSd (abSd sd))) := f.up (Or.inl rfl)
        have E1 : slU σ' 12 0 74 (abSd (abSd sd)) 12 0 0 = 0 := by rw [slU_ne (by decide)]; exact e0
        have C1 : ∀ l : Int, 0 ≤ l → l < Z.1 1 3 → slU σ' 12 0 74 (abSd (abSd sd)) 103 0 l.toNat = Z.2.1.1 2 l := fun l a b => by rw [slU_else (by decide)]; exact c3 l a b
        have S1 : slU σ' 12 0 74 (abSd (abSd sd)) 12 0 74 = abSd (abSd sd) := slU_same _ _ _ _ _
        generalize slU σ' 12 0 74 (abSd (abSd sd)) = σ1 at Y1 p1 F1 E1 C1 S1 ⊢
        refine sp_X12_leads hG (by omega) (by omega) p1.1 hZ.c gl.1 ⟨r4.1, by omega⟩ (slKt.ok ?_)
        rw [p1.1.1.2.2.2.1]
        refine sp_X12_isFree hG (by omega) (by omega) (f := b) (x1 := abStC Z.1 sd b) (x4 := abStL Z.1 sd) p1.1 hZ.c ⟨by show -2147483648 ≤ abBehind _ _ _; omega, by show abBehind _ _ _ < 2147483648; omega⟩ ⟨by omega, by omega⟩ ⟨by omega, by omega⟩ ⟨by omega, by omega⟩ (fun l a b => ⟨p1.2.1 l a b, (hg l a b).1⟩) (slKt.ok ⟨in01, fun z => ?_, fun z => ⟨l13, ?_⟩⟩)
        · rw [abIte_f (abIf_z z)] at go
          refine yr_tail hG (by omega) (by omega) hZ Y1 hg p1.2.2.2.1 (fun τ f2 Y2 e2 => ?_)
          rw [S1] at e2 ⊢
          exact go _ _ rfl (F1.tr (f2.md (by decide))) Y2 ((f2.2 0 (by decide)).trans E1) (fun l a b => by rw [f2.1 103 0 (by decide) (by decide)]; exact C1 l a b) e2
        · have fr := abIf_nz z
          rw [abIte_t fr] at go
          have Y3 : isYb Z (abPut b (abStL Z.1 sd) (abStC Z.1 sd b)) (slU σ1 88 0 (13 + abStL Z.1 sd).toNat (abStC Z.1 sd b)) := Y1.put hZ.c l
          have S3 : ∀ (k : Nat) (v : Int), slU σ1 88 0 k v 12 0 74 = abSd (abSd sd) := fun k v => by rw [slU_else (by decide)]; exact S1
          refine yr_tail hG (by omega) (by omega) hZ Y3 (hg.put fr) Y3.p.2.2.2.1 (fun τ f2 Y2 e2 => ?_)
          rw [S3] at e2 ⊢
          exact go _ _ rfl ((F1.up (Or.inr (by decide))).tr (f2.md (by decide))) Y2 ((f2.2 0 (by decide)).trans (by rw [slU_else (by decide)]; exact E1)) (fun l a b => by rw [f2.1 103 0 (by decide) (by decide), slU_else (by decide)]; exact C1 l a b) e2
  · have a3 := hZ.c.2.2.2.1
    rintro μ y4 y5 y6 y7 σ' ⟨q3, q2, f, ⟨b, Y, eb⟩, e0, c3, rfl, hy, rfl, rfl, rfl⟩
    rw [Y.p.1.1.2.2.2.1]
    refine ⟨⟨⟨by omega, by omega⟩, by omega, by omega⟩, fun q => ?_, fun q => ⟨⟨by omega, by omega⟩, ⟨by omega, by omega⟩, (0, (Z.1 1 3 - (y7 + 1)).toNat, 0), Or.inr ⟨rfl, Or.inl (by show (Z.1 1 3 - (y7 + 1)).toNat < (Z.1 1 3 - y7).toNat; omega)⟩, q3, q2, f.up (Or.inr (by decide)), ⟨abPut b y7 (Z.2.1.1 2 y7), ?_, fun l x y => ?_⟩, ?_, fun l x y => ?_, rfl, ⟨by omega, by omega⟩, rfl, rfl, rfl⟩⟩
    · have k := h σ' f (Y.back (fun l x y => eb l x (by omega)))
      unfold abOk2 at k
      rw [abIte_t q3, abIte_t q2] at k
      have k := k e0
      unfold abYears at k
      refine ⟨i3, fun z => ⟨i3, fun w => ?_, fun w => ?_⟩, fun z => ?_⟩
      · rwa [if_neg z, if_neg w] at k
      · rwa [if_neg z, if_pos w] at k
      · rwa [if_pos z] at k
    · rw [c3 y7 hy.1 (by omega)]
      exact Y.put hZ.c ⟨hy.1, by omega⟩
    · unfold abPut
      by_cases z : l = y7
      · rw [if_pos z, z]
      · rw [if_neg z]; exact eb l x (by omega)
    · rw [slU_else (by decide)]; exact e0
    · rw [slU_else (by decide)]; exact c3 l x y
