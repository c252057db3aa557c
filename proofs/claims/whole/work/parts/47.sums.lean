/-! ===== courses by another law; sums; the best of many ===== -/
noncomputable def abCL (P : abP) (law : Int) (oil b : Int → Int) (h l : Int) : Int := (abCrs P (abOrd P law oil) b h.toNat).1 l
noncomputable def abSW (P : abP) (C : Int → Int → Int) (oil mo : Int → Int) : Int := abSum (fun s => abSum (fun n => abHrs (abNow P C oil mo s) n 31) 10) (P 1 4).toNat
theorem abSW_r {P : abP} {C : Int → Int → Int} {oil mo : Int → Int} (hC : gdC P) : 0 ≤ abSW P C oil mo ∧ abSW P C oil mo ≤ 1920 := by
  have a4 := hC.2.2.2.2.1
  have q := abSum_le (f := fun s => abSum (fun n => abHrs (abNow P C oil mo s) n 31) 10) (B := 240) (n := (P 1 4).toNat) (fun k _ _ => by
    have q := abSum_le (f := fun n => abHrs (abNow P C oil mo k) n 31) (B := 24) (n := 10) (fun j _ _ => abHrs_r)
    show 0 ≤ abSum (fun n => abHrs (abNow P C oil mo k) n 31) 10 ∧ abSum (fun n => abHrs (abNow P C oil mo k) n 31) 10 ≤ 240
    omega)
  unfold abSW
  omega
theorem gdK_cl {P : abP} {law : Int} {oil b : Int → Int} (hg : gdP P b) (ho : ∀ l : Int, 0 ≤ l → l < P 1 3 → 0 ≤ oil l ∧ oil l ≤ 200) {H : Int} : gdK H P (abCL P law oil b) oil := ⟨fun n _ _ => hg.crs n.toNat, ho⟩
theorem abCL_gc {P : abP} {law : Int} {oil b : Int → Int} (hg : gdP P b) {h l : Int} (hl : 0 ≤ l) (hl' : l < P 1 3) : gc P (abCL P law oil b h l) := ((hg.crs h.toNat) l hl hl').1
/-- a settled class stays so where the trial alone is used -/
theorem cS.fr {c s : Nat} {Z : abZ} {σ τ υ : slM} {L : List (Nat × Nat)} (m : cS c s Z σ τ) (f : slFr L τ υ) (hL : ∀ p ∈ L, slSc p.1 p.2 = true ∧ ¬ (p.2 = 0 ∧ (p.1 = 60 ∨ p.1 = 56 ∨ p.1 = 35 ∨ p.1 = 36))) (hd : ∀ k : Nat, k % 240 % 24 < 12 → υ 36 1 k = 0) : cS c s Z σ υ := by
  have q : ∀ r, r = 60 ∨ r = 56 ∨ r = 35 ∨ r = 36 → υ r 0 = τ r 0 := fun r hr => f r 0 (fun z => (hL _ z).2 ⟨rfl, hr⟩)
  have f2 := f.cq (fun p hp => (hL p hp).1)
  exact ⟨m.1.tr f2, m.2.1.q1 f2 q (by rw [f 11 0 (fun z => absurd (hL _ z).1 (by decide))]) hd, m.2.2.c q⟩
theorem cS.dz {c s : Nat} {Z : abZ} {σ τ : slM} (m : cS c s Z σ τ) : ∀ k : Nat, k % 240 % 24 < 12 → τ 36 1 k = 0 := m.2.1.dz 1 (by decide)
section Tr9
variable {G : slG} {d K : Nat} {Φ : slPost} {σ τ : slM} {c s N s9 t9 : Nat} {Z : abZ} {b oil : Int → Int} {law : Int}
theorem ct_sail (hG : slGood G) (hd : 20 ≤ d) (hZ : gdZ N Z) (m : cS c s Z σ τ) (hb : ∀ l : Int, 0 ≤ l → l < Z.1 1 3 → τ 51 s9 l.toNat = b l) (hg : gdP Z.1 b) (hT : ∀ n : Nat, (n : Int) < 240 → abSeg (τ 56 t9) (n * 5) (Z.1 1 3).toNat = abOrd Z.1 law oil n)
    (h : ∀ υ, cS c s Z σ υ → slFr [(3, 1), (35, 1)] τ υ → (∀ h l : Int, 0 ≤ h → h < 240 → 0 ≤ l → l < Z.1 1 3 → υ 35 1 (l * 240 + h).toNat = abCL Z.1 law oil b h l) → Φ (0, 0) υ) : slCall G mX3_sail d K [sR 3 1, sR 1 c, sR 8 s9, sR 10 t9, sI 240] τ Φ := by
  refine sp_X3_sail hG (by omega) (by omega) (ord := abOrd Z.1 law oil) m.2.1.cc hZ.c ⟨by decide, by decide⟩ hb hg (fun n hn => hT n (by omega)) (fun n l hl => abOrd_mem hZ.c hl) (fun υ f c1 _ => ?_)
  refine h υ (m.fr f (by decide) (fun k hk => by rw [f 36 1 (by simp)]; exact m.dz k hk)) f (fun x l a1 a2 a3 a4 => ?_)
  have := c1 x.toNat l (by omega) a3 a4
  rw [show ((x.toNat : Nat) : Int) = x by omega] at this
  exact this
theorem ct_look (hG : slGood G) (hd : 20 ≤ d) (hZ : gdZ N Z) (m : cS c s Z σ τ) (ho : ∀ l : Int, 0 ≤ l → l < Z.1 1 3 → τ 52 s9 l.toNat = oil l ∧ 0 ≤ oil l ∧ oil l ≤ 200) (hg : gdP Z.1 b) (hc : ∀ h l : Int, 0 ≤ h → h < 240 → 0 ≤ l → l < Z.1 1 3 → τ 35 1 (l * 240 + h).toNat = abCL Z.1 law oil b h l)
    (h : ∀ υ, cS c s Z σ υ → slFr [(36, 1)] τ υ → (∀ k h : Int, 0 ≤ k → k < Z.1 1 4 → 0 ≤ h → h < 240 → υ 36 1 (k * 240 + h).toNat = abNow Z.1 (abCL Z.1 law oil b) oil (Z.2.1.1 1) k h) → Φ (0, 0) υ) : slCall G mX3_look d K [sR 3 1, sR 1 c, sR 8 s9, sR 60 0] τ Φ := by
  refine sp_X3_look hG (by omega) (by omega) (C := abCL Z.1 law oil b) (oil := oil) (mo := Z.2.1.1 1) m.2.1.cc hZ.c (fun x l a1 a2 a3 a4 => ⟨hc x l a1 a2 a3 a4, abCL_gc hg a3 a4⟩) m.2.2.1 hZ.v.2.2.1 ho m.dz (fun υ f c1 z1 => ?_)
  exact h υ (m.fr f (by decide) z1) f c1
theorem ct_sum (hG : slGood G) (hd : 20 ≤ d) (hZ : gdZ N Z) (hc : ∀ k h : Int, 0 ≤ k → k < Z.1 1 4 → 0 ≤ h → h < 240 → τ 36 1 (k * 240 + h).toNat = abNow Z.1 (abCL Z.1 law oil b) oil (Z.2.1.1 1) k h) (h : Φ (0, abSW Z.1 (abCL Z.1 law oil b) oil (Z.2.1.1 1)) τ) : slCall G mX3_sumOfWatches d K [sR 3 1, sI (Z.1 1 4)] τ Φ := by
  have a4 := hZ.c.2.2.2.2.1
  exact sp_X3_sumOfWatches hG (by omega) (by omega) (V := abNow Z.1 (abCL Z.1 law oil b) oil (Z.2.1.1 1)) ⟨by omega, by omega⟩ hc (fun k x a1 a2 a3 => abNow_day a3) h
end Tr9
theorem plan_ord {P : abP} {law : Int} {oil o2 : Int → Int} {i : Nat} {σ : slM} (t : abTurns P law o2 i σ) (e : ∀ l : Int, 0 ≤ l → l < P 1 3 → o2 l = oil l) (hC : gdC P) : ∀ n : Nat, (n : Int) < 240 → abSeg (σ 56 i) (n * 5) (P 1 3).toNat = abOrd P law oil n := fun n hn => by
  have a := hC.2.2.2.1
  have := t.2 n (by omega) hn
  rw [show ((n : Int) * 5).toNat = n * 5 by omega] at this
  rw [this]
  exact abSort_c (fun l a b => by show abG _ _ (o2 l) _ _ = _; rw [e l a (by omega)])
set_option maxHeartbeats 1000000 in
set_option maxRecDepth 4000 in
theorem sp_X11_sumByLaw {G : slG} (hG : slGood G) {d K : Nat} (hd : 40 ≤ d) (hK : 0 ≤ K) {Φ : slPost} {σ : slM} {x1 : Int} {c s N : Nat} {Z : abZ} {σ0 : slM} (m0 : cS c s Z σ0 σ) (hZ : gdZ N Z) (h1 : x1 = -1 ∨ (0 ≤ x1 ∧ x1 < Z.1 4 4)) (h : ∀ τ, cS c s Z σ0 τ → Φ (0, abSW Z.1 (abCL Z.1 x1 (Z.2.1.1 0) (Z.2.1.1 2)) (Z.2.1.1 0) (Z.2.1.1 1)) τ) :
    slCall G mX11_sumByLaw d K [sR 11 0, sI x1] σ Φ := by
  refine vc_X11_sumByLaw hG (by omega) hK  ?_
  have hV := hZ.v
  have x := m0.2.1
  rw [x.e4, x.e5]
  refine sp_X10_plan hG (by omega) (by omega) x.cc hZ.c (fun l a b => by rw [x.ss.1 l a b]; exact hV.2.1 l a b) h1 (fun τ1 f1 t1 => slKt.ok ?_)
  have m1 : cS c s Z σ0 τ1 := m0.fr f1 (by simp [slSc]) (fun k hk => by rw [f1 36 1 (by simp)]; exact m0.dz k hk)
  rw [m1.2.1.e4, m1.2.1.e5]
  refine ct_sail hG (by omega) hZ m1 (b := Z.2.1.1 2) (oil := Z.2.1.1 0) (law := x1) m1.2.1.ss.2.2.1 hV.1 (plan_ord t1 (fun l a b => x.ss.1 l a b) hZ.c) (fun τ2 m2 f2 c2 => slKt.ok ?_)
  rw [m2.2.1.e4, m2.2.1.e5]
  refine ct_look hG (by omega) hZ m2 (fun l a b => ⟨m2.2.1.ss.1 l a b, hV.2.1 l a b⟩) hV.1 c2 (fun τ3 m3 f3 c3 => slKt.ok ?_)
  rw [m3.2.1.e4, m3.2.1.cc.1]
  exact ct_sum hG (by omega) hZ c3 (slKt.ok (h τ3 m3))
set_option maxHeartbeats 1000000 in
set_option maxRecDepth 4000 in
theorem sp_X12_sumBy {G : slG} (hG : slGood G) {d K : Nat} (hd : 40 ≤ d) (hK : 0 ≤ K) {Φ : slPost} {σ : slM} {x1 : Int} {P : abP} {b oil mo : Int → Int} (hM : isM P σ) (hC : gdC P) (h1 : x1 = -1 ∨ (0 ≤ x1 ∧ x1 < P 4 4)) (hb : ∀ l : Int, 0 ≤ l → l < P 1 3 → σ 88 0 (13 + l).toNat = b l) (hg : gdP P b) (ho : ∀ l : Int, 0 ≤ l → l < P 1 3 → σ 88 0 (0 + l).toNat = oil l) (h0 : ∀ l : Int, 0 ≤ l → l < P 1 3 → 0 ≤ oil l ∧ oil l ≤ 200) (hm : mMo P mo σ) (gm : gdM P mo) (h : ∀ τ, mFr [90, 91, 92, 93, 94, 95] [65] σ τ → Φ (0, abSW P (abCL P x1 oil b) oil mo) τ) :
    slCall G mX12_sumBy d K [sR 12 0, sI x1] σ Φ := by
  refine vc_X12_sumBy hG (by omega) hK  ?_
  refine ms_sails hG (by omega) hM hC ⟨by decide, by decide⟩ h1 hb hg ho h0 (fun τ f c1 _ => slKt.ok ?_)
  refine sp_X12_sumOf hG (by omega) (by omega) (hM.fr f (by decide) (by decide)) hC c1 (gdK_cl hg h0) (fun k a b => by rw [f.1 88 0 (by decide) (by decide)]; exact hm k a b) gm (slKt.ok (h τ f))
set_option maxHeartbeats 1000000 in
set_option maxRecDepth 4000 in
theorem sp_X11_compared {G : slG} (hG : slGood G) {d K : Nat} (hd : 50 ≤ d) (hK : 1 ≤ K) {Φ : slPost} {σ : slM} {x1 : Int} {c s N : Nat} {Z : abZ} (hX : isX c s Z σ) (hZ : gdZ N Z) (i1 : InR x1) (h : cA c s Z σ Φ (abOk (-1 ≤ x1 ∧ x1 < Z.1 4 4) (abSW Z.1 (abCL Z.1 x1 (Z.2.1.1 0) (Z.2.1.1 2)) (Z.2.1.1 0) (Z.2.1.1 1)))) :
    slCall G mX11_compared d K [sR 11 0, sI x1] σ Φ := by
  refine vc_X11_compared hG (by omega) hK  ?_
  refine sp_X11_needLawOrNone hG (by omega) (by omega) hX hZ.c i1 (fun q1 => slKt.ok ?_) (fun q => slKt.ex (Or.inl rfl) (h.no q cQ.id hX))
  refine sp_X11_settle hG (by omega) (by omega) hX hZ (fun τ0 f x t => slKt.ok ?_)
  refine sp_X11_sumByLaw hG (by omega) (by omega) (σ0 := σ) ⟨f, x, t⟩ hZ (by omega) (fun τ m => slKt.ok (h.yes q1 m.1 m.2.1))
theorem isY.sb {Z : abZ} {σ : slM} (hY : isY Z σ) : (∀ l : Int, 0 ≤ l → l < Z.1 1 3 → σ 88 0 (13 + l).toNat = Z.2.1.1 2 l) ∧ (∀ l : Int, 0 ≤ l → l < Z.1 1 3 → σ 88 0 (0 + l).toNat = Z.2.1.1 0 l) ∧ σ 88 0 18 = Z.2.1.1 3 0 := ⟨hY.2.1.2.2.1, hY.2.1.1, hY.2.1.2.2.2.1⟩
set_option maxHeartbeats 1000000 in
set_option maxRecDepth 4000 in
theorem sp_X12_compared {G : slG} (hG : slGood G) {d K : Nat} (hd : 50 ≤ d) (hK : 0 ≤ K) {Φ : slPost} {σ : slM} {x1 : Int} {N : Nat} {Z : abZ} (hY : isY Z σ) (hZ : gdZ N Z) (i1 : InR x1) (h : mA Z σ Φ (abOk (-1 ≤ x1 ∧ x1 < Z.1 4 4) (abSW Z.1 (abCL Z.1 x1 (Z.2.1.1 0) (Z.2.1.1 2)) (Z.2.1.1 0) (Z.2.1.1 1)))) :
    slCall G mX12_compared d K [sR 12 0, sI x1] σ Φ := by
  refine vc_X12_compared hG (by omega) hK  ?_
  have y0 := hY.z
  refine sp_X12_isLaw hG (by omega) (by omega) y0.1 hZ.c i1 (slU_same _ _ _ _ _) (fun q1 => slKt.ok ⟨in1, fun z => absurd z (by decide), fun _ => ?_⟩) (fun q => slKt.ok ⟨in0, fun _ => h.no q mQ.id.t0 y0, fun z => absurd rfl z⟩)
  refine sp_X12_sumBy hG (by omega) (by omega) y0.1 hZ.c (by omega) y0.sb.1 hZ.v.1 y0.sb.2.1 hZ.v.2.1 y0.mo hZ.v.2.2.1 (fun τ f => slKt.ok (h.yes q1 (mQ.id.t0.tr (mSq f)) (y0.q (mSq f)) (by rw [mSt f, slU_same])))
/-- the best so far, the first of its like: which, and how good -/
noncomputable def abBst (ok : Int → Prop) (v : Int → Int) (r0 : Int × Int) : Nat → Int × Int
  | 0 => r0
  | n + 1 => abIte (ok n ∧ (abBst ok v r0 n).2 < v n) ((n : Int), v n) (abBst ok v r0 n)
theorem abBst_s {ok : Int → Prop} {v : Int → Int} {r0 : Int × Int} {y : Int} (h : 0 ≤ y) : abBst ok v r0 (y + 1).toNat = abIte (ok y ∧ (abBst ok v r0 y.toNat).2 < v y) (y, v y) (abBst ok v r0 y.toNat) := by
  obtain ⟨n, rfl⟩ := Int.eq_ofNat_of_zero_le h
  rw [show ((n : Int) + 1).toNat = n + 1 by omega, Int.toNat_natCast]
  rfl
theorem abBst_r {ok : Int → Prop} {v : Int → Int} {r0 : Int × Int} {B : Int} (h0 : -1 ≤ r0.2 ∧ r0.2 ≤ B) (hv : ∀ k, 0 ≤ v k ∧ v k ≤ B) : ∀ {n : Nat}, -1 ≤ (abBst ok v r0 n).2 ∧ (abBst ok v r0 n).2 ≤ B
  | 0 => h0
  | n + 1 => by
    show -1 ≤ (abIte (ok n ∧ (abBst ok v r0 n).2 < v n) ((n : Int), v n) (abBst ok v r0 n)).2 ∧ (abIte (ok n ∧ (abBst ok v r0 n).2 < v n) ((n : Int), v n) (abBst ok v r0 n)).2 ≤ B
    by_cases z : ok n ∧ (abBst ok v r0 n).2 < v n
    · rw [abIte_t z]
      have := hv n
      exact ⟨by show -1 ≤ v n; omega, this.2⟩
    · rw [abIte_f z]; exact abBst_r h0 hv
noncomputable def abByL (Z : abZ) (k : Int) : Int := abSW Z.1 (abCL Z.1 k (Z.2.1.1 0) (Z.2.1.1 2)) (Z.2.1.1 0) (Z.2.1.1 1)
noncomputable def abBest (Z : abZ) : Int := (abBst (fun _ => True) (abByL Z) (-1, abByL Z (-1)) (Z.1 4 4).toNat).1
theorem abByL_r {Z : abZ} {k : Int} (hC : gdC Z.1) : 0 ≤ abByL Z k ∧ abByL Z k ≤ 1920 := abSW_r hC
set_option maxHeartbeats 1000000 in
set_option maxRecDepth 4000 in
theorem sp_X11_best {G : slG} (hG : slGood G) {d K : Nat} (hd : 50 ≤ d) (hK : 0 ≤ K) {Φ : slPost} {σ : slM}  {c s N : Nat} {Z : abZ} (hX : isX c s Z σ) (hZ : gdZ N Z) (h : cA c s Z σ Φ (0, abBest Z)) :
    slCall G mX11_best d K [sR 11 0] σ Φ := by
  refine vc_X11_best hG (by omega) hK (fun μ y1 y2 y3 σ' => cS c s Z σ σ' ∧ μ = ((Z.1 4 4 - y3).toNat, 0, 0) ∧ (0 ≤ y3 ∧ y3 ≤ Z.1 4 4) ∧ (y1, y2) = abBst (fun _ => True) (abByL Z) (-1, abByL Z (-1)) y3.toNat) ?_ ?_
  · have a5 := hZ.c.2.2.2.2.2.2.2.2.2.2.1
    refine sp_X11_settle hG (by omega) (by omega) hX hZ (fun τ0 f x t => slKt.ok ?_)
    refine sp_X11_sumByLaw hG (by omega) (by omega) (σ0 := σ) ⟨f, x, t⟩ hZ (Or.inl rfl) (fun τ m => slKt.ok ⟨_, m, rfl, ⟨by omega, by omega⟩, rfl⟩)
  · have a5 := hZ.c.2.2.2.2.2.2.2.2.2.2.1
    rintro μ y1 y2 y3 σ' ⟨m, rfl, hy, e⟩
    have x := m.2.1
    have r := abBst_r (ok := fun _ => True) (v := abByL Z) (r0 := (-1, abByL Z (-1))) (B := 1920) (by have := abByL_r (Z := Z) (k := -1) hZ.c; exact ⟨by show -1 ≤ abByL Z (-1); omega, this.2⟩) (fun k => abByL_r hZ.c) (n := y3.toNat)
    have r3 := abByL_r (Z := Z) (k := y3) hZ.c
    rw [← e] at r
    have r : -1 ≤ y2 ∧ y2 ≤ 1920 := r
    obtain ⟨p1, p23, p24, p25, p26, p27, p28, p29, p30, p31, p32, p4, -⟩ := x.cc
    rw [x.e4, p4]
    refine ⟨⟨⟨by omega, by omega⟩, by omega, by omega⟩, fun q => ?_, fun q => ?_⟩
    · have k := h σ' m.1 x
      unfold abBest at k
      rw [show Z.1 4 4 = y3 by omega, ← e] at k
      exact k
    · refine sp_X11_sumByLaw hG (by omega) (by omega) (σ0 := σ) m hZ (by omega) (fun τ m2 => slKt.ok ⟨⟨⟨by show -2147483648 ≤ abByL Z y3; omega, by show abByL Z y3 < 2147483648; omega⟩, by omega, by omega⟩, fun z => ⟨_, Or.inl (by show (Z.1 4 4 - (y3 + 1)).toNat < (Z.1 4 4 - y3).toNat; omega), m2, rfl, ⟨by omega, by omega⟩, ?_⟩, fun z => ⟨_, Or.inl (by show (Z.1 4 4 - (y3 + 1)).toNat < (Z.1 4 4 - y3).toNat; omega), m2, rfl, ⟨by omega, by omega⟩, ?_⟩⟩)
      · have z : abByL Z y3 ≤ y2 := z
        rw [abBst_s hy.1, ← e, abIte_f (fun w => by have : y2 < abByL Z y3 := w.2; omega)]
      · have z : ¬ abByL Z y3 ≤ y2 := z
        rw [abBst_s hy.1, ← e, abIte_t ⟨trivial, by show y2 < abByL Z y3; omega⟩]
        rfl
set_option maxHeartbeats 1000000 in
set_option maxRecDepth 4000 in
theorem sp_X12_best {G : slG} (hG : slGood G) {d K : Nat} (hd : 50 ≤ d) (hK : 0 ≤ K) {Φ : slPost} {σ : slM}  {N : Nat} {Z : abZ} (hY : isY Z σ) (hZ : gdZ N Z) (h : mA Z σ Φ (0, abBest Z)) :
    slCall G mX12_best d K [sR 12 0] σ Φ := by
  refine vc_X12_best hG (by omega) hK (fun μ y1 y2 y3 σ' => mQ σ σ' ∧ isY Z σ' ∧ σ' 12 0 0 = 0 ∧ μ = ((Z.1 4 4 - y3).toNat, 0, 0) ∧ (0 ≤ y3 ∧ y3 ≤ Z.1 4 4) ∧ (y1, y2) = abBst (fun _ => True) (abByL Z) (-1, abByL Z (-1)) y3.toNat) ?_ ?_
  · have a5 := hZ.c.2.2.2.2.2.2.2.2.2.2.1
    have y0 := hY.z
    refine sp_X12_sumBy hG (by omega) (by omega) y0.1 hZ.c (Or.inl rfl) y0.sb.1 hZ.v.1 y0.sb.2.1 hZ.v.2.1 y0.mo hZ.v.2.2.1 (fun τ f => slKt.ok ⟨_, mQ.id.t0.tr (mSq f), y0.q (mSq f), by rw [mSt f, slU_same], rfl, ⟨by omega, by omega⟩, rfl⟩)
  · have a5 := hZ.c.2.2.2.2.2.2.2.2.2.2.1
    rintro μ y1 y2 y3 σ' ⟨f, x, e0, rfl, hy, e⟩
    have r := abBst_r (ok := fun _ => True) (v := abByL Z) (r0 := (-1, abByL Z (-1))) (B := 1920) (by have := abByL_r (Z := Z) (k := -1) hZ.c; exact ⟨by show -1 ≤ abByL Z (-1); omega, this.2⟩) (fun k => abByL_r hZ.c) (n := y3.toNat)
    have r3 := abByL_r (Z := Z) (k := y3) hZ.c
    rw [← e] at r
    have r : -1 ≤ y2 ∧ y2 ≤ 1920 := r
    rw [x.1.1.2.2.2.2.2.2]
    refine ⟨⟨⟨by omega, by omega⟩, by omega, by omega⟩, fun q => ?_, fun q => ?_⟩
    · have k := h σ' f x e0
      unfold abBest at k
      rw [show Z.1 4 4 = y3 by omega, ← e] at k
      exact k
    · refine sp_X12_sumBy hG (by omega) (by omega) x.1 hZ.c (by omega) x.sb.1 hZ.v.1 x.sb.2.1 hZ.v.2.1 x.mo hZ.v.2.2.1 (fun τ f2 => slKt.ok ⟨⟨⟨by show -2147483648 ≤ abByL Z y3; omega, by show abByL Z y3 < 2147483648; omega⟩, by omega, by omega⟩, fun z => ⟨_, Or.inl (by show (Z.1 4 4 - (y3 + 1)).toNat < (Z.1 4 4 - y3).toNat; omega), f.tr (mSq f2), x.q (mSq f2), by rw [mSt f2]; exact e0, rfl, ⟨by omega, by omega⟩, ?_⟩, fun z => ⟨_, Or.inl (by show (Z.1 4 4 - (y3 + 1)).toNat < (Z.1 4 4 - y3).toNat; omega), f.tr (mSq f2), x.q (mSq f2), by rw [mSt f2]; exact e0, rfl, ⟨by omega, by omega⟩, ?_⟩⟩)
      · have z : y2 < abByL Z y3 := z
        rw [abBst_s hy.1, ← e, abIte_t ⟨trivial, z⟩]
        rfl
      · have z : ¬ y2 < abByL Z y3 := z
        rw [abBst_s hy.1, ← e, abIte_f (fun w => z w.2)]
noncomputable def abQua (P : abP) (T : Int → Int → Int) (law : Int) : Int := (abCrs P (abOrd P law (T 0)) (T 2) 239).2
set_option maxHeartbeats 1000000 in
set_option maxRecDepth 4000 in
theorem sp_X11_quarrels {G : slG} (hG : slGood G) {d K : Nat} (hd : 50 ≤ d) (hK : 1 ≤ K) {Φ : slPost} {σ : slM} {x1 : Int} {c s N : Nat} {Z : abZ} (hX : isX c s Z σ) (hZ : gdZ N Z) (i1 : InR x1) (h : cA c s Z σ Φ (abOk (-1 ≤ x1 ∧ x1 < Z.1 4 4) (abQua Z.1 Z.2.1.1 x1))) :
    slCall G mX11_quarrels d K [sR 11 0, sI x1] σ Φ := by
  refine vc_X11_quarrels hG (by omega) hK  ?_
  have hV := hZ.v
  refine sp_X11_needLawOrNone hG (by omega) (by omega) hX hZ.c i1 (fun q1 => slKt.ok ?_) (fun q => slKt.ex (Or.inl rfl) (h.no q cQ.id hX))
  rw [hX.e4, hX.e5]
  refine sp_X10_plan hG (by omega) (by omega) hX.cc hZ.c (fun l a b => by rw [hX.ss.1 l a b]; exact hV.2.1 l a b) (by omega) (fun τ1 f1 t1 => slKt.ok ?_)
  have x1' : isX c s Z τ1 := hX.q1 (f1.cq (by simp [slSc])) (fun r hr => f1 r 0 (by simp; omega)) (by rw [f1 11 0 (by simp)]) (fun k hk => by rw [f1 36 1 (by simp)]; exact hX.dz 1 (by decide) k hk)
  rw [x1'.e4, x1'.e5]
  refine sp_X3_sail hG (by omega) (by omega) (ord := abOrd Z.1 x1 (Z.2.1.1 0)) x1'.cc hZ.c ⟨by decide, by decide⟩ x1'.ss.2.2.1 hV.1 (fun n hn => plan_ord t1 (fun l a b => hX.ss.1 l a b) hZ.c n (by omega)) (fun n l hl => abOrd_mem hZ.c hl) (fun τ2 f2 c1 e2 => slKt.ok ?_)
  rw [e2]
  exact h.yes q1 ((f1.cq (by simp [slSc])).tr (f2.cq (by decide))) (x1'.q1 (f2.cq (by decide)) (fun r hr => f2 r 0 (by simp)) (by rw [f2 11 0 (by simp)]) (fun k hk => by rw [f2 36 1 (by simp)]; exact x1'.dz 1 (by decide) k hk))
set_option maxHeartbeats 1000000 in
set_option maxRecDepth 4000 in
theorem sp_X12_quarrels {G : slG} (hG : slGood G) {d K : Nat} (hd : 50 ≤ d) (hK : 0 ≤ K) {Φ : slPost} {σ : slM} {x1 : Int} {N : Nat} {Z : abZ} (hY : isY Z σ) (hZ : gdZ N Z) (i1 : InR x1) (h : mA Z σ Φ (abOk (-1 ≤ x1 ∧ x1 < Z.1 4 4) (abQua Z.1 Z.2.1.1 x1))) :
    slCall G mX12_quarrels d K [sR 12 0, sI x1] σ Φ := by
  refine vc_X12_quarrels hG (by omega) hK  ?_
  have y0 := hY.z
  refine sp_X12_isLaw hG (by omega) (by omega) y0.1 hZ.c i1 (slU_same _ _ _ _ _) (fun q1 => slKt.ok ⟨in1, fun _ => ?_, fun z => absurd z (by decide)⟩) (fun q => slKt.ok ⟨in0, fun z => absurd rfl z, fun _ => h.no q mQ.id.t0 y0⟩)
  refine ms_sails hG (by omega) y0.1 hZ.c ⟨by decide, by decide⟩ (by omega) y0.sb.1 hZ.v.1 y0.sb.2.1 hZ.v.2.1 (fun τ f c1 e => slKt.ok ?_)
  rw [e]
  exact h.yes q1 (mQ.id.t0.tr (mSq f)) (y0.q (mSq f)) (by rw [mSt f, slU_same])
/-! father, journey, brightest, alone -/
noncomputable def abShw (Z : abZ) (l : Int) : Int := abSum (fun s => abSum (fun h => abBit (abNow Z.1 (abC Z.1 Z.2.1.1) (Z.2.1.1 0) (Z.2.1.1 1) s h) l) 240) (Z.1 1 4).toNat
theorem abShw_r {Z : abZ} {l : Int} (hC : gdC Z.1) : 0 ≤ abShw Z l ∧ abShw Z l ≤ 1920 := by
  have a4 := hC.2.2.2.2.1
  have q := abSum_le (f := fun s => abSum (fun h => abBit (abNow Z.1 (abC Z.1 Z.2.1.1) (Z.2.1.1 0) (Z.2.1.1 1) s h) l) 240) (B := 240) (n := (Z.1 1 4).toNat) (fun k _ _ => by
    have q := abSum_le (f := fun h => abBit (abNow Z.1 (abC Z.1 Z.2.1.1) (Z.2.1.1 0) (Z.2.1.1 1) k h) l) (B := 1) (n := 240) (fun j _ _ => by
      have := abBit01 (abNow Z.1 (abC Z.1 Z.2.1.1) (Z.2.1.1 0) (Z.2.1.1 1) k j) l
      show 0 ≤ abBit _ l ∧ abBit _ l ≤ 1
      omega)
    show 0 ≤ abSum (fun h => abBit (abNow Z.1 (abC Z.1 Z.2.1.1) (Z.2.1.1 0) (Z.2.1.1 1) k h) l) 240 ∧ abSum (fun h => abBit (abNow Z.1 (abC Z.1 Z.2.1.1) (Z.2.1.1 0) (Z.2.1.1 1) k h) l) 240 ≤ 240
    omega)
  unfold abShw
  omega
theorem cs_shw {G : slG} (hG : slGood G) {d K : Nat} (hd : 12 ≤ d) {Φ : slPost} {σ τ : slM} {c s N : Nat} {Z : abZ} {x2 : Int} (hZ : gdZ N Z) (m : cS c s Z σ τ) (q : 0 ≤ x2 ∧ x2 < Z.1 1 3) (h : Φ (0, abShw Z x2) τ) : slCall G mX3_showsOf d K [sR 3 0, sI (Z.1 1 4), sI x2] τ Φ := by
  have a3 := hZ.c.2.2.2.1
  have a4 := hZ.c.2.2.2.2.1
  exact sp_X3_showsOf hG (by omega) (by omega) (V := abNow Z.1 (abC Z.1 Z.2.1.1) (Z.2.1.1 0) (Z.2.1.1 1)) ⟨by omega, by omega⟩ ⟨by omega, by omega⟩ (fun k x a1 a2 a3 a4 => ⟨m.2.2.2.2.2 k x a1 a2 a3 a4, abNow_r hZ.c⟩) h
theorem ms_shw {G : slG} (hG : slGood G) {d K : Nat} (hd : 12 ≤ d) {Φ : slPost} {σ τ : slM} {N : Nat} {Z : abZ} {x1 : Int} (hZ : gdZ N Z) (m : mS Z σ τ) (q : 0 ≤ x1 ∧ x1 < Z.1 1 3) (h : Φ (0, abShw Z x1) τ) : slCall G mX12_shows d K [sR 12 0, sI x1] τ Φ :=
  sp_X12_shows hG (by omega) (by omega) m.2.1.1 hZ.c m.2.2.2 hZ.v.k m.2.1.mo hZ.v.2.2.1 q h
noncomputable def abBri (Z : abZ) : Int := (abBst (fun _ => True) (abShw Z) (-1, -1) (Z.1 1 3).toNat).1
set_option maxHeartbeats 1000000 in
set_option maxRecDepth 4000 in
theorem sp_X11_brightest {G : slG} (hG : slGood G) {d K : Nat} (hd : 50 ≤ d) (hK : 0 ≤ K) {Φ : slPost} {σ : slM}  {c s N : Nat} {Z : abZ} (hX : isX c s Z σ) (hZ : gdZ N Z) (h : cA c s Z σ Φ (0, abBri Z)) :
    slCall G mX11_brightest d K [sR 11 0] σ Φ := by
  refine vc_X11_brightest hG (by omega) hK (fun μ y1 y2 y3 σ' => cS c s Z σ σ' ∧ μ = ((Z.1 1 3 - y3).toNat, 0, 0) ∧ (0 ≤ y3 ∧ y3 ≤ Z.1 1 3) ∧ (y1, y2) = abBst (fun _ => True) (abShw Z) (-1, -1) y3.toNat) ?_ ?_
  · have a3 := hZ.c.2.2.2.1
    refine sp_X11_settle hG (by omega) (by omega) hX hZ (fun τ f x t => slKt.ok ⟨_, ⟨f, x, t⟩, rfl, ⟨by omega, by omega⟩, rfl⟩)
  · have a3 := hZ.c.2.2.2.1
    rintro μ y1 y2 y3 σ' ⟨m, rfl, hy, e⟩
    have r := abBst_r (ok := fun _ => True) (v := abShw Z) (r0 := (-1, -1)) (B := 1920) ⟨by decide, by decide⟩ (fun k => abShw_r hZ.c) (n := y3.toNat)
    have r3 := abShw_r (Z := Z) (l := y3) hZ.c
    rw [← e] at r
    have r : -1 ≤ y2 ∧ y2 ≤ 1920 := r
    rw [m.2.1.e4, m.2.1.cc.1]
    refine ⟨⟨⟨by omega, by omega⟩, by omega, by omega⟩, fun q => ?_, fun q => ?_⟩
    · have k := h σ' m.1 m.2.1
      unfold abBri at k
      rw [show Z.1 1 3 = y3 by omega, ← e] at k
      exact k
    · refine cs_shw hG (by omega) hZ m ⟨by omega, by omega⟩ (slKt.ok ⟨⟨⟨by omega, by omega⟩, by omega, by omega⟩, fun z => ⟨_, Or.inl (by show (Z.1 1 3 - (y3 + 1)).toNat < (Z.1 1 3 - y3).toNat; omega), m, rfl, ⟨by omega, by omega⟩, ?_⟩, fun z => ⟨_, Or.inl (by show (Z.1 1 3 - (y3 + 1)).toNat < (Z.1 1 3 - y3).toNat; omega), m, rfl, ⟨by omega, by omega⟩, ?_⟩⟩)
      · rw [abBst_s hy.1, ← e, abIte_f (fun w => by have : y2 < abShw Z y3 := w.2; omega)]
      · rw [abBst_s hy.1, ← e, abIte_t ⟨trivial, by show y2 < abShw Z y3; omega⟩]
set_option maxHeartbeats 1000000 in
set_option maxRecDepth 4000 in
theorem sp_X12_brightest {G : slG} (hG : slGood G) {d K : Nat} (hd : 50 ≤ d) (hK : 0 ≤ K) {Φ : slPost} {σ : slM}  {N : Nat} {Z : abZ} (hY : isY Z σ) (hZ : gdZ N Z) (h : mA Z σ Φ (0, abBri Z)) :
    slCall G mX12_brightest d K [sR 12 0] σ Φ := by
  refine vc_X12_brightest hG (by omega) hK (fun μ y1 y2 y3 σ' => mS Z σ σ' ∧ μ = ((Z.1 1 3 - y3).toNat, 0, 0) ∧ (0 ≤ y3 ∧ y3 ≤ Z.1 1 3) ∧ (y1, y2) = abBst (fun _ => True) (abShw Z) (-1, -1) y3.toNat) ?_ ?_
  · have a3 := hZ.c.2.2.2.1
    refine ms_now hG (by omega) hY.z hZ mQ.id.t0 (slU_same _ _ _ _ _) (fun τ m => slKt.ok ⟨_, m, rfl, ⟨by omega, by omega⟩, rfl⟩)
  · have a3 := hZ.c.2.2.2.1
    rintro μ y1 y2 y3 σ' ⟨m, rfl, hy, e⟩
    have r := abBst_r (ok := fun _ => True) (v := abShw Z) (r0 := (-1, -1)) (B := 1920) ⟨by decide, by decide⟩ (fun k => abShw_r hZ.c) (n := y3.toNat)
    have r3 := abShw_r (Z := Z) (l := y3) hZ.c
    rw [← e] at r
    have r : -1 ≤ y2 ∧ y2 ≤ 1920 := r
    rw [m.2.1.1.1.2.2.2.1]
    refine ⟨⟨⟨by omega, by omega⟩, by omega, by omega⟩, fun q => ?_, fun q => ?_⟩
    · have k := h σ' m.1 m.2.1 m.2.2.1
      unfold abBri at k
      rw [show Z.1 1 3 = y3 by omega, ← e] at k
      exact k
    · refine ms_shw hG (by omega) hZ m ⟨by omega, by omega⟩ (slKt.ok ⟨⟨⟨by omega, by omega⟩, by omega, by omega⟩, fun z => ⟨_, Or.inl (by show (Z.1 1 3 - (y3 + 1)).toNat < (Z.1 1 3 - y3).toNat; omega), m, rfl, ⟨by omega, by omega⟩, ?_⟩, fun z => ⟨_, Or.inl (by show (Z.1 1 3 - (y3 + 1)).toNat < (Z.1 1 3 - y3).toNat; omega), m, rfl, ⟨by omega, by omega⟩, ?_⟩⟩)
      · rw [abBst_s hy.1, ← e, abIte_t ⟨trivial, z⟩]
      · rw [abBst_s hy.1, ← e, abIte_f (fun w => z w.2)]
/-! the nearest light that is seen: which, and how far; -1 and 99 if none -/
noncomputable def abFat (ok : Int → Prop) (v : Int → Int) : Nat → Int × Int
  | 0 => (-1, 99)
  | n + 1 => abIte (ok n ∧ v n < (abFat ok v n).2) ((n : Int), v n) (abFat ok v n)
theorem abFat_s {ok : Int → Prop} {v : Int → Int} {y : Int} (h : 0 ≤ y) : abFat ok v (y + 1).toNat = abIte (ok y ∧ v y < (abFat ok v y.toNat).2) (y, v y) (abFat ok v y.toNat) := by
  obtain ⟨n, rfl⟩ := Int.eq_ofNat_of_zero_le h
  rw [show ((n : Int) + 1).toNat = n + 1 by omega, Int.toNat_natCast]
  rfl
noncomputable def abFather (P : abP) (T : Int → Int → Int) (s h : Int) : Int := (abFat (fun l => abBit (abNow P (abC P T) (T 0) (T 1) s h) l = 1) (fun l => abFar (P 1 0) (T 1 s) (abC P T h l)) (P 1 3).toNat).1
theorem abFar_c {w a b : Int} : abFar w a b = abFar w b a := by
  unfold abFar abMax abAbs
  omega
set_option maxHeartbeats 1000000 in
set_option maxRecDepth 4000 in
theorem sp_X11_father {G : slG} (hG : slGood G) {d K : Nat} (hd : 50 ≤ d) (hK : 2 ≤ K) {Φ : slPost} {σ : slM} {x1 : Int} {x2 : Int} {c s N : Nat} {Z : abZ} (hX : isX c s Z σ) (hZ : gdZ N Z) (i1 : InR x1) (i2 : InR x2) (h : cA c s Z σ Φ (abOk ((0 ≤ x1 ∧ x1 < Z.1 1 4) ∧ 0 ≤ x2 ∧ x2 < 240) (abFather Z.1 Z.2.1.1 x1 x2))) :
    slCall G mX11_father d K [sR 11 0, sI x1, sI x2] σ Φ := by
  refine vc_X11_father hG (by omega) hK (fun μ y3 y4 y5 y6 σ' => ((0 ≤ x1 ∧ x1 < Z.1 1 4) ∧ 0 ≤ x2 ∧ x2 < 240) ∧ cS c s Z σ σ' ∧ y3 = abNow Z.1 (abC Z.1 Z.2.1.1) (Z.2.1.1 0) (Z.2.1.1 1) x1 x2 ∧ μ = ((Z.1 1 3 - y6).toNat, 0, 0) ∧ (0 ≤ y6 ∧ y6 ≤ Z.1 1 3) ∧ (0 ≤ y5 ∧ y5 ≤ 99) ∧ (y4, y5) = abFat (fun l => abBit (abNow Z.1 (abC Z.1 Z.2.1.1) (Z.2.1.1 0) (Z.2.1.1 1) x1 x2) l = 1) (fun l => abFar (Z.1 1 0) (Z.2.1.1 1 x1) (abC Z.1 Z.2.1.1 x2 l)) y6.toNat) ?_ ?_
  · have a3 := hZ.c.2.2.2.1
    have a4 := hZ.c.2.2.2.2.1
    refine sp_X11_needShip hG (by omega) (by omega) hX hZ.c i1 (fun q1 => slKt.ok ?_) (fun q => slKt.ex (Or.inl rfl) (h.no (fun z => q z.1) cQ.id hX))
    refine sp_X11_needHour hG (by omega) (by omega) i2 (fun q2 => slKt.ok ?_) (fun q => slKt.ex (Or.inl rfl) (h.no (fun z => q z.2) cQ.id hX))
    refine sp_X11_settle hG (by omega) (by omega) hX hZ (fun τ f x t => slKt.ok ?_)
    refine sp_X3_sightsOf hG (by omega) (by omega) ⟨by omega, by omega⟩ q2 (slKt.ok ⟨_, ⟨q1, q2⟩, ⟨f, x, t⟩, t.2.2.2 x1 x2 q1.1 q1.2 q2.1 q2.2, rfl, ⟨by omega, by omega⟩, ⟨by omega, by omega⟩, rfl⟩)
  · have a3 := hZ.c.2.2.2.1
    have a4 := hZ.c.2.2.2.2.1
    rintro μ y3 y4 y5 y6 σ' ⟨⟨q1, q2⟩, m, rfl, rfl, hy, hy5, e⟩
    rw [m.2.1.e4, m.2.1.e5, m.2.1.cc.1, m.2.1.ss.2.1 x1 q1.1 q1.2]
    refine ⟨⟨⟨by omega, by omega⟩, by omega, by omega⟩, fun q => ?_, fun q => ⟨⟨by omega, by omega⟩, ?_⟩⟩
    · have k := h.yes ⟨q1, q2⟩ m.1 m.2.1
      unfold abFather at k
      rw [show Z.1 1 3 = y6 by omega, ← e] at k
      exact k
    · have g1 := (hZ.v.2.2.1 x1 q1.1 q1.2).1
      have g2 := abC_cell hZ.v (h := x2) hy.1 (show y6 < Z.1 1 3 by omega)
      have r := abFar_r hZ.c g1 g2
      have v := abNow_r (C := abC Z.1 Z.2.1.1) (oil := Z.2.1.1 0) (mo := Z.2.1.1 1) (s := x1) (h := x2) hZ.c
      have b := abBit01 (abNow Z.1 (abC Z.1 Z.2.1.1) (Z.2.1.1 0) (Z.2.1.1 1) x1 x2) y6
      refine sp_X3_cellOf hG (by omega) (by omega) ⟨by omega, by omega⟩ q2 (slKt.ok ?_)
      rw [m.2.2.2.2.1 x2 y6 q2.1 q2.2 hy.1 (by omega)]
      have lt : slLt ((Z.1 1 3 - (y6 + 1)).toNat, 0, 0) ((Z.1 1 3 - y6).toNat, 0, 0) := Or.inl (by show (Z.1 1 3 - (y6 + 1)).toNat < (Z.1 1 3 - y6).toNat; omega)
      refine sp_X1_farBetween hG (by omega) (by omega) m.2.1.cc hZ.c g1 g2 (slKt.ok ?_)
      rw [sBit v.1 (by omega) hy.1 (by omega)]
      refine ⟨⟨by omega, by omega⟩, fun z => ⟨_, lt, ⟨q1, q2⟩, m, rfl, rfl, ⟨by omega, by omega⟩, hy5, ?_⟩, fun z => ⟨⟨⟨by omega, by omega⟩, by omega, by omega⟩, fun w => ⟨_, lt, ⟨q1, q2⟩, m, rfl, rfl, ⟨by omega, by omega⟩, hy5, ?_⟩, fun w => ⟨_, lt, ⟨q1, q2⟩, m, rfl, rfl, ⟨by omega, by omega⟩, ⟨by omega, by omega⟩, ?_⟩⟩⟩
      · rw [abFat_s hy.1, ← e, abIte_f (fun u => z u.1)]
      · rw [abFat_s hy.1, ← e, abIte_f (fun u => by have : abFar (Z.1 1 0) (Z.2.1.1 1 x1) (abC Z.1 Z.2.1.1 x2 y6) < y5 := u.2; omega)]
      · rw [abFat_s hy.1, ← e, abIte_t ⟨z, by show abFar (Z.1 1 0) (Z.2.1.1 1 x1) (abC Z.1 Z.2.1.1 x2 y6) < y5; omega⟩]
set_option maxHeartbeats 1000000 in
set_option maxRecDepth 4000 in
theorem sp_X12_father {G : slG} (hG : slGood G) {d K : Nat} (hd : 50 ≤ d) (hK : 0 ≤ K) {Φ : slPost} {σ : slM} {x1 : Int} {x2 : Int} {N : Nat} {Z : abZ} (hY : isY Z σ) (hZ : gdZ N Z) (i1 : InR x1) (i2 : InR x2) (h : mA Z σ Φ (abOk ((0 ≤ x1 ∧ x1 < Z.1 1 4) ∧ 0 ≤ x2 ∧ x2 < 240) (abFather Z.1 Z.2.1.1 x1 x2))) :
    slCall G mX12_father d K [sR 12 0, sI x1, sI x2] σ Φ := by
  refine vc_X12_father hG (by omega) hK (fun μ y3 y4 y5 y6 σ' => ((0 ≤ x1 ∧ x1 < Z.1 1 4) ∧ 0 ≤ x2 ∧ x2 < 240) ∧ mS Z σ σ' ∧ y3 = abNow Z.1 (abC Z.1 Z.2.1.1) (Z.2.1.1 0) (Z.2.1.1 1) x1 x2 ∧ μ = ((Z.1 1 3 - y6).toNat, 0, 0) ∧ (0 ≤ y6 ∧ y6 ≤ Z.1 1 3) ∧ (0 ≤ y5 ∧ y5 ≤ 99) ∧ (-1 ≤ y4 ∧ y4 < 5) ∧ (y4, if y4 = -1 then 99 else y5) = abFat (fun l => abBit (abNow Z.1 (abC Z.1 Z.2.1.1) (Z.2.1.1 0) (Z.2.1.1 1) x1 x2) l = 1) (fun l => abFar (Z.1 1 0) (Z.2.1.1 1 x1) (abC Z.1 Z.2.1.1 x2 l)) y6.toNat) ?_ ?_
  · have a3 := hZ.c.2.2.2.1
    have y0 := hY.z
    refine sp_X12_isShip hG (by omega) (by omega) y0.1 hZ.c i1 (slU_same _ _ _ _ _) (fun q1 => slKt.ok ⟨in1, fun z => absurd z (by decide), fun _ => ?_⟩) (fun q => slKt.ok ⟨in0, fun _ => h.no (fun z => q z.1) mQ.id.t0 y0, fun z => absurd rfl z⟩)
    refine sp_X12_isHour hG (by omega) (by omega) i2 (slU_same _ _ _ _ _) (fun q2 => slKt.ok ⟨in1, fun _ => ?_, fun z => absurd z (by decide)⟩) (fun q => slKt.ok ⟨in0, fun z => absurd rfl z, fun _ => h.no (fun z => q z.2) mQ.id.t0 y0⟩)
    refine ms_now hG (by omega) y0 hZ mQ.id.t0 (slU_same _ _ _ _ _) (fun τ m => slKt.ok ?_)
    refine sp_X12_seenNow hG (by omega) (by omega) m.2.1.1 hZ.c m.2.2.2 hZ.v.k m.2.1.mo hZ.v.2.2.1 q1 q2 (slKt.ok ⟨_, ⟨q1, q2⟩, m, rfl, rfl, ⟨by omega, by omega⟩, ⟨by omega, by omega⟩, ⟨by omega, by omega⟩, rfl⟩)
  · have a3 := hZ.c.2.2.2.1
    have a4 := hZ.c.2.2.2.2.1
    rintro μ y3 y4 y5 y6 σ' ⟨⟨q1, q2⟩, m, rfl, rfl, hy, hy5, hy4, e⟩
    rw [m.2.1.1.1.2.2.2.1]
    refine ⟨⟨⟨by omega, by omega⟩, by omega, by omega⟩, fun q => ?_, fun q => ⟨⟨by omega, by omega⟩, ⟨by omega, by omega⟩, ?_⟩⟩
    · have k := h.yes ⟨q1, q2⟩ m.1 m.2.1 m.2.2.1
      unfold abFather at k
      rw [show Z.1 1 3 = y6 by omega, ← e] at k
      exact k
    · have g1 := (hZ.v.2.2.1 x1 q1.1 q1.2).1
      have g2 := abC_cell hZ.v (h := x2) hy.1 (show y6 < Z.1 1 3 by omega)
      have r := abFar_r hZ.c g1 g2
      have v := abNow_r (C := abC Z.1 Z.2.1.1) (oil := Z.2.1.1 0) (mo := Z.2.1.1 1) (s := x1) (h := x2) hZ.c
      have b := abBit01 (abNow Z.1 (abC Z.1 Z.2.1.1) (Z.2.1.1 0) (Z.2.1.1 1) x1 x2) y6
      rw [(m.2.2.2 x2 y6 q2.1 q2.2 hy.1 (by omega)).1, m.2.1.mo x1 q1.1 q1.2]
      have lt : slLt ((Z.1 1 3 - (y6 + 1)).toNat, 0, 0) ((Z.1 1 3 - y6).toNat, 0, 0) := Or.inl (by show (Z.1 1 3 - (y6 + 1)).toNat < (Z.1 1 3 - y6).toNat; omega)
      refine sp_X12_farOf hG (by omega) (by omega) m.2.1.1 hZ.c g2 g1 (slKt.ok ?_)
      rw [sBit v.1 (by omega) hy.1 (by omega), abFar_c (a := abC Z.1 Z.2.1.1 x2 y6)]
      refine ⟨⟨by omega, by omega⟩, fun z => ⟨_, lt, ⟨q1, q2⟩, m, rfl, rfl, ⟨by omega, by omega⟩, hy5, hy4, ?_⟩, fun z => ⟨⟨by omega, by omega⟩, fun w => ⟨_, lt, ⟨q1, q2⟩, m, rfl, rfl, ⟨by omega, by omega⟩, ⟨by omega, by omega⟩, ⟨by omega, by omega⟩, ?_⟩, fun w => ⟨⟨⟨by omega, by omega⟩, by omega, by omega⟩, fun w2 => ⟨_, lt, ⟨q1, q2⟩, m, rfl, rfl, ⟨by omega, by omega⟩, ⟨by omega, by omega⟩, ⟨by omega, by omega⟩, ?_⟩, fun w2 => ⟨_, lt, ⟨q1, q2⟩, m, rfl, rfl, ⟨by omega, by omega⟩, hy5, hy4, ?_⟩⟩⟩⟩
      · rw [abFat_s hy.1, ← e, abIte_f (fun u => by have := u.1; omega)]
      · rw [abFat_s hy.1, ← e, abIte_t ⟨by omega, by show abFar (Z.1 1 0) (Z.2.1.1 1 x1) (abC Z.1 Z.2.1.1 x2 y6) < (if y4 = -1 then 99 else y5); rw [if_pos w]; omega⟩, if_neg (by omega)]
      · rw [abFat_s hy.1, ← e, abIte_t ⟨by omega, by show abFar (Z.1 1 0) (Z.2.1.1 1 x1) (abC Z.1 Z.2.1.1 x2 y6) < (if y4 = -1 then 99 else y5); rw [if_neg w]; omega⟩, if_neg (by omega)]
      · rw [abFat_s hy.1, ← e, abIte_f (fun u => by have u2 : abFar (Z.1 1 0) (Z.2.1.1 1 x1) (abC Z.1 Z.2.1.1 x2 y6) < (if y4 = -1 then 99 else y5) := u.2; rw [if_neg w] at u2; omega)]
noncomputable def abJrn (Z : abZ) (l w : Int) : Int := if w = 0 then abSum (fun k => abIf (¬ abC Z.1 Z.2.1.1 k l = abC Z.1 Z.2.1.1 (k + 1) l) 1 0) 239 else if w = 1 then abSum (fun k => abIf (abC Z.1 Z.2.1.1 k l = abC Z.1 Z.2.1.1 (k + 1) l ∧ ¬ abWay Z.1 l k = 4) 1 0) 239 else abShw Z l
theorem gc_in {P : abP} {a : Int} (hC : gdC P) (h : gc P a) : InR a := by
  have := h.dv hC
  exact ⟨by omega, by omega⟩
set_option maxHeartbeats 1000000 in
set_option maxRecDepth 4000 in
theorem sp_X11_journey {G : slG} (hG : slGood G) {d K : Nat} (hd : 50 ≤ d) (hK : 2 ≤ K) {Φ : slPost} {σ : slM} {x1 : Int} {x2 : Int} {c s N : Nat} {Z : abZ} (hX : isX c s Z σ) (hZ : gdZ N Z) (i1 : InR x1) (i2 : InR x2) (h : cA c s Z σ Φ (abOk ((0 ≤ x1 ∧ x1 < Z.1 1 3) ∧ 0 ≤ x2 ∧ x2 < 3) (abJrn Z x1 x2))) :
    slCall G mX11_journey d K [sR 11 0, sI x1, sI x2] σ Φ := by
  refine vc_X11_journey hG (by omega) hK  ?_
  have a3 := hZ.c.2.2.2.1
  refine sp_X11_needLight hG (by omega) (by omega) hX hZ.c i1 (fun q1 => slKt.ok ?_) (fun q => slKt.ex (Or.inl rfl) (h.no (fun z => q z.1) cQ.id hX))
  refine sp_X11_needWhat hG (by omega) (by omega) i2 ⟨by decide, by decide⟩ (fun q2 => slKt.ok ?_) (fun q => slKt.ex (Or.inl rfl) (h.no (fun z => q z.2) cQ.id hX))
  refine sp_X11_settle hG (by omega) (by omega) hX hZ (fun τ f x t => slKt.ok ?_)
  have k := h.yes ⟨q1, q2⟩ f x
  unfold abJrn at k
  rw [x.e4, x.cc.1]
  have cc : ∀ y : Int, 0 ≤ y → y < 240 → τ 35 0 (x1 * 240 + y).toNat = abC Z.1 Z.2.1.1 y x1 ∧ InR (abC Z.1 Z.2.1.1 y x1) := fun y a b => ⟨t.2.2.1 y x1 a b q1.1 q1.2, gc_in hZ.c (abC_cell hZ.v q1.1 q1.2)⟩
  refine ⟨i2, fun e0 => ⟨i2, fun e1 => ?_, fun e1 => ?_⟩, fun e0 => ?_⟩
  · rw [if_neg e0, if_neg e1] at k
    exact cs_shw hG (by omega) hZ ⟨f, x, t⟩ q1 (slKt.ok k)
  · rw [if_neg e0, if_pos e1] at k
    refine sp_X3_stuckOf hG (by omega) (by omega) (C := fun y => abC Z.1 Z.2.1.1 y x1) x.cc hZ.c q1 cc (slKt.ok k)
  · rw [if_pos e0] at k
    refine sp_X3_travelsOf hG (by omega) (by omega) (C := fun y => abC Z.1 Z.2.1.1 y x1) ⟨by omega, by omega⟩ cc (slKt.ok k)
set_option maxHeartbeats 1000000 in
set_option maxRecDepth 4000 in
theorem sp_X12_journey {G : slG} (hG : slGood G) {d K : Nat} (hd : 50 ≤ d) (hK : 0 ≤ K) {Φ : slPost} {σ : slM} {x1 : Int} {x2 : Int} {N : Nat} {Z : abZ} (hY : isY Z σ) (hZ : gdZ N Z) (i1 : InR x1) (i2 : InR x2) (h : mA Z σ Φ (abOk ((0 ≤ x1 ∧ x1 < Z.1 1 3) ∧ 0 ≤ x2 ∧ x2 < 3) (abJrn Z x1 x2))) :
    slCall G mX12_journey d K [sR 12 0, sI x1, sI x2] σ Φ := by
  refine vc_X12_journey hG (by omega) hK (fun μ y3 y4 σ' => ((0 ≤ x1 ∧ x1 < Z.1 1 3) ∧ 0 ≤ x2 ∧ x2 < 3) ∧ ¬ x2 = 2 ∧ mS Z σ σ' ∧ μ = ((239 - y4).toNat, 0, 0) ∧ (0 ≤ y4 ∧ y4 ≤ 239) ∧ (x2 = 0 → y3 = abSum (fun k => abIf (¬ abC Z.1 Z.2.1.1 k x1 = abC Z.1 Z.2.1.1 (k + 1) x1) 1 0) y4.toNat) ∧ (x2 = 1 → y3 = abSum (fun k => abIf (abC Z.1 Z.2.1.1 k x1 = abC Z.1 Z.2.1.1 (k + 1) x1 ∧ ¬ abWay Z.1 x1 k = 4) 1 0) y4.toNat)) ?_ ?_
  · have y0 := hY.z
    refine sp_X12_isLight hG (by omega) (by omega) y0.1 hZ.c i1 (slU_same _ _ _ _ _) (fun q1 => slKt.ok ⟨in1, fun z => absurd z (by decide), fun _ => ?_⟩) (fun q => slKt.ok ⟨in0, fun _ => h.no (fun z => q z.1) mQ.id.t0 y0, fun z => absurd rfl z⟩)
    refine sp_X12_isWhat hG (by omega) (by omega) i2 ⟨by decide, by decide⟩ (slU_same _ _ _ _ _) (fun q2 => slKt.ok ⟨in1, fun _ => ?_, fun z => absurd z (by decide)⟩) (fun q => slKt.ok ⟨in0, fun z => absurd rfl z, fun _ => h.no (fun z => q z.2) mQ.id.t0 y0⟩)
    refine ms_now hG (by omega) y0 hZ mQ.id.t0 (slU_same _ _ _ _ _) (fun τ m => slKt.ok ⟨i2, fun e => ⟨_, ⟨q1, q2⟩, e, m, rfl, ⟨by omega, by omega⟩, fun _ => rfl, fun _ => rfl⟩, fun e => ?_⟩)
    have k := h.yes ⟨q1, q2⟩ m.1 m.2.1 m.2.2.1
    unfold abJrn at k
    rw [if_neg (by omega), if_neg (by omega)] at k
    exact ms_shw hG (by omega) hZ m q1 (slKt.ok k)
  · have a3 := hZ.c.2.2.2.1
    rintro μ y3 y4 σ' ⟨⟨q1, q2⟩, n2, m, rfl, hy, e0, e1⟩
    refine ⟨⟨by omega, by omega⟩, fun q => ?_, fun q => ⟨⟨by omega, by omega⟩, ⟨by omega, by omega⟩, ?_⟩⟩
    · have k := h.yes ⟨q1, q2⟩ m.1 m.2.1 m.2.2.1
      unfold abJrn at k
      by_cases z : x2 = 0
      · rw [if_pos z] at k
        rw [e0 z, show y4.toNat = 239 by omega]
        exact k
      · rw [if_neg z, if_pos (by omega)] at k
        rw [e1 (by omega), show y4.toNat = 239 by omega]
        exact k
    · have s1 := (m.2.2.2 y4 x1 hy.1 (by omega) q1.1 q1.2).1
      have s2 := (m.2.2.2 (y4 + 1) x1 (by omega) (by omega) q1.1 q1.2).1
      rw [show 240 * x1 + (y4 + 1) = 240 * x1 + y4 + 1 by omega] at s2
      have g1 := gc_in hZ.c (abC_cell hZ.v (h := y4) q1.1 q1.2)
      have g2 := gc_in hZ.c (abC_cell hZ.v (h := y4 + 1) q1.1 q1.2)
      have mm := m.2.1.1.2.2.1 x1 q1.1 q1.2
      have g := hZ.c.2.2.2.2.2.2.2.2.1 x1 q1.1 q1.2
      have md := ab_mod (a := y4) (b := Z.1 28 x1.toNat) (by omega)
      have wy : σ' 65 0 (12 * x1 + sRem y4 (Z.1 28 x1.toNat)).toNat = abWay Z.1 x1 y4 := by
        rw [sRem_eq hy.1 (by omega) (by omega) (by omega), mm.2.2.2.2.1 _ md.1 md.2]
        rfl
      have wr' := abWay_r (h := y4) hZ.c q1
      have lt : slLt ((239 - (y4 + 1)).toNat, 0, 0) ((239 - y4).toNat, 0, 0) := Or.inl (by show (239 - (y4 + 1)).toNat < (239 - y4).toNat; omega)
      rw [s1, s2, mm.2.2.1, wy, sRem_eq hy.1 (by omega) (by omega) (by omega)]
      refine ⟨⟨g1, g2⟩, i2, fun z => ⟨by split <;> exact ⟨by decide, by decide⟩, fun w => ?_, fun w => ⟨⟨by omega, by omega⟩, ⟨⟨by omega, by omega⟩, by omega⟩, ⟨by omega, by omega⟩, ⟨by omega, by omega⟩, ?_⟩⟩, fun z => ⟨by split <;> exact ⟨by decide, by decide⟩, ?_⟩⟩
      · have ne : ¬ abC Z.1 Z.2.1.1 y4 x1 = abC Z.1 Z.2.1.1 (y4 + 1) x1 := fun e => w (if_pos e)
        refine ⟨_, lt, ⟨q1, q2⟩, n2, m, rfl, ⟨by omega, by omega⟩, fun e => absurd e z, fun e => ?_⟩
        rw [abSum_s hy.1, ← e1 e, abIf_f (fun u => ne u.1)]
      · have eq : abC Z.1 Z.2.1.1 y4 x1 = abC Z.1 Z.2.1.1 (y4 + 1) x1 := by
          by_cases u : abC Z.1 Z.2.1.1 y4 x1 = abC Z.1 Z.2.1.1 (y4 + 1) x1
          · exact u
          · rw [if_neg u] at w; exact absurd w (by decide)
        refine ⟨_, lt, ⟨q1, q2⟩, n2, m, rfl, ⟨by omega, by omega⟩, fun e => absurd e z, fun e => ?_⟩
        rw [abSum_s hy.1, ← e1 e]
        by_cases u : abWay Z.1 x1 y4 = 4
        · rw [if_pos u, abIf_f (fun v => v.2 u)]
        · rw [if_neg u, abIf_t ⟨eq, u⟩]
      · refine ⟨_, lt, ⟨q1, q2⟩, n2, m, rfl, ⟨by omega, by omega⟩, fun e => ?_, fun e => by omega⟩
        rw [abSum_s hy.1, ← e0 e]
        by_cases u : abC Z.1 Z.2.1.1 y4 x1 = abC Z.1 Z.2.1.1 (y4 + 1) x1
        · rw [if_pos u, if_pos rfl, abIf_f (fun v => v u)]
        · rw [if_neg u, if_neg (by decide), abIf_t u]
noncomputable def abAln (Z : abZ) (n : Int) : Int := abSum (fun s => abIf (abPop (abOrs (fun k => abNow Z.1 (abC Z.1 Z.2.1.1) (Z.2.1.1 0) (Z.2.1.1 1) s (24 * n + k)) 24) = 1) 1 0) (Z.1 1 4).toNat
set_option maxHeartbeats 1000000 in
set_option maxRecDepth 4000 in
theorem sp_X11_alone {G : slG} (hG : slGood G) {d K : Nat} (hd : 50 ≤ d) (hK : 1 ≤ K) {Φ : slPost} {σ : slM} {x1 : Int} {c s N : Nat} {Z : abZ} (hX : isX c s Z σ) (hZ : gdZ N Z) (i1 : InR x1) (h : cA c s Z σ Φ (abOk (0 ≤ x1 ∧ x1 < 10) (abAln Z x1))) :
    slCall G mX11_alone d K [sR 11 0, sI x1] σ Φ := by
  refine vc_X11_alone hG (by omega) hK (fun μ y2 y3 σ' => (0 ≤ x1 ∧ x1 < 10) ∧ cS c s Z σ σ' ∧ μ = ((Z.1 1 4 - y3).toNat, 0, 0) ∧ (0 ≤ y3 ∧ y3 ≤ Z.1 1 4) ∧ y2 = abSum (fun s => abIf (abPop (abOrs (fun k => abNow Z.1 (abC Z.1 Z.2.1.1) (Z.2.1.1 0) (Z.2.1.1 1) s (24 * x1 + k)) 24) = 1) 1 0) y3.toNat) ?_ ?_
  · have a4 := hZ.c.2.2.2.2.1
    refine sp_X11_needNight hG (by omega) (by omega) i1 (fun q1 => slKt.ok ?_) (fun q => slKt.ex (Or.inl rfl) (h.no q cQ.id hX))
    refine sp_X11_settle hG (by omega) (by omega) hX hZ (fun τ f x t => slKt.ok ⟨_, q1, ⟨f, x, t⟩, rfl, ⟨by omega, by omega⟩, rfl⟩)
  · have a4 := hZ.c.2.2.2.2.1
    rintro μ y2 y3 σ' ⟨q1, m, rfl, hy, rfl⟩
    rw [m.2.1.e4, m.2.1.cc.1]
    refine ⟨⟨⟨by omega, by omega⟩, by omega, by omega⟩, fun q => ?_, fun q => ?_⟩
    · have k := h.yes q1 m.1 m.2.1
      unfold abAln at k
      rw [show Z.1 1 4 = y3 by omega] at k
      exact k
    · have lt : slLt ((Z.1 1 4 - (y3 + 1)).toNat, 0, 0) ((Z.1 1 4 - y3).toNat, 0, 0) := Or.inl (by show (Z.1 1 4 - (y3 + 1)).toNat < (Z.1 1 4 - y3).toNat; omega)
      refine sp_X3_lightsIn hG (by omega) (by omega) (W := abNow Z.1 (abC Z.1 Z.2.1.1) (Z.2.1.1 0) (Z.2.1.1 1) y3) ⟨by omega, by omega⟩ q1 (fun k a b => m.2.2.2.2.2 y3 k hy.1 (by omega) (by omega) (by omega)) (fun k a b => abNow_day (by omega)) (slKt.ok ?_)
      have r := (abOrs_r (f := fun k => abNow Z.1 (abC Z.1 Z.2.1.1) (Z.2.1.1 0) (Z.2.1.1 1) y3 (24 * x1 + k)) (n := 24) (fun k _ _ => abNow_r hZ.c)).1
      have p := abPop_r (x := abOrs (fun k => abNow Z.1 (abC Z.1 Z.2.1.1) (Z.2.1.1 0) (Z.2.1.1 1) y3 (24 * x1 + k)) 24)
      refine sp_J6_bitCount_0f7a4 hG (by omega) (by omega) ⟨by omega, by omega⟩ (slKt.ok ⟨⟨by omega, by omega⟩, fun z => ⟨_, lt, q1, m, rfl, ⟨by omega, by omega⟩, ?_⟩, fun z => ⟨_, lt, q1, m, rfl, ⟨by omega, by omega⟩, ?_⟩⟩)
      · rw [abSum_s hy.1, abIf_f z, Int.add_zero]
      · rw [abSum_s hy.1, abIf_t z]
set_option maxHeartbeats 1000000 in
set_option maxRecDepth 4000 in
theorem sp_X12_alone {G : slG} (hG : slGood G) {d K : Nat} (hd : 50 ≤ d) (hK : 0 ≤ K) {Φ : slPost} {σ : slM} {x1 : Int} {N : Nat} {Z : abZ} (hY : isY Z σ) (hZ : gdZ N Z) (i1 : InR x1) (h : mA Z σ Φ (abOk (0 ≤ x1 ∧ x1 < 10) (abAln Z x1))) :
    slCall G mX12_alone d K [sR 12 0, sI x1] σ Φ := by
  refine vc_X12_alone hG (by omega) hK (fun μ y2 y3 σ' => (0 ≤ x1 ∧ x1 < 10) ∧ mS Z σ σ' ∧ μ = ((Z.1 1 4 - y3).toNat, 100, 0) ∧ (0 ≤ y3 ∧ y3 ≤ Z.1 1 4) ∧ y2 = abSum (fun s => abIf (abPop (abOrs (fun k => abNow Z.1 (abC Z.1 Z.2.1.1) (Z.2.1.1 0) (Z.2.1.1 1) s (24 * x1 + k)) 24) = 1) 1 0) y3.toNat) (fun μ y2 y3 y4 y5 σ' => (0 ≤ x1 ∧ x1 < 10) ∧ mS Z σ σ' ∧ μ = ((Z.1 1 4 - y3).toNat, (24 * x1 + 24 - y5).toNat, 0) ∧ (0 ≤ y3 ∧ y3 < Z.1 1 4) ∧ (24 * x1 ≤ y5 ∧ y5 ≤ 24 * x1 + 24) ∧ y2 = abSum (fun s => abIf (abPop (abOrs (fun k => abNow Z.1 (abC Z.1 Z.2.1.1) (Z.2.1.1 0) (Z.2.1.1 1) s (24 * x1 + k)) 24) = 1) 1 0) y3.toNat ∧ y4 = abOrs (fun k => abNow Z.1 (abC Z.1 Z.2.1.1) (Z.2.1.1 0) (Z.2.1.1 1) y3 (24 * x1 + k)) (y5 - 24 * x1).toNat) ?_ ?_ ?_
  · have a4 := hZ.c.2.2.2.2.1
    have y0 := hY.z
    refine sp_X12_isNight hG (by omega) (by omega) i1 (slU_same _ _ _ _ _) (fun q1 => slKt.ok ⟨in1, fun _ => ?_, fun z => absurd z (by decide)⟩) (fun q => slKt.ok ⟨in0, fun z => absurd rfl z, fun _ => h.no q mQ.id.t0 y0⟩)
    refine ms_now hG (by omega) y0 hZ mQ.id.t0 (slU_same _ _ _ _ _) (fun τ m => slKt.ok ⟨_, q1, m, rfl, ⟨by omega, by omega⟩, rfl⟩)
  · have a4 := hZ.c.2.2.2.2.1
    rintro μ y2 y3 σ' ⟨q1, m, rfl, hy, rfl⟩
    rw [m.2.1.1.1.2.2.2.2.1]
    refine ⟨⟨⟨by omega, by omega⟩, by omega, by omega⟩, fun q => ?_, fun q => ⟨((Z.1 1 4 - y3).toNat, (24 * x1 + 24 - 24 * x1).toNat, 0), Or.inr ⟨rfl, Or.inl (by show (24 * x1 + 24 - 24 * x1).toNat < 100; omega)⟩, q1, m, rfl, ⟨by omega, by omega⟩, ⟨by omega, by omega⟩, rfl, ?_⟩⟩
    · have k := h.yes q1 m.1 m.2.1 m.2.2.1
      unfold abAln at k
      rw [show Z.1 1 4 = y3 by omega] at k
      exact k
    · rw [show (24 * x1 - 24 * x1).toNat = 0 by omega]
      rfl
  · have a4 := hZ.c.2.2.2.2.1
    rintro μ y2 y3 y4 y5 σ' ⟨q1, m, rfl, hy, hy5, rfl, rfl⟩
    have r := (abOrs_r (f := fun k => abNow Z.1 (abC Z.1 Z.2.1.1) (Z.2.1.1 0) (Z.2.1.1 1) y3 (24 * x1 + k)) (n := (y5 - 24 * x1).toNat) (fun k _ _ => abNow_r hZ.c)).1
    have p := abPop_r (x := abOrs (fun k => abNow Z.1 (abC Z.1 Z.2.1.1) (Z.2.1.1 0) (Z.2.1.1 1) y3 (24 * x1 + k)) (y5 - 24 * x1).toNat)
    refine ⟨⟨⟨by omega, by omega⟩, by omega, by omega⟩, fun q => ?_, fun q => ?_⟩
    · refine sp_X12_bits hG (by omega) (by omega) ⟨by omega, by omega⟩ (slKt.ok ⟨⟨by omega, by omega⟩, ((Z.1 1 4 - (y3 + 1)).toNat, 100, 0), Or.inl (by show (Z.1 1 4 - (y3 + 1)).toNat < (Z.1 1 4 - y3).toNat; omega), q1, m, rfl, ⟨by omega, by omega⟩, ?_⟩)
      rw [abSum_s hy.1, show (y5 - 24 * x1).toNat = 24 by omega]
      by_cases z : abPop (abOrs (fun k => abNow Z.1 (abC Z.1 Z.2.1.1) (Z.2.1.1 0) (Z.2.1.1 1) y3 (24 * x1 + k)) 24) = 1
      · rw [abIf_t z, if_neg (fun w => w z)]
      · rw [abIf_f z, if_pos z]
    · refine sp_X12_seenNow hG (by omega) (by omega) m.2.1.1 hZ.c m.2.2.2 hZ.v.k m.2.1.mo hZ.v.2.2.1 ⟨by omega, by omega⟩ ⟨by omega, by omega⟩ (slKt.ok ⟨((Z.1 1 4 - y3).toNat, (24 * x1 + 24 - (y5 + 1)).toNat, 0), Or.inr ⟨rfl, Or.inl (by show (24 * x1 + 24 - (y5 + 1)).toNat < (24 * x1 + 24 - y5).toNat; omega)⟩, q1, m, rfl, hy, ⟨by omega, by omega⟩, rfl, ?_⟩)
      rw [show y5 + 1 - 24 * x1 = (y5 - 24 * x1) + 1 by omega, abOrs_s (by omega), show 24 * x1 + (y5 - 24 * x1) = y5 by omega]
