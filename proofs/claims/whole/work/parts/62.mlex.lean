/-! ===== the model's tokens ===== -/
def lxWd (X : abX) (q : Int) : Nat → Int
  | 0 => 0
  | j + 1 => lxWd X q j * 32 + (X.1 (q + j).toNat - 96)
theorem lxWd_r {X : abX} {q : Int} : ∀ {j : Nat}, j ≤ 6 → (∀ k : Nat, k < j → 97 ≤ X.1 (q + k).toNat ∧ X.1 (q + k).toNat ≤ 122) → 0 ≤ lxWd X q j ∧ lxWd X q j < 32 ^ j
  | 0, _, _ => ⟨Int.le_refl _, by show (0 : Int) < 32 ^ 0; decide⟩
  | j + 1, h, hd => by
    have ih := lxWd_r (X := X) (q := q) (j := j) (by omega) (fun k hk => hd k (by omega))
    have d := hd j (by omega)
    show 0 ≤ lxWd X q j * 32 + (X.1 (q + j).toNat - 96) ∧ lxWd X q j * 32 + (X.1 (q + j).toNat - 96) < 32 ^ (j + 1)
    rw [Int.pow_succ]
    omega
def mSo (k : Int) : Int := if k = 0 then 0 else if k = 2 then 1 else if k = 3 then 2 else if k = 1 then 4 else 3
def isTn (X : abX) (σ : slM) : Prop := σ 12 0 24 = X.2 ∧ ∀ k : Nat, (k : Int) < X.2 → σ 72 0 k = X.1 k
def isTm (X : abX) (p : Int) (σ : slM) : Prop := isTn X σ ∧ σ 12 0 25 = lxE X p ∧ σ 12 0 26 = mSo (lxK X p) ∧ σ 12 0 27 = lxB X p ∧ σ 12 0 28 = lxE X p - lxB X p ∧ (lxK X p = 3 → σ 12 0 29 = lxV X (lxB X p) (min (lxE X p - lxB X p).toNat 4)) ∧ (40 ≤ lxK X p → σ 12 0 30 = lxK X p) ∧ (lxK X p = 2 → σ 12 0 31 = lxWd X (lxB X p) (min (lxE X p - lxB X p).toNat 6))
def mTF (σ τ : slM) : Prop := mFr [] [25, 26, 27, 28, 29, 30, 31] σ τ
theorem isTn.up {X : abX} {σ : slM} {k : Nat} {v : Int} (h : isTn X σ) (hk : k ≠ 24) : isTn X (slU σ 12 0 k v) := ⟨by rw [slU_ne (fun z => hk z.symm)]; exact h.1, fun j hj => by rw [slU_else (by decide)]; exact h.2 j hj⟩
theorem isTm.c {X : abX} {p : Int} {σ τ : slM} (h : isTm X p σ) (q : ∀ k, 24 ≤ k → k ≤ 31 → τ 12 0 k = σ 12 0 k) (e72 : τ 72 0 = σ 72 0) : isTm X p τ := by
  unfold isTm isTn
  rw [q 24 (by omega) (by omega), q 25 (by omega) (by omega), q 26 (by omega) (by omega), q 27 (by omega) (by omega), q 28 (by omega) (by omega), q 29 (by omega) (by omega), q 30 (by omega) (by omega), q 31 (by omega) (by omega), e72]
  exact h
set_option maxHeartbeats 1000000 in
set_option maxRecDepth 4000 in
theorem sp_X12_isLetter {G : slG} (hG : slGood G) {d K : Nat} (hd : 0 ≤ d) (hK : 0 ≤ K) {Φ : slPost} {σ : slM} {x0 : Int} (hx : InR x0) (h1 : isLe x0 = true → Φ (0, 1) σ) (h0 : ¬ isLe x0 = true → Φ (0, 0) σ) :
    slCall G mX12_isLetter d K [sI x0] σ Φ := by
  refine vc_X12_isLetter hG (by omega) hK  ?_
  exact ⟨hx, fun q => h0 (fun z => by have := isLe_i.mp z; omega), fun q => ⟨hx, fun q2 => h0 (fun z => by have := isLe_i.mp z; omega), fun q2 => h1 (isLe_i.mpr ⟨by omega, by omega⟩)⟩⟩
set_option maxHeartbeats 1000000 in
set_option maxRecDepth 4000 in
theorem sp_X12_isDigit {G : slG} (hG : slGood G) {d K : Nat} (hd : 0 ≤ d) (hK : 0 ≤ K) {Φ : slPost} {σ : slM} {x0 : Int} (hx : InR x0) (h1 : isDg x0 = true → Φ (0, 1) σ) (h0 : ¬ isDg x0 = true → Φ (0, 0) σ) :
    slCall G mX12_isDigit d K [sI x0] σ Φ := by
  refine vc_X12_isDigit hG (by omega) hK  ?_
  exact ⟨hx, fun q => h0 (fun z => by have := isDg_i.mp z; omega), fun q => ⟨hx, fun q2 => h0 (fun z => by have := isDg_i.mp z; omega), fun q2 => h1 (isDg_i.mpr ⟨by omega, by omega⟩)⟩⟩
set_option maxHeartbeats 1000000 in
set_option maxRecDepth 4000 in
theorem sp_X12_byteAt {G : slG} (hG : slGood G) {d K : Nat} (hd : 0 ≤ d) (hK : 0 ≤ K) {Φ : slPost} {σ : slM} {x1 : Int} {X : abX} (hX : gdX X) (T : isTn X σ) (h1 : 0 ≤ x1 ∧ x1 ≤ 1400) (hy : x1 < X.2 → Φ (0, X.1 x1.toNat) σ) (hn : ¬ x1 < X.2 → Φ (0, 0) σ) :
    slCall G mX12_byteAt d K [sR 12 0, sI x1] σ Φ := by
  refine vc_X12_byteAt hG (by omega) hK  ?_
  have hx := hX.1
  rw [T.1]
  refine ⟨⟨⟨by omega, by omega⟩, by omega, by omega⟩, fun q => hn (by omega), fun q => ⟨⟨by omega, by omega⟩, ?_⟩⟩
  rw [T.2 x1.toNat (by omega)]
  exact hy (by omega)
theorem lor5 (w x : Nat) (hw : w < 2 ^ 30) (hx : x < 32) : sLor (sLshl ((w : Nat) : Int) 5) ((x : Nat) : Int) = (w : Int) * 32 + (x : Int) := by
  have e1 : sLshl ((w : Nat) : Int) 5 = (w : Int) * 32 := by
    unfold sLshl
    have e : (Int32.ofInt 5).toInt64 &&& 63 = 5 := by decide
    rw [e]
    have : (Int64.ofInt ((w : Nat) : Int) <<< (5 : Int64)) = Int64.ofInt ((w : Int) * 32) := by
      apply Int64.toBitVec_inj.mp
      show (BitVec.ofInt 64 (w : Int)) <<< (BitVec.smod (5#64) 64#64) = BitVec.ofInt 64 ((w : Int) * 32)
      have e5 : BitVec.smod (5#64) 64#64 = 5#64 := by decide
      rw [e5]
      apply BitVec.eq_of_toNat_eq
      rw [BitVec.shiftLeft_eq', BitVec.toNat_shiftLeft]
      show ((BitVec.ofInt 64 (w : Int)).toNat <<< 5) % 2 ^ 64 = (BitVec.ofInt 64 ((w : Int) * 32)).toNat
      have t1 : (BitVec.ofInt 64 (w : Int)).toNat = w := by
        rw [BitVec.toNat_ofInt]
        omega
      have t2 : (BitVec.ofInt 64 ((w : Int) * 32)).toNat = w * 32 := by
        rw [BitVec.toNat_ofInt]
        omega
      rw [t1, t2, Nat.shiftLeft_eq]
      omega
    rw [this]
    exact i64_to ⟨by omega, by omega⟩
  rw [e1]
  unfold sLor
  have : (Int64.ofInt ((w : Int) * 32) ||| Int64.ofInt ((x : Nat) : Int)) = Int64.ofInt ((w : Int) * 32 + (x : Int)) := by
    apply Int64.toBitVec_inj.mp
    show BitVec.ofInt 64 ((w : Int) * 32) ||| BitVec.ofInt 64 (x : Int) = BitVec.ofInt 64 ((w : Int) * 32 + (x : Int))
    apply BitVec.eq_of_toNat_eq
    rw [BitVec.toNat_or]
    have t2 : (BitVec.ofInt 64 ((w : Int) * 32)).toNat = w * 32 := by
      rw [BitVec.toNat_ofInt]
      omega
    have t3 : (BitVec.ofInt 64 (x : Int)).toNat = x := by
      rw [BitVec.toNat_ofInt]
      omega
    have t4 : (BitVec.ofInt 64 ((w : Int) * 32 + (x : Int))).toNat = w * 32 + x := by
      rw [BitVec.toNat_ofInt]
      omega
    rw [t2, t3, t4, show w * 32 = w <<< 5 from (Nat.shiftLeft_eq w 5).symm]
    exact (Nat.shiftLeft_add_eq_or_of_lt (i := 5) hx w).symm
  rw [this]
  exact i64_to ⟨by omega, by omega⟩
theorem lor5i {w x : Int} (hw : 0 ≤ w ∧ w < 32 ^ 6) (hx : 0 ≤ x ∧ x < 32) : sLor (sLshl w 5) x = w * 32 + x := by
  obtain ⟨a, rfl⟩ := Int.eq_ofNat_of_zero_le hw.1
  obtain ⟨b, rfl⟩ := Int.eq_ofNat_of_zero_le hx.1
  exact lor5 a b (by have := hw.2; have e : (32 : Int) ^ 6 = 1073741824 := by decide
                     omega) (by omega)
set_option maxHeartbeats 16000000 in
set_option maxRecDepth 4000 in
theorem sp_X12_goes {G : slG} (hG : slGood G) {d K : Nat} (hd : 8 ≤ d) (hK : 0 ≤ K) {Φ : slPost} {σ : slM}  {X : abX} {p : Int} (hX : gdX X) (T0 : isTn X σ) (hp : 0 ≤ p ∧ p ≤ X.2) (e3 : σ 12 0 25 = p) (h : ∀ τ, mTF σ τ → isTm X p τ → Φ (0, 0) τ) :
    slCall G mX12_goes d K [sR 12 0] σ Φ := by
  refine vc_X12_goes hG (by omega) hK (fun μ σ' => mTF σ σ' ∧ isTn X σ' ∧ (p ≤ σ' 12 0 25 ∧ σ' 12 0 25 ≤ X.2) ∧ lxR isBl X (σ' 12 0 25) = lxB X p ∧ μ = (1, (X.2 - σ' 12 0 25).toNat, 0)) (fun μ y1 σ' => mTF σ σ' ∧ isTn X σ' ∧ lxK X p = 2 ∧ σ' 12 0 27 = lxB X p ∧ (lxB X p ≤ σ' 12 0 25 ∧ σ' 12 0 25 ≤ X.2) ∧ (∀ k : Int, lxB X p ≤ k → k < σ' 12 0 25 → isLe (X.1 k.toNat) = true) ∧ lxR isLe X (σ' 12 0 25) = lxE X p ∧ σ' 12 0 31 = lxWd X (lxB X p) (min (σ' 12 0 25 - lxB X p).toNat 6) ∧ μ = (0, (X.2 - σ' 12 0 25).toNat, 0)) (fun μ y1 σ' => mTF σ σ' ∧ isTn X σ' ∧ lxK X p = 3 ∧ σ' 12 0 27 = lxB X p ∧ (lxB X p ≤ σ' 12 0 25 ∧ σ' 12 0 25 ≤ X.2) ∧ lxR isDg X (σ' 12 0 25) = lxE X p ∧ σ' 12 0 29 = lxV X (lxB X p) (min (σ' 12 0 25 - lxB X p).toNat 4) ∧ μ = (0, (X.2 - σ' 12 0 25).toNat, 0)) ?_ ?_ ?_ ?_
  · exact ⟨_, mFr.id, T0, by rw [e3]; exact ⟨Int.le_refl _, hp.2⟩, by rw [e3]; rfl, rfl⟩
  · rintro μ σ' ⟨fr, T, r2, e, rfl⟩
    have hx := hX.1
    have bR := lxB_r (X := X) hp.2
    suffices blk : lxB X p = σ' 12 0 25 → _ from ⟨⟨⟨by omega, by omega⟩, by rw [T.1]; exact ⟨by omega, by omega⟩⟩, fun z => blk (by rw [← e]; exact lxR_n (fun w => by rw [T.1] at z; omega)), fun z => by
      rw [T.1] at z
      have b := hX.2 (σ' 12 0 25).toNat
      have up : isBl (X.1 (σ' 12 0 25).toNat) = true → ∃ μ53, slLt μ53 (1, (X.2 - σ' 12 0 25).toNat, 0) ∧ mTF σ (slU σ' 12 0 25 (σ' 12 0 25 + 1)) ∧ isTn X (slU σ' 12 0 25 (σ' 12 0 25 + 1)) ∧ (p ≤ slU σ' 12 0 25 (σ' 12 0 25 + 1) 12 0 25 ∧ slU σ' 12 0 25 (σ' 12 0 25 + 1) 12 0 25 ≤ X.2) ∧ lxR isBl X (slU σ' 12 0 25 (σ' 12 0 25 + 1) 12 0 25) = lxB X p ∧ μ53 = (1, (X.2 - slU σ' 12 0 25 (σ' 12 0 25 + 1) 12 0 25).toNat, 0) := fun w => by
        rw [slU_same]
        exact ⟨(1, (X.2 - (σ' 12 0 25 + 1)).toNat, 0), Or.inr ⟨rfl, Or.inl (by show (X.2 - (σ' 12 0 25 + 1)).toNat < (X.2 - σ' 12 0 25).toNat; omega)⟩, mFr.up12 fr (by decide), T.up (by decide), ⟨by omega, by omega⟩, by rw [← lxR_y (by omega) w]; exact e, rfl⟩
      exact sp_X12_byteAt hG (by omega) (by omega) hX T ⟨by omega, by omega⟩ (fun _ => slKt.ok ⟨⟨by omega, by omega⟩, fun w => up (isBl_i.mpr (Or.inl w)), fun w => sp_X12_byteAt hG (by omega) (by omega) hX T ⟨by omega, by omega⟩ (fun _ => slKt.ok ⟨⟨by omega, by omega⟩, fun w2 => blk (by rw [← e]; exact lxR_n (fun u => (isBl_i.mp u.2).elim w w2)), fun w2 => up (isBl_i.mpr (Or.inr w2))⟩) (fun w => by omega)⟩) (fun w => by omega)⟩
    intro eB
    have F1 : mTF σ (slU (slU (slU σ' 12 0 27 (σ' 12 0 25)) 12 0 31 0) 12 0 29 0) := mFr.up12 (mFr.up12 (mFr.up12 fr (by decide)) (by decide)) (by decide)
    have T1 : isTn X (slU (slU (slU σ' 12 0 27 (σ' 12 0 25)) 12 0 31 0) 12 0 29 0) := ((T.up (by decide)).up (by decide)).up (by decide)
    have q25 : slU (slU (slU σ' 12 0 27 (σ' 12 0 25)) 12 0 31 0) 12 0 29 0 12 0 25 = σ' 12 0 25 := by rw [slU_ne (by decide), slU_ne (by decide), slU_ne (by decide)]
    have q27 : slU (slU (slU σ' 12 0 27 (σ' 12 0 25)) 12 0 31 0) 12 0 29 0 12 0 27 = lxB X p := by rw [slU_ne (by decide), slU_ne (by decide), slU_same, eB]
    have q31 : slU (slU (slU σ' 12 0 27 (σ' 12 0 25)) 12 0 31 0) 12 0 29 0 12 0 31 = 0 := by rw [slU_ne (by decide), slU_same]
    have q29 : slU (slU (slU σ' 12 0 27 (σ' 12 0 25)) 12 0 31 0) 12 0 29 0 12 0 29 = 0 := slU_same _ _ _ _ _
    generalize slU (slU (slU σ' 12 0 27 (σ' 12 0 25)) 12 0 31 0) 12 0 29 0 = σ1 at F1 T1 q25 q27 q31 q29 ⊢
    rw [q25]
    refine sp_X12_byteAt hG (by omega) (by omega) hX T1 ⟨by omega, by omega⟩ (fun z => slKt.ok ?_) (fun z => slKt.ok ?_)
    · have b := hX.2 (σ' 12 0 25).toNat
      have ec : lxC X p = X.1 (σ' 12 0 25).toNat := by unfold lxC; rw [eB]
      have nz : ¬ X.2 ≤ lxB X p := by omega
      have T2 : isTn X (slU σ1 12 0 30 (X.1 (σ' 12 0 25).toNat)) := T1.up (by decide)
      have F2 : mTF σ (slU σ1 12 0 30 (X.1 (σ' 12 0 25).toNat)) := mFr.up12 F1 (by decide)
      have p25 : slU σ1 12 0 30 (X.1 (σ' 12 0 25).toNat) 12 0 25 = lxB X p := by rw [slU_ne (by decide), q25, eB]
      have p27 : slU σ1 12 0 30 (X.1 (σ' 12 0 25).toNat) 12 0 27 = lxB X p := by rw [slU_ne (by decide), q27]
      have p29 : slU σ1 12 0 30 (X.1 (σ' 12 0 25).toNat) 12 0 29 = 0 := by rw [slU_ne (by decide), q29]
      have p30 : slU σ1 12 0 30 (X.1 (σ' 12 0 25).toNat) 12 0 30 = lxC X p := by rw [slU_same, ec]
      have p31 : slU σ1 12 0 30 (X.1 (σ' 12 0 25).toNat) 12 0 31 = 0 := by rw [slU_ne (by decide), q31]
      rw [← ec] at b ⊢
      generalize hs2 : slU σ1 12 0 30 (lxC X p) = σ2
      rw [← ec, hs2] at T2 F2 p25 p27 p29 p30 p31
      rw [p25, T2.1]
      refine ⟨⟨⟨by omega, by omega⟩, by omega, by omega⟩, fun _ => ?_, fun w => by omega⟩
      refine sp_X12_isLetter hG (by omega) (by omega) ⟨by omega, by omega⟩ (fun l => slKt.ok ⟨in1, fun w => absurd w (by decide), fun _ => ?_⟩) (fun l => slKt.ok ⟨in0, fun _ => ?_, fun w => absurd rfl w⟩)
      · have k2 : lxK X p = 2 := by unfold lxK; rw [if_neg nz, if_pos l]
        have ke : lxE X p = lxR isLe X (lxB X p) := by unfold lxE; rw [if_neg nz, if_pos l]
        refine ⟨_, Or.inl (by show 0 < 1; decide), F2, T2, k2, p27, ?_, ?_, ?_, ?_, rfl⟩
        · rw [p25]; omega
        · rw [p25]; exact fun k a c => by omega
        · rw [p25, ke]
        · rw [p25, p31, show lxB X p - lxB X p = 0 by omega]; rfl
      · refine sp_X12_isDigit hG (by omega) (by omega) ⟨by omega, by omega⟩ (fun d => slKt.ok ⟨in1, fun w => absurd w (by decide), fun _ => ?_⟩) (fun d => slKt.ok ⟨in0, fun _ => ?_, fun w => absurd rfl w⟩)
        · have k3 : lxK X p = 3 := by unfold lxK; rw [if_neg nz, if_neg l, if_pos d]
          have ke : lxE X p = lxR isDg X (lxB X p) := by unfold lxE; rw [if_neg nz, if_neg l, if_pos d]
          refine ⟨_, Or.inl (by show 0 < 1; decide), F2, T2, k3, p27, ?_, ?_, ?_, rfl⟩
          · rw [p25]; omega
          · rw [p25, ke]
          · rw [p25, p29, show lxB X p - lxB X p = 0 by omega]; rfl
        · have ke : lxE X p = lxB X p + 1 := by unfold lxE; rw [if_neg nz, if_neg l, if_neg d]
          have kk : lxK X p = if isSg (lxC X p) = true then lxC X p else 1 := by unfold lxK; rw [if_neg nz, if_neg l, if_neg d]
          have fin : ∀ s : Int, s = mSo (lxK X p) → Φ (0, 0) (slU (slU (slU σ2 12 0 25 ((σ2 12 0 25) + 1)) 12 0 26 s) 12 0 28 (((slU (slU σ2 12 0 25 ((σ2 12 0 25) + 1)) 12 0 26 s) 12 0 25) - ((slU (slU σ2 12 0 25 ((σ2 12 0 25) + 1)) 12 0 26 s) 12 0 27))) := fun s es => by
            refine h _ (mFr.up12 (mFr.up12 (mFr.up12 F2 (by decide)) (by decide)) (by decide)) ⟨((T2.up (by decide)).up (by decide)).up (by decide), ?_, ?_, ?_, ?_, ?_, ?_, ?_⟩
            · rw [slU_ne (by decide), slU_ne (by decide), slU_same, p25, ke]
            · rw [slU_ne (by decide), slU_same, es]
            · rw [slU_ne (by decide), slU_ne (by decide), slU_ne (by decide), p27]
            · rw [slU_same, slU_ne (by decide), slU_same, slU_ne (by decide), slU_ne (by decide), p25, p27, ke]
            · intro k3
              exact absurd (lxK_3 k3).2.1 d
            · intro k40
              rw [slU_ne (by decide), slU_ne (by decide), slU_ne (by decide), p30]
              exact (lxK_s k40 rfl).2.1
            · intro k2
              exact absurd (lxK_2 k2).2.1 l
          have yes : ∀ c, isSg c = true → lxC X p = c → 3 = mSo (lxK X p) := fun c hc ecc => by
            rw [kk, ecc, if_pos hc]
            have := isSg_i.mp hc
            unfold mSo
            rw [if_neg (by omega), if_neg (by omega), if_neg (by omega), if_neg (by omega)]
          have iC : InR (lxC X p) := ⟨by omega, by omega⟩
          refine ⟨iC, fun w1 => fin 3 (yes 59 rfl w1), fun w1 => ⟨iC, fun w2 => fin 3 (yes 40 rfl w2), fun w2 => ⟨iC, fun w3 => fin 3 (yes 41 rfl w3), fun w3 => ⟨iC, fun w4 => fin 3 (yes 43 rfl w4), fun w4 => ⟨iC, fun w5 => fin 3 (yes 45 rfl w5), fun w5 => ⟨iC, fun w6 => fin 3 (yes 42 rfl w6), fun w6 => ⟨iC, fun w7 => fin 3 (yes 47 rfl w7), fun w7 => ⟨iC, fun w8 => fin 3 (yes 60 rfl w8), fun w8 => ⟨iC, fin _ ?_⟩⟩⟩⟩⟩⟩⟩⟩⟩
          by_cases w9 : lxC X p = 61
          · rw [if_neg (fun u => u w9)]; exact yes 61 rfl w9
          · rw [if_pos w9, kk, if_neg (fun u => by have := isSg_i.mp u; omega)]
            decide
    · have k0 : lxK X p = 0 := by unfold lxK; rw [if_pos (by omega)]
      have ke : lxE X p = lxB X p := by unfold lxE; rw [if_pos (by omega)]
      have g25 : slU σ1 12 0 30 0 12 0 25 = lxB X p := by rw [slU_ne (by decide), q25, eB]
      have g24 : slU σ1 12 0 30 0 12 0 24 = X.2 := by rw [slU_ne (by decide)]; exact T1.1
      rw [g25, g24]
      refine ⟨⟨⟨by omega, by omega⟩, by omega, by omega⟩, fun w => by omega, fun w => h _ (mFr.up12 (mFr.up12 (mFr.up12 F1 (by decide)) (by decide)) (by decide)) ⟨((T1.up (by decide)).up (by decide)).up (by decide), ?_, ?_, ?_, ?_, ?_, ?_, ?_⟩⟩
      · rw [slU_ne (by decide), slU_ne (by decide), g25, ke]
      · rw [slU_ne (by decide), slU_same, k0]; rfl
      · rw [slU_ne (by decide), slU_ne (by decide), slU_ne (by decide), q27]
      · rw [slU_same, slU_ne (by decide), slU_ne (by decide), slU_ne (by decide), slU_ne (by decide), q25, q27, ke, ← eB]
      · intro k3; omega
      · intro k3; omega
      · intro k3; omega
  · rintro μ y1 σ' ⟨fr, T, k2, g27, r3, al, e, gw, rfl⟩
    have hx := hX.1
    have bR := lxB_r (X := X) hp.2
    have fin : lxR isLe X (σ' 12 0 25) = σ' 12 0 25 → Φ (0, 0) (slU (slU σ' 12 0 26 1) 12 0 28 (((slU σ' 12 0 26 1) 12 0 25) - ((slU σ' 12 0 26 1) 12 0 27))) := fun en => by
      have ee : σ' 12 0 25 = lxE X p := by rw [← e, en]
      refine h _ (mFr.up12 (mFr.up12 fr (by decide)) (by decide)) ⟨(T.up (by decide)).up (by decide), ?_, ?_, ?_, ?_, ?_, ?_, ?_⟩
      · rw [slU_ne (by decide), slU_ne (by decide), ee]
      · rw [slU_ne (by decide), slU_same, k2]; rfl
      · rw [slU_ne (by decide), slU_ne (by decide), g27]
      · rw [slU_same, slU_ne (by decide), slU_ne (by decide), g27, ee]
      · intro k3; omega
      · intro k3; omega
      · intro _; rw [slU_ne (by decide), slU_ne (by decide), gw, ee]
    refine sp_X12_byteAt hG (by omega) (by omega) hX T ⟨by omega, by omega⟩ (fun z => slKt.ok ?_) (fun z => slKt.ok ?_)
    · have b := hX.2 (σ' 12 0 25).toNat
      refine sp_X12_isLetter hG (by omega) (by omega) ⟨by omega, by omega⟩ (fun l => slKt.ok ⟨in1, fun w => absurd w (by decide), fun _ => ⟨?_, fun w => ?_, fun w => ?_⟩⟩) (fun l => slKt.ok ⟨in0, fun _ => fin (lxR_n (fun w => l w.2)), fun w => absurd rfl w⟩)
      · rw [g27]; exact ⟨by omega, by omega⟩
      · rw [g27] at w
        refine ⟨(0, (X.2 - (σ' 12 0 25 + 1)).toNat, 0), Or.inr ⟨rfl, Or.inl (by show (X.2 - (σ' 12 0 25 + 1)).toNat < (X.2 - σ' 12 0 25).toNat; omega)⟩, mFr.up12 fr (by decide), T.up (by decide), k2, ?_, ?_, ?_, ?_, ?_, ?_⟩
        · rw [slU_ne (by decide)]; exact g27
        · rw [slU_same]; omega
        · rw [slU_same]
          intro k a c
          by_cases u : k = σ' 12 0 25
          · rw [u]; exact l
          · exact al k a (by omega)
        · rw [slU_same, ← lxR_y (by omega) l]; exact e
        · rw [slU_same, slU_ne (by decide), gw, show min (σ' 12 0 25 - lxB X p).toNat 6 = 6 by omega, show min (σ' 12 0 25 + 1 - lxB X p).toNat 6 = 6 by omega]
        · rw [slU_same]
      · rw [g27] at w
        have li := isLe_i.mp l
        have wr := lxWd_r (X := X) (q := lxB X p) (j := (σ' 12 0 25 - lxB X p).toNat) (by omega) (fun k hk => isLe_i.mp (al (lxB X p + k) (by omega) (by omega)))
        have p6 : (32 : Int) ^ (σ' 12 0 25 - lxB X p).toNat ≤ 32 ^ 6 := (by decide : ∀ j, j ≤ 6 → (32 : Int) ^ j ≤ 32 ^ 6) _ (by omega)
        refine sp_X12_byteAt hG (by omega) (by omega) hX T ⟨by omega, by omega⟩ (fun z => slKt.ok ⟨⟨by omega, by omega⟩, ?_⟩) (fun z => by omega)
        rw [gw, show min (σ' 12 0 25 - lxB X p).toNat 6 = (σ' 12 0 25 - lxB X p).toNat by omega, lor5i ⟨wr.1, by omega⟩ ⟨by omega, by omega⟩, slU_ne (by decide)]
        refine ⟨(0, (X.2 - (σ' 12 0 25 + 1)).toNat, 0), Or.inr ⟨rfl, Or.inl (by show (X.2 - (σ' 12 0 25 + 1)).toNat < (X.2 - σ' 12 0 25).toNat; omega)⟩, mFr.up12 (mFr.up12 fr (by decide)) (by decide), (T.up (by decide)).up (by decide), k2, ?_, ?_, ?_, ?_, ?_, ?_⟩
        · rw [slU_ne (by decide), slU_ne (by decide)]; exact g27
        · rw [slU_same]; omega
        · rw [slU_same]
          intro k a c
          by_cases u : k = σ' 12 0 25
          · rw [u]; exact l
          · exact al k a (by omega)
        · rw [slU_same, ← lxR_y (by omega) l]; exact e
        · rw [slU_same, slU_ne (by decide), slU_same, show min (σ' 12 0 25 + 1 - lxB X p).toNat 6 = (σ' 12 0 25 - lxB X p).toNat + 1 by omega]
          show _ = lxWd X (lxB X p) (σ' 12 0 25 - lxB X p).toNat * 32 + (X.1 (lxB X p + ((σ' 12 0 25 - lxB X p).toNat : Nat)).toNat - 96)
          rw [show lxB X p + (((σ' 12 0 25 - lxB X p).toNat : Nat) : Int) = σ' 12 0 25 by omega]
        · rw [slU_same]
    · refine sp_X12_isLetter hG (by omega) (by omega) in0 (fun l => absurd l (by decide)) (fun l => slKt.ok ⟨in0, fun _ => fin (lxR_n (fun w => z w.1)), fun w => absurd rfl w⟩)
  · rintro μ y1 σ' ⟨fr, T, k3, g27, r3, e, gw, rfl⟩
    have hx := hX.1
    have bR := lxB_r (X := X) hp.2
    have fin : lxR isDg X (σ' 12 0 25) = σ' 12 0 25 → Φ (0, 0) (slU (slU σ' 12 0 26 2) 12 0 28 (((slU σ' 12 0 26 2) 12 0 25) - ((slU σ' 12 0 26 2) 12 0 27))) := fun en => by
      have ee : σ' 12 0 25 = lxE X p := by rw [← e, en]
      refine h _ (mFr.up12 (mFr.up12 fr (by decide)) (by decide)) ⟨(T.up (by decide)).up (by decide), ?_, ?_, ?_, ?_, ?_, ?_, ?_⟩
      · rw [slU_ne (by decide), slU_ne (by decide), ee]
      · rw [slU_ne (by decide), slU_same, k3]; rfl
      · rw [slU_ne (by decide), slU_ne (by decide), g27]
      · rw [slU_same, slU_ne (by decide), slU_ne (by decide), g27, ee]
      · intro _; rw [slU_ne (by decide), slU_ne (by decide), gw, ee]
      · intro k; omega
      · intro k; omega
    refine sp_X12_byteAt hG (by omega) (by omega) hX T ⟨by omega, by omega⟩ (fun z => slKt.ok ?_) (fun z => slKt.ok ?_)
    · have b := hX.2 (σ' 12 0 25).toNat
      refine sp_X12_isDigit hG (by omega) (by omega) ⟨by omega, by omega⟩ (fun l => slKt.ok ⟨in1, fun w => absurd w (by decide), fun _ => ⟨?_, fun w => ?_, fun w => ?_⟩⟩) (fun l => slKt.ok ⟨in0, fun _ => fin (lxR_n (fun w => l w.2)), fun w => absurd rfl w⟩)
      · rw [g27]; exact ⟨by omega, by omega⟩
      · rw [g27] at w
        refine ⟨(0, (X.2 - (σ' 12 0 25 + 1)).toNat, 0), Or.inr ⟨rfl, Or.inl (by show (X.2 - (σ' 12 0 25 + 1)).toNat < (X.2 - σ' 12 0 25).toNat; omega)⟩, mFr.up12 fr (by decide), T.up (by decide), k3, ?_, ?_, ?_, ?_, ?_⟩
        · rw [slU_ne (by decide)]; exact g27
        · rw [slU_same]; omega
        · rw [slU_same, ← lxR_y (by omega) l]; exact e
        · rw [slU_same, slU_ne (by decide), gw, show min (σ' 12 0 25 - lxB X p).toNat 4 = 4 by omega, show min (σ' 12 0 25 + 1 - lxB X p).toNat 4 = 4 by omega]
        · rw [slU_same]
      · rw [g27] at w
        refine sp_X12_byteAt hG (by omega) (by omega) hX T ⟨by omega, by omega⟩ (fun z => slKt.ok ?_) (fun z => by omega)
        rw [gw, show min (σ' 12 0 25 - lxB X p).toNat 4 = (σ' 12 0 25 - lxB X p).toNat by omega, slU_ne (by decide)]
        refine ⟨(0, (X.2 - (σ' 12 0 25 + 1)).toNat, 0), Or.inr ⟨rfl, Or.inl (by show (X.2 - (σ' 12 0 25 + 1)).toNat < (X.2 - σ' 12 0 25).toNat; omega)⟩, mFr.up12 (mFr.up12 fr (by decide)) (by decide), (T.up (by decide)).up (by decide), k3, ?_, ?_, ?_, ?_, ?_⟩
        · rw [slU_ne (by decide), slU_ne (by decide)]; exact g27
        · rw [slU_same]; omega
        · rw [slU_same, ← lxR_y (by omega) l]; exact e
        · rw [slU_same, slU_ne (by decide), slU_same, show min (σ' 12 0 25 + 1 - lxB X p).toNat 4 = (σ' 12 0 25 - lxB X p).toNat + 1 by omega]
          show _ = 10 * lxV X (lxB X p) (σ' 12 0 25 - lxB X p).toNat + X.1 (lxB X p + ((σ' 12 0 25 - lxB X p).toNat : Nat)).toNat - 48
          rw [show lxB X p + (((σ' 12 0 25 - lxB X p).toNat : Nat) : Int) = σ' 12 0 25 by omega]
        · rw [slU_same]
    · refine sp_X12_isDigit hG (by omega) (by omega) in0 (fun l => absurd l (by decide)) (fun l => slKt.ok ⟨in0, fun _ => fin (lxR_n (fun w => z w.1)), fun w => absurd rfl w⟩)
