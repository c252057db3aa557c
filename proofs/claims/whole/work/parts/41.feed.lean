/-! ===== frames of the whole; feed, fault, count, light ===== -/
def cFr (L S : List Nat) (σ τ : slM) : Prop := (∀ r i, r ≠ 11 → r ∉ L → τ r i = σ r i) ∧ ∀ k, k ∉ S → τ 11 0 k = σ 11 0 k
theorem cFr.id {L S : List Nat} {σ : slM} : cFr L S σ σ := ⟨fun _ _ _ _ => rfl, fun _ _ => rfl⟩
theorem cFr.tr {L S : List Nat} {σ τ υ : slM} (h1 : cFr L S σ τ) (h2 : cFr L S τ υ) : cFr L S σ υ := ⟨fun r i a b => (h2.1 r i a b).trans (h1.1 r i a b), fun k a => (h2.2 k a).trans (h1.2 k a)⟩
theorem cFr.mono {L S L' S' : List Nat} {σ τ : slM} (h : cFr L S σ τ) (hL : ∀ r ∈ L, r ∈ L') (hS : ∀ r ∈ S, r ∈ S') : cFr L' S' σ τ := ⟨fun r i a b => h.1 r i a (fun z => b (hL _ z)), fun k a => h.2 k (fun z => a (hS _ z))⟩
theorem cFr.up {L S : List Nat} {σ τ : slM} {r i k : Nat} {v : Int} (h : cFr L S σ τ) (hr : r ∈ L) (h12 : r ≠ 11) : cFr L S σ (slU τ r i k v) := ⟨fun r' i' a b => by
    rw [slU_else (fun z => b (by rw [z.1]; exact hr))]
    exact h.1 r' i' a b, fun k' a => by
    rw [slU_else (fun z => h12 z.1.symm)]
    exact h.2 k' a⟩
theorem cFr.up11 {L S : List Nat} {σ τ : slM} {k : Nat} {v : Int} (h : cFr L S σ τ) (hr : k ∈ S) : cFr L S σ (slU τ 11 0 k v) := ⟨fun r' i' a b => by
    rw [slU_else (fun z => a z.1)]
    exact h.1 r' i' a b, fun k' a => by
    rw [slU_ne (fun z => a (by rw [z]; exact hr))]
    exact h.2 k' a⟩
theorem cFr.cl {L S : List Nat} {σ τ : slM} (h : cFr L S σ τ) (hL : ∀ r ∈ L, ¬ (r = 12 ∨ 61 ≤ r)) : clF σ τ := fun r hr => by
  funext i
  exact h.1 r i (by omega) (fun z => hL _ z hr)
theorem isX.tp {c s : Nat} {Z : abZ} {σ τ : slM} {T : Nat → Int} {n f : Int} {R : Nat → Int} (h : isX c s Z σ) (q : cFr [58, 59] [1, 2] σ τ) (e1 : τ 11 0 1 = n) (e58 : ∀ k : Nat, (k : Int) < n → τ 58 0 k = T k) (e2 : τ 11 0 2 = f) (e59 : ∀ k : Nat, k < 3 → τ 59 0 k = R k) : isX c s (Z.1, Z.2.1, Z.2.2.1, T, n, f, R) τ := by
  obtain ⟨h1, h2, h3, h4, h5, h6, h7, h8, h9, h10, h11, h12, h13, h14⟩ := h
  refine ⟨h1, by rw [q.2 4 (by decide)]; exact h2, by rw [q.2 5 (by decide)]; exact h3, by rw [q.1 7 0 (by decide) (by decide)]; exact h4, by rw [q.1 7 0 (by decide) (by decide)]; exact h5, h6.c (fun r hr => q.1 r c ((by decide : ∀ r ∈ chR, r ≠ 11) r hr) ((by decide : ∀ r ∈ chR, r ∉ [58, 59]) r hr)), h7.c (fun r hr => q.1 r s (by omega) (by simp; omega)), h8.c (q.2 8 (by decide)) (fun r hr => q.1 r 2 (by omega) (by simp; omega)), ?_, ?_, e1, e58, e2, e59⟩
  · rw [q.2 12 (by decide)]
    rcases h9 with z | z
    · exact Or.inl z
    · exact Or.inr ⟨z.1, z.2.c (fun r hr => q.1 r 0 (by omega) (by simp; omega))⟩
  · intro i hi k hk
    rw [q.1 36 i (by decide) (by decide)]
    exact h10 i hi k hk
theorem isY.tp {Z : abZ} {σ τ : slM} {T : Nat → Int} {n f : Int} {R : Nat → Int} (h : isY Z σ) (q : mFr [72, 73] [0, 20, 22] σ τ) (e1 : τ 12 0 20 = n) (e58 : ∀ k : Nat, (k : Int) < n → τ 72 0 k = T k) (e2 : τ 12 0 22 = f) (e59 : ∀ k : Nat, k < 3 → τ 73 0 k = R k) : isY (Z.1, Z.2.1, Z.2.2.1, T, n, f, R) τ := by
  obtain ⟨h1, h2, h3, h4, h5, h6, h7⟩ := h
  exact ⟨h1.fr q (by decide) (by decide), h2.c (q.1 88 0 (by decide) (by decide)) (q.1 89 0 (by decide) (by decide)) (q.1 102 0 (by decide) (by decide)) (q.2 58 (by decide)) (q.2 72 (by decide)), h3.c (q.1 104 0 (by decide) (by decide)) (q.1 105 0 (by decide) (by decide)) (q.1 106 0 (by decide) (by decide)) (fun k a b => q.2 k (by simp; omega)), e1, e58, e2, e59⟩
/-! bytes -/
theorem sAnd255 (v : Int) : 0 ≤ sAnd v 255 ∧ sAnd v 255 < 256 := by
  unfold sAnd
  have e : (Int32.ofInt v &&& Int32.ofInt 255).toInt = (((Int32.ofInt v).toBitVec &&& (255#32)).toNat : Int) := by
    rw [show (Int32.ofInt v &&& Int32.ofInt 255).toInt = ((Int32.ofInt v).toBitVec &&& (255#32)).toInt from rfl]
    refine BitVec.toInt_eq_toNat_of_lt ?_
    rw [BitVec.toNat_and]
    have : (Int32.ofInt v).toBitVec.toNat &&& (255#32).toNat ≤ (255#32).toNat := Nat.and_le_right
    have e2 : (255#32).toNat = 255 := rfl
    omega
  rw [e, BitVec.toNat_and]
  have : (Int32.ofInt v).toBitVec.toNat &&& (255#32).toNat ≤ (255#32).toNat := Nat.and_le_right
  have e2 : (255#32).toNat = 255 := rfl
  omega
theorem bv_sh (w : BitVec 32) (n : Nat) (h : n ≤ 24) : (w.sshiftRight n) &&& (255#32) = (w >>> n) &&& (255#32) := by
  apply BitVec.eq_of_getLsbD_eq
  intro i hi
  rw [BitVec.getLsbD_and, BitVec.getLsbD_and, BitVec.getLsbD_sshiftRight, BitVec.getLsbD_ushiftRight]
  by_cases z : i < 8
  · have a1 : ¬ 32 ≤ i := by omega
    have a2 : n + i < 32 := by omega
    simp [a1, a2]
  · have : (255#32).getLsbD i = false := by
      have hh : ∀ j : Nat, j < 32 → ¬ j < 8 → (255#32).getLsbD j = false := by decide
      exact hh i hi z
    rw [this, Bool.and_false, Bool.and_false]
theorem sByte (x : Int) : ∀ j : Nat, j < 4 → sAnd (sShr x (24 - 8 * (j : Int))) 255 = sAnd (sUshr x (24 - 8 * (j : Int))) 255 := by
  intro j hj
  have key : ∀ (w : BitVec 32) (n : Nat), n ≤ 24 → (Int32.ofInt (Int32.ofBitVec (w.sshiftRight n)).toInt &&& Int32.ofInt 255).toInt = (Int32.ofInt (Int32.ofBitVec (w >>> n)).toInt &&& Int32.ofInt 255).toInt := by
    intro w n hn
    rw [Int32.ofInt_toInt, Int32.ofInt_toInt]
    have := bv_sh w n hn
    show ((w.sshiftRight n) &&& (255#32)).toInt = ((w >>> n) &&& (255#32)).toInt
    rw [this]
  match j, hj with
  | 0, _ => exact key (Int32.ofInt x).toBitVec 24 (by decide)
  | 1, _ => exact key (Int32.ofInt x).toBitVec 16 (by decide)
  | 2, _ => exact key (Int32.ofInt x).toBitVec 8 (by decide)
  | 3, _ => exact key (Int32.ofInt x).toBitVec 0 (by decide)
def abBy (x s : Int) : Int := sAnd (sUshr x s) 255
theorem abBy_m {x s j : Int} (h : 0 ≤ j) (h' : j < 4) (e : s = 24 - 8 * j) : sAnd (sShr x s) 255 = abBy x s := by
  obtain ⟨n, rfl⟩ := Int.eq_ofNat_of_zero_le h
  rw [e]
  exact sByte x n (by omega)
def abFd (f : Nat → Int) (n x j : Int) : Nat → Int := fun k => if n ≤ k ∧ (k : Int) < n + j then abBy x (24 - 8 * (k - n)) else f k
theorem abFd_c {f g : Nat → Int} {n x : Int} (h : ∀ k : Nat, (k : Int) < n → f k = g k) : ∀ k : Nat, (k : Int) < n + 4 → abFd f n x 4 k = abFd g n x 4 k := by
  intro k hk
  unfold abFd
  by_cases z : n ≤ (k : Int) ∧ (k : Int) < n + 4
  · rw [if_pos z, if_pos z]
  · rw [if_neg z, if_neg z]; exact h k (by omega)
theorem abFd_r {f : Nat → Int} {n x j : Int} (h : ∀ k, 0 ≤ f k ∧ f k < 256) : ∀ k, 0 ≤ abFd f n x j k ∧ abFd f n x j k < 256 := by
  intro k
  unfold abFd
  by_cases z : n ≤ (k : Int) ∧ (k : Int) < n + j
  · rw [if_pos z]; exact sAnd255 _
  · rw [if_neg z]; exact h k
set_option maxHeartbeats 1000000 in
set_option maxRecDepth 4000 in
theorem sp_X11_feedBytes {G : slG} (hG : slGood G) {d K : Nat} (hd : 0 ≤ d) (hK : 0 ≤ K) {Φ : slPost} {σ : slM} {x1 : Int} {n : Int} (hn : σ 11 0 1 = n) (h0 : 0 ≤ n ∧ n + 4 ≤ 700) (h : ∀ τ, cFr [58] [1] σ τ → τ 11 0 1 = n + 4 → τ 58 0 = abFd (σ 58 0) n x1 4 → Φ (0, 0) τ) :
    slCall G mX11_feedBytes d K [sR 11 0, sI x1] σ Φ := by
  refine vc_X11_feedBytes hG (by omega) hK (fun μ y2 σ' => ∃ j : Int, μ = ((4 - j).toNat, 0, 0) ∧ (0 ≤ j ∧ j ≤ 4) ∧ y2 = 24 - 8 * j ∧ cFr [58] [1] σ σ' ∧ σ' 11 0 1 = n + j ∧ σ' 58 0 = abFd (σ 58 0) n x1 j) ?_ ?_
  · refine ⟨_, 0, rfl, ⟨by omega, by omega⟩, rfl, cFr.id, by omega, ?_⟩
    funext k
    unfold abFd
    rw [if_neg (by omega)]
  · rintro μ y2 σ' ⟨j, rfl, hj, rfl, fr, e1, e2⟩
    rw [e1]
    refine ⟨⟨by omega, by omega⟩, fun q => h σ' fr (by omega) (by rw [e2, show j = 4 by omega]), fun q => ⟨⟨by omega, by omega⟩, fun q2 => by omega, fun q2 => ⟨⟨by omega, by omega⟩, _, Or.inl (by show (4 - (j + 1)).toNat < (4 - j).toNat; omega), j + 1, rfl, ⟨by omega, by omega⟩, by omega, (fr.up (by decide) (by decide)).up11 (by decide), ?_, ?_⟩⟩⟩
    · rw [slU_same, slU_else (by decide), e1]; omega
    · rw [slU_else (by decide)]
      funext k
      rw [slU_at, e2]
      unfold abFd
      by_cases z : k = (n + j).toNat
      · rw [if_pos z, if_pos (by omega)]
        show abBy x1 _ = _
        rw [show 24 - 8 * j = 24 - 8 * ((k : Int) - n) by omega]
      · rw [if_neg z]
        by_cases w : n ≤ (k : Int) ∧ (k : Int) < n + j
        · rw [if_pos w, if_pos (by omega)]
        · rw [if_neg w, if_neg (by omega)]
set_option maxHeartbeats 1000000 in
set_option maxRecDepth 4000 in
theorem sp_X12_lays {G : slG} (hG : slGood G) {d K : Nat} (hd : 0 ≤ d) (hK : 0 ≤ K) {Φ : slPost} {σ : slM} {x1 : Int} {n : Int} (hn : σ 12 0 20 = n) (h0 : 0 ≤ n ∧ n + 4 ≤ 700) (h : ∀ τ, mFr [72] [20] σ τ → τ 12 0 20 = n + 4 → τ 72 0 = abFd (σ 72 0) n x1 4 → Φ (0, 0) τ) :
    slCall G mX12_lays d K [sR 12 0, sI x1] σ Φ := by
  refine vc_X12_lays hG (by omega) hK (fun μ y2 σ' => ∃ j : Int, μ = ((4 - j).toNat, 0, 0) ∧ (0 ≤ j ∧ j ≤ 4) ∧ y2 = 24 - 8 * j ∧ mFr [72] [20] σ σ' ∧ σ' 12 0 20 = n + j ∧ σ' 72 0 = abFd (σ 72 0) n x1 j) ?_ ?_
  · refine ⟨_, 0, rfl, ⟨by omega, by omega⟩, rfl, mFr.id, by omega, ?_⟩
    funext k
    unfold abFd
    rw [if_neg (by omega)]
  · rintro μ y2 σ' ⟨j, rfl, hj, rfl, fr, e1, e2⟩
    rw [e1]
    refine ⟨⟨by omega, by omega⟩, fun q => h σ' fr (by omega) (by rw [e2, show j = 4 by omega]), fun q => ⟨⟨by omega, by omega⟩, _, Or.inl (by show (4 - (j + 1)).toNat < (4 - j).toNat; omega), j + 1, rfl, ⟨by omega, by omega⟩, by omega, (fr.up (by decide) (by decide)).up12 (by decide), ?_, ?_⟩⟩
    · rw [slU_same, slU_else (by decide), e1]; omega
    · rw [slU_else (by decide)]
      funext k
      rw [slU_at, e2, abBy_m hj.1 (by omega) rfl]
      unfold abFd
      by_cases z : k = (n + j).toNat
      · rw [if_pos z, if_pos (by omega)]
        rw [show 24 - 8 * j = 24 - 8 * ((k : Int) - n) by omega]
      · rw [if_neg z]
        by_cases w : n ≤ (k : Int) ∧ (k : Int) < n + j
        · rw [if_pos w, if_pos (by omega)]
        · rw [if_neg w, if_neg (by omega)]
def abFeed (T : Nat → Int) (n a b c d e : Int) : Nat → Int := abFd (abFd (abFd (abFd (abFd T n a 4) (n + 4) b 4) (n + 4 + 4) c 4) (n + 4 + 4 + 4) d 4) (n + 4 + 4 + 4 + 4) e 4
def nxFeed (Z : abZ) (a b c d e : Int) : abZ := if Z.2.2.2.2.1 + 20 ≤ 700 then (Z.1, Z.2.1, Z.2.2.1, abFeed Z.2.2.2.1 Z.2.2.2.2.1 a b c d e, Z.2.2.2.2.1 + 4 + 4 + 4 + 4 + 4, Z.2.2.2.2.2.1, Z.2.2.2.2.2.2) else Z
def anFeed (Z : abZ) : Int := if Z.2.2.2.2.1 + 20 ≤ 700 then Z.2.2.2.2.1 + 4 + 4 + 4 + 4 + 4 else -1
theorem gdZ.s {N : Nat} {Z : abZ} (h : gdZ N Z) : gdZ (N + 1) Z := ⟨h.1, h.2.1, h.2.2.1, h.2.2.2.1, h.2.2.2.2.1, h.2.2.2.2.2.1, fun k => ⟨(h.2.2.2.2.2.2 k).1, by have := (h.2.2.2.2.2.2 k).2; omega⟩⟩
theorem gdZ.feed {N : Nat} {Z : abZ} {a b c d e : Int} (h : gdZ N Z) : gdZ (N + 1) (nxFeed Z a b c d e) := by
  unfold nxFeed
  by_cases z : Z.2.2.2.2.1 + 20 ≤ 700
  · rw [if_pos z]
    have t := h.2.2.2.1
    exact ⟨h.1, h.2.1, h.2.2.1, ⟨by show 0 ≤ Z.2.2.2.2.1 + 4 + 4 + 4 + 4 + 4; omega, by show Z.2.2.2.2.1 + 4 + 4 + 4 + 4 + 4 ≤ 700; omega⟩, abFd_r (abFd_r (abFd_r (abFd_r (abFd_r h.2.2.2.2.1)))), h.2.2.2.2.2.1, fun k => ⟨(h.2.2.2.2.2.2 k).1, by have := (h.2.2.2.2.2.2 k).2; show Z.2.2.2.2.2.2 k ≤ ((N + 1 : Nat) : Int); omega⟩⟩
  · rw [if_neg z]; exact h.s
set_option maxHeartbeats 1000000 in
set_option maxRecDepth 4000 in
theorem sp_X11_feed {G : slG} (hG : slGood G) {d K : Nat} (hd : 1 ≤ d) (hK : 0 ≤ K) {Φ : slPost} {σ : slM} {x1 : Int} {x2 : Int} {x3 : Int} {x4 : Int} {x5 : Int} {c s N : Nat} {Z : abZ} (hX : isX c s Z σ) (hZ : gdZ N Z) (h : ∀ τ, clF σ τ → isX c s (nxFeed Z x1 x2 x3 x4 x5) τ → Φ (0, anFeed Z) τ) :
    slCall G mX11_feed d K [sR 11 0, sI x1, sI x2, sI x3, sI x4, sI x5] σ Φ := by
  refine vc_X11_feed hG (by omega) hK  ?_
  have hX0 := hX
  obtain ⟨h1, h2, h3, h4, h5, h6, h7, h8, h9, h10, h11, h12, h13, h14⟩ := hX
  have t := hZ.2.2.2.1
  rw [h11]
  unfold nxFeed anFeed at h
  refine ⟨⟨by omega, by omega⟩, fun q => ?_, fun q => ?_⟩
  · rw [if_pos q, if_pos q] at h
    refine sp_X11_feedBytes hG (by omega) (by omega) h11 ⟨by omega, by omega⟩ (fun τ1 f1 a1 b1 => slKt.ok ?_)
    refine sp_X11_feedBytes hG (by omega) (by omega) a1 ⟨by omega, by omega⟩ (fun τ2 f2 a2 b2 => slKt.ok ?_)
    refine sp_X11_feedBytes hG (by omega) (by omega) a2 ⟨by omega, by omega⟩ (fun τ3 f3 a3 b3 => slKt.ok ?_)
    refine sp_X11_feedBytes hG (by omega) (by omega) a3 ⟨by omega, by omega⟩ (fun τ4 f4 a4 b4 => slKt.ok ?_)
    refine sp_X11_feedBytes hG (by omega) (by omega) a4 ⟨by omega, by omega⟩ (fun τ5 f5 a5 b5 => slKt.ok ?_)
    have fr := (((f1.tr f2).tr f3).tr f4).tr f5
    have fr2 : cFr [58, 59] [1, 2] σ τ5 := fr.mono (by decide) (by decide)
    rw [a5]
    refine h τ5 (fr.cl (by decide)) (hX0.tp fr2 a5 (fun k hk => ?_) (by rw [fr.2 2 (by decide)]; exact h13) (fun k hk => by rw [fr.1 59 0 (by decide) (by decide)]; exact h14 k hk))
    rw [b5, b4, b3, b2, b1]
    exact abFd_c (abFd_c (abFd_c (abFd_c (abFd_c h12)))) k hk
  · rw [if_neg q, if_neg q] at h
    exact h σ clF.id hX0
set_option maxHeartbeats 1000000 in
set_option maxRecDepth 4000 in
theorem sp_X12_feed {G : slG} (hG : slGood G) {d K : Nat} (hd : 1 ≤ d) (hK : 0 ≤ K) {Φ : slPost} {σ : slM} {x1 : Int} {x2 : Int} {x3 : Int} {x4 : Int} {x5 : Int} {N : Nat} {Z : abZ} (hY : isY Z σ) (hZ : gdZ N Z) (h : ∀ τ, mdF σ τ → isY (nxFeed Z x1 x2 x3 x4 x5) τ → τ 12 0 0 = 0 → Φ (0, anFeed Z) τ) :
    slCall G mX12_feed d K [sR 12 0, sI x1, sI x2, sI x3, sI x4, sI x5] σ Φ := by
  refine vc_X12_feed hG (by omega) hK  ?_
  have hY0 := hY
  obtain ⟨h1, h2, h3, h4, h5, h6, h7⟩ := hY
  have t := hZ.2.2.2.1
  rw [slU_ne (by decide), h4]
  unfold nxFeed anFeed at h
  refine ⟨⟨by omega, by omega⟩, fun q => ?_, fun q => ?_⟩
  · rw [if_pos q, if_pos q] at h
    have h4' : slU σ 12 0 0 0 12 0 20 = Z.2.2.2.2.1 := by rw [slU_ne (by decide)]; exact h4
    refine sp_X12_lays hG (by omega) (by omega) h4' ⟨by omega, by omega⟩ (fun τ1 f1 a1 b1 => slKt.ok ?_)
    refine sp_X12_lays hG (by omega) (by omega) a1 ⟨by omega, by omega⟩ (fun τ2 f2 a2 b2 => slKt.ok ?_)
    refine sp_X12_lays hG (by omega) (by omega) a2 ⟨by omega, by omega⟩ (fun τ3 f3 a3 b3 => slKt.ok ?_)
    refine sp_X12_lays hG (by omega) (by omega) a3 ⟨by omega, by omega⟩ (fun τ4 f4 a4 b4 => slKt.ok ?_)
    refine sp_X12_lays hG (by omega) (by omega) a4 ⟨by omega, by omega⟩ (fun τ5 f5 a5 b5 => slKt.ok ?_)
    have fr := (((f1.tr f2).tr f3).tr f4).tr f5
    have fr2 : mFr [72, 73] [0, 20, 22] σ τ5 := (mFr.up12 (mFr.id (L := [72, 73]) (S := [0, 20, 22]) (σ := σ)) (by decide)).tr (fr.mono (by decide) (by decide))
    rw [a5]
    refine h τ5 (fr2.md (by decide)) (hY0.tp fr2 a5 (fun k hk => ?_) (by rw [fr.2 22 (by decide), slU_ne (by decide)]; exact h6) (fun k hk => by rw [fr.1 73 0 (by decide) (by decide), slU_else (by decide)]; exact h7 k hk)) (by rw [fr.2 0 (by decide), slU_same])
    rw [b5, b4, b3, b2, b1, slU_else (by decide)]
    exact abFd_c (abFd_c (abFd_c (abFd_c (abFd_c h5)))) k hk
  · rw [if_neg q, if_neg q] at h
    exact h _ (mdF.id.up (Or.inl rfl)) (hY0.q (mQ.id.t0)) (slU_same _ _ _ _ _)
set_option maxHeartbeats 1000000 in
set_option maxRecDepth 4000 in
theorem sp_X11_fault {G : slG} (hG : slGood G) {d K : Nat} (hd : 0 ≤ d) (hK : 0 ≤ K) {Φ : slPost} {σ : slM}  {c s : Nat} {Z : abZ} (hX : isX c s Z σ) (h : Φ (0, Z.2.2.2.2.2.1) σ) :
    slCall G mX11_fault d K [sR 11 0] σ Φ := by
  refine vc_X11_fault hG (by omega) hK  ?_
  rw [hX.2.2.2.2.2.2.2.2.2.2.2.2.1]
  exact h
set_option maxHeartbeats 1000000 in
set_option maxRecDepth 4000 in
theorem sp_X12_fault {G : slG} (hG : slGood G) {d K : Nat} (hd : 0 ≤ d) (hK : 0 ≤ K) {Φ : slPost} {σ : slM}  {Z : abZ} (hY : isY Z σ) (h : ∀ τ, mdF σ τ → isY Z τ → τ 12 0 0 = 0 → Φ (0, Z.2.2.2.2.2.1) τ) :
    slCall G mX12_fault d K [sR 12 0] σ Φ := by
  refine vc_X12_fault hG (by omega) hK  ?_
  rw [slU_ne (by decide), hY.2.2.2.2.2.1]
  exact h _ (mdF.id.up (Or.inl rfl)) (hY.q (mQ.id.t0)) (slU_same _ _ _ _ _)
def abCnt (Z : abZ) (w : Int) : Int := if w = 0 then Z.1 1 0 else if w = 1 then Z.1 1 1 else if w = 2 then Z.1 1 2 else if w = 3 then Z.1 1 3 else if w = 4 then Z.1 1 4 else if w = 5 then Z.1 4 4 else if w = 6 then Z.2.1.1 3 0 else if w = 7 then Z.2.1.2.1.length else if w = 8 then Z.2.1.2.2.length else if w = 9 then Z.2.2.2.2.1 else Z.2.2.2.2.2.2 (w - 10).toNat
theorem abCnt_in {N : Nat} {Z : abZ} (hZ : gdZ N Z) (hN : N ≤ 1000) {w : Int} : InR (abCnt Z w) := by
  have hC := hZ.c
  have a0 := hC.1
  have a1 := hC.2.1
  have a2 := hC.2.2.1
  have a3 := hC.2.2.2.1
  have a4 := hC.2.2.2.2.1
  have a5 := hC.2.2.2.2.2.2.2.2.2.2.1
  have a6 := hZ.v.2.2.2.2
  have a7 := hZ.2.1.2.2
  have a9 := hZ.2.2.2.1
  have a10 := hZ.2.2.2.2.2.2 (w - 10).toNat
  unfold abCnt
  repeat' split
  all_goals exact ⟨by omega, by omega⟩
set_option maxHeartbeats 1000000 in
set_option maxRecDepth 4000 in
theorem sp_X11_count {G : slG} (hG : slGood G) {d K : Nat} (hd : 8 ≤ d) (hK : 1 ≤ K) {Φ : slPost} {σ : slM} {x1 : Int} {c s N : Nat} {Z : abZ} (hX : isX c s Z σ) (hZ : gdZ N Z) (hx : InR x1) (h : Φ (abOk (0 ≤ x1 ∧ x1 ≤ 12) (abCnt Z x1)) σ) :
    slCall G mX11_count d K [sR 11 0, sI x1] σ Φ := by
  refine vc_X11_count hG (by omega) hK  ?_
  rw [hX.e4, hX.e5]
  obtain ⟨h1, h2, h3, h4, h5, ⟨p1, p23, p24, p25, p26, p27, p28, p29, p30, p31, p32, p4, -⟩, h7, h8, h9, h10, h11, h12, h13, h14⟩ := hX
  rw [p1, p4, h7.2.2.2.1, h7.2.2.2.2.2.1, h7.2.2.2.2.2.2.2.1, h11, h14 0 (by decide), h14 1 (by decide), h14 2 (by decide)]
  refine ⟨hx, fun e => ?_, fun e => ?_, fun e => ?_, fun e => ?_, fun e => ?_, fun e => ?_, fun e => ?_, fun e => ?_, fun e => ?_, fun e => ?_, fun e => ?_, fun e => ?_, fun e => ?_, fun e => ?_⟩
  all_goals first | (rw [abOk_f (by omega)] at h; exact h) | (rw [abOk_t (by omega)] at h; subst e; exact h)
set_option maxHeartbeats 1000000 in
set_option maxRecDepth 4000 in
theorem sp_X12_count {G : slG} (hG : slGood G) {d K : Nat} (hd : 1 ≤ d) (hK : 0 ≤ K) {Φ : slPost} {σ : slM} {x1 : Int} {N : Nat} {Z : abZ} (hY : isY Z σ) (hZ : gdZ N Z) (hx : InR x1) (h : ∀ τ, mdF σ τ → isY Z τ → τ 12 0 0 = (abOk (0 ≤ x1 ∧ x1 ≤ 12) (abCnt Z x1)).1 → Φ (0, (abOk (0 ≤ x1 ∧ x1 ≤ 12) (abCnt Z x1)).2) τ) :
    slCall G mX12_count d K [sR 12 0, sI x1] σ Φ := by
  refine vc_X12_count hG (by omega) hK  ?_
  refine sp_X12_within hG (by omega) (by omega) hx ⟨by decide, by decide⟩ ⟨by decide, by decide⟩ (slKt.ok ?_)
  refine sp_X12_right hG (by omega) (by omega) (slU_same _ _ _ _ _) in01 ⟨by decide, by decide⟩ (by decide) (fun z => slKt.ok ⟨⟨by decide, by decide⟩, fun _ => ?_, fun q => absurd q (by decide)⟩) (fun z => slKt.ok ⟨⟨by decide, by decide⟩, fun q => absurd rfl q, fun _ => ?_⟩)
  · have r := abIf_nz z
    have k := h _ (mdF.id.up (Or.inl rfl)) (hY.q (mQ.id.t0 (v := 0)))
    rw [abOk_t r] at k
    have k2 := k (slU_same _ _ _ _ _)
    have m1 := hY.1.1
    rw [slU_ne (by decide), slU_ne (by decide), slU_ne (by decide), slU_ne (by decide), slU_ne (by decide), slU_ne (by decide), slU_else (by decide), slU_ne (by decide), slU_ne (by decide), slU_ne (by decide), slU_else (by decide), m1.1, m1.2.1, m1.2.2.1, m1.2.2.2.1, m1.2.2.2.2.1, m1.2.2.2.2.2.2, hY.2.1.2.2.2.1, hY.2.1.2.2.2.2.2.1, hY.2.1.2.2.2.2.2.2.2.1, hY.2.2.2.1]
    refine ⟨hx, fun e => ?_, fun e => ?_, fun e => ?_, fun e => ?_, fun e => ?_, fun e => ?_, fun e => ?_, fun e => ?_, fun e => ?_, fun e => ?_, fun e => ⟨⟨by omega, by omega⟩, ?_⟩⟩
    all_goals first | (subst e; exact k2) | skip
    rw [hY.2.2.2.2.2.2 _ (by omega)]
    unfold abCnt at k2
    rw [if_neg (by omega), if_neg (by omega), if_neg (by omega), if_neg (by omega), if_neg (by omega), if_neg (by omega), if_neg (by omega), if_neg (by omega), if_neg (by omega), if_neg (by omega)] at k2
    exact k2
  · have r := abIf_z z
    have k := h _ ((mdF.id.up (Or.inl rfl)).up (Or.inl rfl)) (hY.q ((mQ.id.t0 (v := 0)).t0 (v := 1)))
    rw [abOk_f r] at k
    exact k (slU_same _ _ _ _ _)
