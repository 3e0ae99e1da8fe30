/-! The relation that every call keeps -/
def RelD (kd : Nat → Nat) (lh le : Nat) : Prop := (∀ j, kd j < 256) ∧ lh ≤ 1 ∧ le < 65536
def RelL (lb : Nat) (lr : Nat → Nat) (lu : Nat) (lt : Nat → Nat) (lz : Nat → Option Nat) (ll ee : Nat → Nat) : Prop := lb ≤ 95 ∧ (∀ j, lr j < 256) ∧ lu ≤ 2470 ∧ (∀ k, lt k < 2 ^ 20) ∧ lzOk lz ∧ cont lr lu lt lz ll ∧ ∀ j, ee j < 256
def RelV (vd : Nat → Nat) (vu : Nat) : Prop := (∀ j, vd j < 256) ∧ vu ≤ 40
def RelB (bd : Nat → Nat) (bu ch : Nat) (bb : Nat → Nat) : Prop := (∀ j, bd j < 256) ∧ 1 ≤ bu ∧ bu ≤ 1 + 42 * bd 0 ∧ bd 0 ≤ 8 ∧ ch = bd 0 ∧ (∀ j, 1 ≤ j → j < bu → bb j = bd j) ∧ (0 < bd 0 → bb 0 = bd 0)
def RelG (gd cd : Nat → Nat) : Prop := (∀ j, gd j < 256) ∧ ∀ j, cd j < 256
theorem relV_put {vd : Nat → Nat} {vu mn : Nat} {v : Int32} (h : RelV vd vu) (hm : vu + mn ≤ 40) : RelV (fillN vd vu (fun i => (v.toBitVec.toNat / 2 ^ (8 * i) % 256)) mn) (vu + mn) := ⟨fillN_b h.1 (fun _ => Nat.mod_lt _ (by decide)), hm⟩
theorem relB_0 {bd bb : Nat → Nat} {bu ch : Nat} (h : RelB bd bu ch bb) : RelB (updN bd 0 0) (0 + 1) 0 bb :=
  ⟨updN_b h.1 (by decide), Nat.le_refl 1, by omega, by rw [updN_s]; decide, by rw [updN_s], fun j h1 h2 => absurd h2 (by omega), fun q => by rw [updN_s] at q; exact absurd q (by decide)⟩
theorem relB_set {bd bb vd : Nat → Nat} {bu ch vu k : Nat} (h : RelB bd bu ch bb) (hV : RelV vd vu) (h8 : bd 0 < 8) (hk : k < 200) : RelB (fillN (updN (updN (updN bd 0 (bd 0 + 1)) bu k) (bu + 1) vu) (bu + 1 + 1) (fun i => rowAt vd vu (0 + i)) vu) (bu + 1 + 1 + vu) (ch + 1) (updN (fillN (updN (updN bb bu k) (bu + 1) vu) (bu + 2) (fun i => vd i) vu) 0 (ch + 1)) := by
  obtain ⟨h1, h2, h3, h4, h5, h6, h7⟩ := h
  have hv := hV.2
  have e0 := avN_0 (bd := bd) (k := k) (many := vu) (g := fun i => rowAt vd vu (0 + i)) h2
  refine ⟨fillN_b (updN_b (updN_b (updN_b h1 (by omega)) (by omega)) (by omega)) (fun j => rowAt_b hV.1), by omega, by rw [e0]; omega, by rw [e0]; omega, by rw [e0]; omega, fun j hj1 hj2 => ?_, fun _ => by rw [e0, updN_s]; omega⟩
  rw [updN_n (by omega)]
  by_cases hin : bu + 2 ≤ j
  · have e1 : j = (bu + 2) + (j - (bu + 2)) := by omega
    rw [e1, fillN_in (by omega)]
    show _ = fillN _ (bu + 2) _ vu (bu + 2 + (j - (bu + 2)))
    rw [fillN_in (by omega), rowAt_lt (by omega), Nat.zero_add]
  · rw [fillN_out (by omega), fillN_out (by omega)]
    by_cases hu1 : j = bu + 1
    · rw [hu1, updN_s, updN_s]
    · rw [updN_n hu1, updN_n hu1]
      by_cases hu : j = bu
      · rw [hu, updN_s, updN_s]
      · rw [updN_n hu, updN_n hu, updN_n (by omega)]
        exact h6 j hj1 (by omega)
theorem relB_drop {bd bb : Nat → Nat} {bu ch k : Nat} (h : RelB bd bu ch bb) (h8 : bd 0 < 8) (hk : k < 200) : RelB (updN (updN (updN bd 0 (bd 0 + 1)) bu k) (bu + 1) 255) (bu + 1 + 1) (ch + 1) (updN (updN (updN bb bu k) (bu + 1) 255) 0 (ch + 1)) := by
  obtain ⟨h1, h2, h3, h4, h5, h6, h7⟩ := h
  have e0 := adN_0 (bd := bd) (k := k) (w := 255) h2
  refine ⟨updN_b (updN_b (updN_b h1 (by omega)) (by omega)) (by decide), by omega, by rw [e0]; omega, by rw [e0]; omega, by rw [e0]; omega, fun j hj1 hj2 => ?_, fun _ => by rw [e0, updN_s]; omega⟩
  rw [updN_n (by omega)]
  by_cases hu1 : j = bu + 1
  · rw [hu1, updN_s, updN_s]
  · rw [updN_n hu1, updN_n hu1]
    by_cases hu : j = bu
    · rw [hu, updN_s, updN_s]
    · rw [updN_n hu, updN_n hu, updN_n (by omega)]
      exact h6 j hj1 (by omega)
theorem relB_lt {bd bb : Nat → Nat} {bu ch : Nat} (h : RelB bd bu ch bb) (h0 : 0 < bd 0) : ∀ x, x < bu → bb x = bd x := fun x hx => by
  by_cases hz : x = 0
  · rw [hz]; exact h.2.2.2.2.2.2 h0
  · exact h.2.2.2.2.2.1 x (by omega) hx
/-- reading a new disk -/
theorem rel_read {kd kd' lr lt ll ee : Nat → Nat} {lb lu : Nat} {lz : Nat → Option Nat} (hL : RelL lb lr lu lt lz ll ee) (hk : ∀ j, kd j < 256) (he : kd' = kd) : (mrN kd' ee lz ll).2.2.2.2.1 = (rdN kd lr lt lz).2.2.2.2.1 ∧ (mrN kd' ee lz ll).2.2.2.2.2 = (rdN kd lr lt lz).2.2.2.2.2 ∧ (mrN kd' ee lz ll).2.2.1 = (rdN kd lr lt lz).2.2.2.1 ∧ RelD kd (liveH kd) (liveE kd) ∧ RelL (rdN kd lr lt lz).2.2.2.2.1 (rdN kd lr lt lz).1 (rdN kd lr lt lz).2.1 (rdN kd lr lt lz).2.2.1 (rdN kd lr lt lz).2.2.2.1 (mrN kd' ee lz ll).2.2.2.1 (mrN kd' ee lz ll).1 := by
  subst he
  obtain ⟨q1, q2, q3, q4, q5, q6, q7, q8, q9, q10⟩ := rdN_eq (v := ll) hk hL.2.1 hL.2.2.2.2.2.2 hL.2.2.2.1 hL.2.2.2.2.1
  exact ⟨q2.symm, q3.symm, q1.symm, ⟨hk, liveH_le _, liveE_b hk⟩, q9, q5, q6, q7, q8, q4, q10⟩
theorem gdIf_b {p : Prop} [Decidable p] {lr gd : Nat → Nat} {lu : Nat} {lt : Nat → Nat} {lz : Nat → Option Nat} (hz : lzOk lz) (hr : ∀ j, lr j < 256) (hg : ∀ j, gd j < 256) : ∀ j, (if p then (baN lr lu lt lz gd 200).2.1 else gd) j < 256 := by
  intro j
  split
  · exact (baN_ok hz hr hg 200 (by decide)).1.2.2.2 j
  · exact hg j
/-- what is answered for a key's byte -/
theorem rel_get {lr lt ll ee : Nat → Nat} {lb lu k j nz : Nat} {lz : Nat → Option Nat} (hL : RelL lb lr lu lt lz ll ee) (hk : k < 200) (hz : lz k = some nz) (hj : j < nz) : ll (40 * k + j) = rowAt lr lu (lt k + j) := by
  obtain ⟨q1, q2⟩ := hL.2.2.2.2.2.1 k hk nz hz
  rw [q2 j hj, rowAt_lt (by omega)]
/-- the class's block, writer, disk behind a batch hold what they can -/
theorem rel_ws {lr lt gd kd bd cd : Nat → Nat} {lu lh le lb bu n1 n2 : Nat} {lz : Nat → Option Nat} (hz : lzOk lz) (hlr : ∀ j, lr j < 256) (hgd : ∀ j, gd j < 256) (hkd : ∀ j, kd j < 256) (hcd : ∀ j, cd j < 256) (hbd : ∀ j, bd j < 256) (hn1 : n1 < 2 ^ 31) (hn2 : n2 ≤ 32) (EP : Nat) :
    wsOk (if 95 < lb + entBlocks (bd 0) bu then weN bd bu (1 - lh) EP (baN lr lu lt lz gd 200).1 (wStep (headN (waW lr lu lt lz gd (1 - lh) EP (cd, n1, n2, 0, true, kd) 200).1 EP) ((1 - lh) * 96) (waW lr lu lt lz gd (1 - lh) EP (cd, n1, n2, 0, true, kd) 200)) (entBlocks (bd 0) bu) else weN bd bu lh le lb (cd, n1, n2, 0, true, kd) (entBlocks (bd 0) bu)) := by
  have h0 : wsOk (cd, n1, n2, 0, true, kd) := ⟨hn1, hn2, hkd, hcd⟩
  split
  · have hwa := waW_ok (lu := lu) (lt := lt) (half := 1 - lh) (ep := EP) hz hlr hgd h0 200 (by decide)
    exact weN_ok (wStep_ok hwa (headN_b hwa.2.2.2)) hbd _
  · exact weN_ok h0 hbd _
