/-! What the class's own private methods compute -/
def gath (lr : Nat → Nat) (lu : Nat) (lt : Nat → Nat) (lz : Nat → Option Nat) (g : (Nat → Nat) × Nat) (key : Nat) : (Nat → Nat) × Nat :=
  match lz key with
  | none => g
  | some n => (fillN (updN (updN (updN g.1 0 (g.1 0 + 1)) g.2 key) (g.2 + 1) n) (g.2 + 1 + 1) (fun i => rowAt lr lu (lt key + i)) n, g.2 + 1 + 1 + n)
theorem gath_none {lr : Nat → Nat} {lu : Nat} {lt : Nat → Nat} {lz : Nat → Option Nat} {g : (Nat → Nat) × Nat} {key : Nat} (h : lz key = none) : gath lr lu lt lz g key = g := by
  unfold gath
  rw [h]
theorem gath_some {lr : Nat → Nat} {lu : Nat} {lt : Nat → Nat} {lz : Nat → Option Nat} {g : (Nat → Nat) × Nat} {key n : Nat} (h : lz key = some n) : gath lr lu lt lz g key = (fillN (updN (updN (updN g.1 0 (g.1 0 + 1)) g.2 key) (g.2 + 1) n) (g.2 + 1 + 1) (fun i => rowAt lr lu (lt key + i)) n, g.2 + 1 + 1 + n) := by
  unfold gath
  rw [h]
/-- an entry that is being gathered: how long it is, its bytes -/
def gOk (g : (Nat → Nat) × Nat) (most : Nat) : Prop := 1 ≤ g.2 ∧ g.2 ≤ 1 + 42 * g.1 0 ∧ g.1 0 ≤ most ∧ ∀ j, g.1 j < 256
def lzOk (lz : Nat → Option Nat) : Prop := ∀ k n, lz k = some n → n ≤ 40
theorem gath_ok {lr : Nat → Nat} {lu : Nat} {lt : Nat → Nat} {lz : Nat → Option Nat} {g : (Nat → Nat) × Nat} {key most : Nat} (hk : key < 200) (hz : lzOk lz) (hr : ∀ j, lr j < 256) (hm : most < 8) (h : gOk g most) : gOk (gath lr lu lt lz g key) (most + 1) := by
  obtain ⟨h1, h2, h3, h4⟩ := h
  cases hn : lz key with
  | none => rw [gath_none hn]; exact ⟨h1, h2, by omega, h4⟩
  | some n =>
    have hn40 := hz key n hn
    rw [gath_some hn]
    have e0 : fillN (updN (updN (updN g.1 0 (g.1 0 + 1)) g.2 key) (g.2 + 1) n) (g.2 + 1 + 1) (fun i => rowAt lr lu (lt key + i)) n 0 = g.1 0 + 1 := by
      unfold fillN
      rw [if_neg (by omega), updN_n (by omega), updN_n (by omega), updN_s]
    refine ⟨by show 1 ≤ _; omega, ?_, ?_, ?_⟩
    · dsimp only
      rw [e0]
      omega
    · dsimp only
      rw [e0]
      omega
    · exact fillN_b (updN_b (updN_b (updN_b h4 (by omega)) (by omega)) (by omega)) (fun j => rowAt_b hr)
def baStep (lr : Nat → Nat) (lu : Nat) (lt : Nat → Nat) (lz : Nat → Option Nat) (s : Nat × (Nat → Nat) × Nat) (key : Nat) : Nat × (Nat → Nat) × Nat :=
  if 8 ≤ (gath lr lu lt lz s.2 key).1 0 ∨ key = 199 then (s.1 + entBlocks ((gath lr lu lt lz s.2 key).1 0) (gath lr lu lt lz s.2 key).2, updN (gath lr lu lt lz s.2 key).1 0 0, 0 + 1) else (s.1, gath lr lu lt lz s.2 key)
def baN (lr : Nat → Nat) (lu : Nat) (lt : Nat → Nat) (lz : Nat → Option Nat) (gd : Nat → Nat) : Nat → Nat × (Nat → Nat) × Nat
  | 0 => (0, updN gd 0 0, 0 + 1)
  | k + 1 => baStep lr lu lt lz (baN lr lu lt lz gd k) k
/-- block, writer, disk -/
abbrev WS : Type := (Nat → Nat) × Nat × Nat × Nat × Bool × (Nat → Nat)
noncomputable def wStep (cd' : Nat → Nat) (b : Nat) (w : WS) : WS := (cd', w.2.1 - 1, (if 0 < w.2.1 then w.2.2.1 else 0), w.2.2.2.1 + (if 0 < w.2.1 then 1 else 0), (w.2.2.2.2.1 && isAsN (fillN w.2.2.2.2.2 (b * 32) cd' (if 0 < w.2.1 then 32 else w.2.2.1)) (b * 32) cd'), fillN w.2.2.2.2.2 (b * 32) cd' (if 0 < w.2.1 then 32 else w.2.2.1))
noncomputable def weN (ed : Nat → Nat) (eu half ep behind : Nat) (w : WS) : Nat → WS
  | 0 => w
  | i + 1 => wStep (logBlkN (weN ed eu half ep behind w i).1 ep (behind + 1 + i) ed eu (i * 26)) (half * 96 + (behind + 1 + i)) (weN ed eu half ep behind w i)
theorem entBlocks_le {c u : Nat} (h : u ≤ 337) : entBlocks c u ≤ 13 := by
  unfold entBlocks
  split <;> omega
theorem baN_ok {lr : Nat → Nat} {lu : Nat} {lt : Nat → Nat} {lz : Nat → Option Nat} {gd : Nat → Nat} (hz : lzOk lz) (hr : ∀ j, lr j < 256) (hg : ∀ j, gd j < 256) : ∀ k, k ≤ 200 → gOk (baN lr lu lt lz gd k).2 7 ∧ (baN lr lu lt lz gd k).1 ≤ k * 13
  | 0, _ => ⟨⟨show 1 ≤ 0 + 1 by decide, show 0 + 1 ≤ 1 + 42 * updN gd 0 0 0 by omega, by show updN gd 0 0 0 ≤ 7; rw [updN_s]; decide, updN_b hg (by decide)⟩, Nat.le_refl 0⟩
  | k + 1, hk => by
    obtain ⟨h1, h2⟩ := baN_ok (lr := lr) (lu := lu) (lt := lt) hz hr hg k (by omega)
    obtain ⟨q1, q2, q3, q4⟩ := gath_ok (lr := lr) (lu := lu) (lt := lt) (lz := lz) (key := k) (by omega) hz hr (by decide) h1
    have he := entBlocks_le (c := (gath lr lu lt lz (baN lr lu lt lz gd k).2 k).1 0) (u := (gath lr lu lt lz (baN lr lu lt lz gd k).2 k).2) (by omega)
    show gOk (baStep lr lu lt lz (baN lr lu lt lz gd k) k).2 7 ∧ (baStep lr lu lt lz (baN lr lu lt lz gd k) k).1 ≤ _
    unfold baStep
    split
    · refine ⟨⟨Nat.le_refl 1, ?_, ?_, ?_⟩, ?_⟩
      · show 0 + 1 ≤ 1 + _
        omega
      · dsimp only
        rw [updN_s]
        decide
      · exact updN_b q4 (by decide)
      · show _ + _ ≤ (k + 1) * 13
        omega
    · refine ⟨⟨q1, q2, ?_, q4⟩, ?_⟩
      · dsimp only
        omega
      · show (baN lr lu lt lz gd k).1 ≤ _
        omega
theorem baN_mono {lr : Nat → Nat} {lu : Nat} {lt : Nat → Nat} {lz : Nat → Option Nat} {gd : Nat → Nat} {k : Nat} : ∀ i, (baN lr lu lt lz gd k).1 ≤ (baN lr lu lt lz gd (k + i)).1
  | 0 => Nat.le_refl _
  | i + 1 => by
    refine Nat.le_trans (baN_mono i) ?_
    show _ ≤ (baStep lr lu lt lz (baN lr lu lt lz gd (k + i)) (k + i)).1
    unfold baStep
    split
    · show _ ≤ _ + _
      omega
    · exact Nat.le_refl _
/-- block, writer and disk hold what they can -/
def wsOk (w : WS) : Prop := w.2.1 < 2 ^ 31 ∧ w.2.2.1 ≤ 32 ∧ (∀ j, w.2.2.2.2.2 j < 256) ∧ ∀ j, w.1 j < 256
theorem wStep_ok {cd' : Nat → Nat} {b : Nat} {w : WS} (h : wsOk w) (hc : ∀ j, cd' j < 256) : wsOk (wStep cd' b w) := by
  obtain ⟨h1, h2, h3, h4⟩ := h
  refine ⟨?_, ?_, ?_, hc⟩
  · show w.2.1 - 1 < _
    omega
  · show (if 0 < w.2.1 then w.2.2.1 else 0) ≤ 32
    split <;> omega
  · exact fillN_b h3 hc
theorem hdrN_b {d : Nat → Nat} {ep : Nat} (hd : ∀ j, d j < 256) : ∀ j, hdrN d ep j < 256 := updN_b (updN_b (fillN_b hd (fun _ => by decide)) (Nat.mod_lt _ (by decide))) (Nat.mod_lt _ (by decide))
theorem headN_b {d : Nat → Nat} {ep : Nat} (hd : ∀ j, d j < 256) : ∀ j, headN d ep j < 256 := updN_b (updN_b (hdrN_b hd) (by decide)) (sumN_b _ _)
theorem cnt_b {m : Nat} (p q : Prop) (ip : Decidable p) (iq : Decidable q) (h : m ≤ 26) : m ||| (if p then 64 else 0) ||| (if q then 128 else 0) < 256 := by
  have h1 : (if p then 64 else 0) < 2 ^ 8 := by split <;> decide
  have h2 : (if q then 128 else 0) < 2 ^ 8 := by split <;> decide
  have h3 : m < 2 ^ 8 := by omega
  exact Nat.or_lt_two_pow (Nat.or_lt_two_pow h3 h1) h2
theorem logBlkN_b {d : Nat → Nat} {ep no : Nat} {gd : Nat → Nat} {gu fr : Nat} (hd : ∀ j, d j < 256) (hg : ∀ j, gd j < 256) : ∀ j, logBlkN d ep no gd gu fr j < 256 :=
  updN_b (fillN_b (updN_b (updN_b (updN_b (hdrN_b hd) (cnt_b _ _ _ _ (Nat.min_le_right _ _))) (Nat.mod_lt _ (by decide))) (Nat.mod_lt _ (by decide))) (fun _ => rowAt_b hg)) (sumN_b _ _)
theorem weN_ok {ed : Nat → Nat} {eu half ep behind : Nat} {w : WS} (h : wsOk w) (he : ∀ j, ed j < 256) : ∀ i, wsOk (weN ed eu half ep behind w i)
  | 0 => h
  | i + 1 => wStep_ok (weN_ok h he i) (logBlkN_b (weN_ok h he i).2.2.2 he)
/-- the blocks of a log that is made anew
 -/
noncomputable def waW (lr : Nat → Nat) (lu : Nat) (lt : Nat → Nat) (lz : Nat → Option Nat) (gd : Nat → Nat) (half ep : Nat) (w : WS) : Nat → WS
  | 0 => w
  | k + 1 => if 8 ≤ (gath lr lu lt lz (baN lr lu lt lz gd k).2 k).1 0 ∨ k = 199 then
      weN (gath lr lu lt lz (baN lr lu lt lz gd k).2 k).1 (gath lr lu lt lz (baN lr lu lt lz gd k).2 k).2 half ep (baN lr lu lt lz gd k).1 (waW lr lu lt lz gd half ep w k) (entBlocks ((gath lr lu lt lz (baN lr lu lt lz gd k).2 k).1 0) (gath lr lu lt lz (baN lr lu lt lz gd k).2 k).2)
    else waW lr lu lt lz gd half ep w k
theorem waW_ok {lr : Nat → Nat} {lu : Nat} {lt : Nat → Nat} {lz : Nat → Option Nat} {gd : Nat → Nat} {half ep : Nat} {w : WS} (hz : lzOk lz) (hr : ∀ j, lr j < 256) (hg : ∀ j, gd j < 256) (h : wsOk w) : ∀ k, k ≤ 200 → wsOk (waW lr lu lt lz gd half ep w k)
  | 0, _ => h
  | k + 1, hk => by
    have ih := waW_ok (lu := lu) (lt := lt) (half := half) (ep := ep) hz hr hg h k (by omega)
    have q4 := (gath_ok (lr := lr) (lu := lu) (lt := lt) (lz := lz) (key := k) (by omega) hz hr (by decide) (baN_ok (lu := lu) (lt := lt) hz hr hg k (by omega)).1).2.2.2
    unfold waW
    split
    · exact weN_ok ih q4 _
    · exact ih
theorem entBlocks_lt {c u i : Nat} (h : i < entBlocks c u) : i * 26 < u := by
  unfold entBlocks at h
  split at h <;> omega
theorem shB (v : Int32) {i : Nat} (hi : i < 4) : (v.toUInt32 >>> ((nI (8 * i)).toUInt32 &&& Int32.toUInt32 31)).toInt32.toBitVec.toNat % 256 = v.toBitVec.toNat / 2 ^ (8 * i) % 256 := by
  rcases (show i = 0 ∨ i = 1 ∨ i = 2 ∨ i = 3 by omega) with rfl | rfl | rfl | rfl
  · rw [pk_ushr v (nI (8 * 0)) 0 (by decide)]
  · rw [pk_ushr v (nI (8 * 1)) 8 (by decide)]
  · rw [pk_ushr v (nI (8 * 2)) 16 (by decide)]
  · rw [pk_ushr v (nI (8 * 3)) 24 (by decide)]
theorem avN_0 {bd : Nat → Nat} {bu k many : Nat} {g : Nat → Nat} (h : 1 ≤ bu) : fillN (updN (updN (updN bd 0 (bd 0 + 1)) bu k) (bu + 1) many) (bu + 1 + 1) g many 0 = bd 0 + 1 := by
  unfold fillN
  rw [if_neg (by omega), updN_n (by omega), updN_n (by omega), updN_s]
theorem adN_0 {bd : Nat → Nat} {bu k w : Nat} (h : 1 ≤ bu) : updN (updN (updN bd 0 (bd 0 + 1)) bu k) (bu + 1) w 0 = bd 0 + 1 := by
  rw [updN_n (by omega), updN_n (by omega), updN_s]
theorem gath_ind {lr : Nat → Nat} {lu : Nat} {lt : Nat → Nat} {lz : Nat → Option Nat} {g g' : (Nat → Nat) × Nat} {key : Nat} (h1 : 1 ≤ g.2) (h : g.1 0 = g'.1 0 ∧ g.2 = g'.2) : (gath lr lu lt lz g key).1 0 = (gath lr lu lt lz g' key).1 0 ∧ (gath lr lu lt lz g key).2 = (gath lr lu lt lz g' key).2 := by
  cases hn : lz key with
  | none => rw [gath_none hn, gath_none hn]; exact h
  | some n =>
    rw [gath_some hn, gath_some hn]
    refine ⟨?_, ?_⟩
    · dsimp only
      rw [avN_0 h1, avN_0 (by omega), h.1]
    · dsimp only
      rw [h.2]
theorem baN_ind {lr : Nat → Nat} {lu : Nat} {lt : Nat → Nat} {lz : Nat → Option Nat} {gd gd' : Nat → Nat} : ∀ k, (baN lr lu lt lz gd k).1 = (baN lr lu lt lz gd' k).1 ∧ 1 ≤ (baN lr lu lt lz gd k).2.2 ∧ ((baN lr lu lt lz gd k).2.1 0 = (baN lr lu lt lz gd' k).2.1 0 ∧ (baN lr lu lt lz gd k).2.2 = (baN lr lu lt lz gd' k).2.2)
  | 0 => ⟨rfl, Nat.le_refl 1, by show updN gd 0 0 0 = updN gd' 0 0 0; rw [updN_s, updN_s], rfl⟩
  | k + 1 => by
    obtain ⟨h1, h2, h3⟩ := baN_ind (lr := lr) (lu := lu) (lt := lt) (lz := lz) (gd := gd) (gd' := gd') k
    have hq := gath_ind (lr := lr) (lu := lu) (lt := lt) (lz := lz) (key := k) h2 h3
    have hg1 : 1 ≤ (gath lr lu lt lz (baN lr lu lt lz gd k).2 k).2 := by
      cases hn : lz k with
      | none => rw [gath_none hn]; exact h2
      | some n => rw [gath_some hn]; dsimp only; omega
    show (baStep lr lu lt lz (baN lr lu lt lz gd k) k).1 = (baStep lr lu lt lz (baN lr lu lt lz gd' k) k).1 ∧ 1 ≤ (baStep lr lu lt lz (baN lr lu lt lz gd k) k).2.2 ∧ ((baStep lr lu lt lz (baN lr lu lt lz gd k) k).2.1 0 = (baStep lr lu lt lz (baN lr lu lt lz gd' k) k).2.1 0 ∧ (baStep lr lu lt lz (baN lr lu lt lz gd k) k).2.2 = (baStep lr lu lt lz (baN lr lu lt lz gd' k) k).2.2)
    unfold baStep
    rw [← hq.1, ← hq.2, ← h1]
    split
    · exact ⟨rfl, Nat.le_refl 1, by dsimp only; rw [updN_s, updN_s], rfl⟩
    · exact ⟨rfl, hg1, hq.1, hq.2⟩
