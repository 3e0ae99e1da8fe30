/-! The reference's plan, and its writes -/
def plP (zz : Nat → Option Nat) (ll dd : Nat → Nat) (mh me : Nat) (ff : Nat → Nat) (fs : Nat) (pp qq : Nat → Nat) : Bool × Nat × PS := plLoop zz ll (1 - mh) (max (gEp dd ((1 - mh) * 96) 96) me + 1) 201 0 1 (ff, fs, pp, qq, 0)
/-- may it be written, how many blocks, the head's number among them, places, bytes; gathered -/
def planM (zz : Nat → Option Nat) (ll dd : Nat → Nat) (mh me mb : Nat) (bb : Nat → Nat) (bs : Nat) (ff : Nat → Nat) (fs : Nat) (pp qq : Nat → Nat) : Bool × Nat × Option Nat × (Nat → Nat) × (Nat → Nat) × (Nat → Nat) × Nat :=
  if mb + (bs + 25) / 26 ≤ 95 then (true, 0 + (bs + 25) / 26, none, fillN pp 0 (fun j => 96 * mh + (mb + 1 + j)) ((bs + 25) / 26), peB bb bs me (mb + 1) qq 0 ((bs + 25) / 26), ff, fs)
  else if (plP zz ll dd mh me ff fs pp qq).1 = false then (false, (plP zz ll dd mh me ff fs pp qq).2.2.2.2.2.2, none, (plP zz ll dd mh me ff fs pp qq).2.2.2.2.1, (plP zz ll dd mh me ff fs pp qq).2.2.2.2.2.1, (plP zz ll dd mh me ff fs pp qq).2.2.1, (plP zz ll dd mh me ff fs pp qq).2.2.2.1)
  else if 65535 < max (gEp dd ((1 - mh) * 96) 96) me + 1 ∨ 96 < (plP zz ll dd mh me ff fs pp qq).2.1 + (bs + 25) / 26 then (false, (plP zz ll dd mh me ff fs pp qq).2.2.2.2.2.2 + 1, some (plP zz ll dd mh me ff fs pp qq).2.2.2.2.2.2, updN (plP zz ll dd mh me ff fs pp qq).2.2.2.2.1 (plP zz ll dd mh me ff fs pp qq).2.2.2.2.2.2 (96 * (1 - mh) + 0), fillN (plP zz ll dd mh me ff fs pp qq).2.2.2.2.2.1 (32 * (plP zz ll dd mh me ff fs pp qq).2.2.2.2.2.2) (mHead (max (gEp dd ((1 - mh) * 96) 96) me + 1)) 32, (plP zz ll dd mh me ff fs pp qq).2.2.1, (plP zz ll dd mh me ff fs pp qq).2.2.2.1)
  else (true, (plP zz ll dd mh me ff fs pp qq).2.2.2.2.2.2 + 1 + (bs + 25) / 26, some (plP zz ll dd mh me ff fs pp qq).2.2.2.2.2.2, fillN (updN (plP zz ll dd mh me ff fs pp qq).2.2.2.2.1 (plP zz ll dd mh me ff fs pp qq).2.2.2.2.2.2 (96 * (1 - mh) + 0)) ((plP zz ll dd mh me ff fs pp qq).2.2.2.2.2.2 + 1) (fun j => 96 * (1 - mh) + ((plP zz ll dd mh me ff fs pp qq).2.1 + j)) ((bs + 25) / 26), peB bb bs (max (gEp dd ((1 - mh) * 96) 96) me + 1) (plP zz ll dd mh me ff fs pp qq).2.1 (fillN (plP zz ll dd mh me ff fs pp qq).2.2.2.2.2.1 (32 * (plP zz ll dd mh me ff fs pp qq).2.2.2.2.2.2) (mHead (max (gEp dd ((1 - mh) * 96) 96) me + 1)) 32) ((plP zz ll dd mh me ff fs pp qq).2.2.2.2.2.2 + 1) ((bs + 25) / 26), (plP zz ll dd mh me ff fs pp qq).2.2.1, (plP zz ll dd mh me ff fs pp qq).2.2.2.1)
/-- disk, blocks written, times anew, behind k writes -/
def wmN (pp qq : Nat → Nat) (ah : Option Nat) (f : Nat → Nat) (dd : Nat → Nat) (mw mr : Nat) : Nat → (Nat → Nat) × Nat × Nat
  | 0 => (dd, mw, mr)
  | k + 1 => (fillN (wmN pp qq ah f dd mw mr k).1 (32 * pp k) (fun i => qq (32 * k + i)) (f k), (if f k = 32 then (wmN pp qq ah f dd mw mr k).2.1 + 1 else (wmN pp qq ah f dd mw mr k).2.1), (if f k = 32 then (wmN pp qq ah f dd mw mr k).2.2 + (if ah = some k then 1 else 0) else (wmN pp qq ah f dd mw mr k).2.2))
theorem fillN_b2 {d : Nat → Nat} {u : Nat} {g : Nat → Nat} {i : Nat} (hd : ∀ j, d j < 256) (hg : ∀ j, j < i → g j < 256) (j : Nat) : fillN d u g i j < 256 := by
  unfold fillN
  split
  · exact hg _ (by omega)
  · exact hd _
theorem wmN_b {pp qq : Nat → Nat} {ah : Option Nat} {f : Nat → Nat} {dd : Nat → Nat} {mw mr : Nat} {pn : Nat} (hd : ∀ j, dd j < 256) (hf : ∀ k, f k ≤ 32) (hq : ∀ x, x < 32 * pn → qq x < 256) : ∀ k, k ≤ pn → ∀ j, (wmN pp qq ah f dd mw mr k).1 j < 256
  | 0, _ => hd
  | k + 1, hk => by
    rw [wmN]
    exact fillN_b2 (wmN_b hd hf hq k (by omega)) (fun j hj => hq _ (by have := hf k; omega))
/-- is every block as it was planned -/
noncomputable def whN (dd pp qq : Nat → Nat) (pn : Nat) : Bool := cD (∀ k, k < pn → ∀ i, i < 32 → dd (32 * pp k + i) = qq (32 * k + i))
