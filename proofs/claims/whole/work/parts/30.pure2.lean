/-! What reading the disk computes -/
def cntN (z : Nat → Option Nat) : Nat → Nat
  | 0 => 0
  | i + 1 => cntN z i + (if z i = none then 0 else 1)
def noneO (z : Nat → Option Nat) (i : Nat) : Nat → Option Nat := fun j => if j < i then none else z j
theorem noneO_0 (z : Nat → Option Nat) : noneO z 0 = z := by
  funext j
  unfold noneO
  rw [if_neg (by omega)]
theorem noneO_s (z : Nat → Option Nat) (i : Nat) : updO (noneO z i) i none = noneO z (i + 1) := by
  funext j
  unfold updO noneO
  by_cases h : j = i
  · subst h
    rw [if_pos rfl, if_pos (by omega)]
  · rw [if_neg h]
    by_cases h2 : j < i
    · rw [if_pos h2, if_pos (by omega)]
    · rw [if_neg h2, if_neg (by omega)]
/-- the live half, and its epoch -/
noncomputable def lowE (d : Nat → Nat) : Nat := if isHeadN d 0 = true then pairN d 0 else 0
noncomputable def uppE (d : Nat → Nat) : Nat := if isHeadN d 3072 = true then pairN d 3072 else 0
noncomputable def liveH (d : Nat → Nat) : Nat := if isHeadN d 3072 = true ∧ (isHeadN d 0 = false ∨ lowE d < uppE d) then 1 else 0
noncomputable def liveE (d : Nat → Nat) : Nat := if liveH d = 1 then uppE d else lowE d
/-- where the next change of an entry begins; none: no entry -/
def ieLoop (rb : Nat → Nat) (u : Nat) : Nat → Nat → Option Nat
  | 0, at' => some at'
  | k + 1, at' => if at' + 2 ≤ u ∧ rowAt rb u at' < 200 ∧ (rowAt rb u (at' + 1) ≤ 40 ∨ rowAt rb u (at' + 1) = 255) then ieLoop rb u k (at' + (if rowAt rb u (at' + 1) = 255 then 2 else 2 + rowAt rb u (at' + 1))) else none
def isEntN (rb : Nat → Nat) (u start : Nat) : Bool := decide (1 ≤ rowAt rb u start ∧ rowAt rb u start ≤ 8 ∧ ieLoop rb u (rowAt rb u start) (start + 1) = some u)
def apLoop (rb : Nat → Nat) (u : Nat) : Nat → Nat → (Nat → Nat) → (Nat → Option Nat) → (Nat → Nat) × (Nat → Option Nat)
  | 0, _, st, z => (st, z)
  | k + 1, at', st, z => if rowAt rb u at' < 200 then apLoop rb u k (at' + 2 + (if rowAt rb u (at' + 1) = 255 then 0 else rowAt rb u (at' + 1))) (updN st (rowAt rb u at') (at' + 2)) (updO z (rowAt rb u at') (if rowAt rb u (at' + 1) = 255 then none else some (rowAt rb u (at' + 1)))) else apLoop rb u k (at' + 2 + (if rowAt rb u (at' + 1) = 255 then 0 else rowAt rb u (at' + 1))) st z
abbrev rdO (hf no : Nat) : Nat := (hf * 96 + no) * 32
def rdLoop (d : Nat → Nat) (hf ep : Nat) : Nat → Nat → Nat → Bool → (Nat → Nat) → Nat → (Nat → Nat) → (Nat → Option Nat) → Nat → Nat → (Nat → Nat) × Nat × (Nat → Nat) × (Nat → Option Nat) × Nat × Nat
  | 0, _, _, _, rb, u, st, z, bl, en => (rb, u, st, z, bl, en)
  | k + 1, no, start, fi, rb, u, st, z, bl, en =>
    if rightN d (rdO hf no) no ep fi = true then
      if d (rdO hf no + 2) &&& 128 = 0 then rdLoop d hf ep k (no + 1) start false (fillN rb u (fun i => d (rdO hf no + 6 + i)) (d (rdO hf no + 2) % 64)) (u + d (rdO hf no + 2) % 64) st z bl en
      else if isEntN (fillN rb u (fun i => d (rdO hf no + 6 + i)) (d (rdO hf no + 2) % 64)) (u + d (rdO hf no + 2) % 64) start = true then
        rdLoop d hf ep k (no + 1) (u + d (rdO hf no + 2) % 64) true (fillN rb u (fun i => d (rdO hf no + 6 + i)) (d (rdO hf no + 2) % 64)) (u + d (rdO hf no + 2) % 64)
          (apLoop (fillN rb u (fun i => d (rdO hf no + 6 + i)) (d (rdO hf no + 2) % 64)) (u + d (rdO hf no + 2) % 64) (rowAt (fillN rb u (fun i => d (rdO hf no + 6 + i)) (d (rdO hf no + 2) % 64)) (u + d (rdO hf no + 2) % 64) start) (start + 1) st z).1
          (apLoop (fillN rb u (fun i => d (rdO hf no + 6 + i)) (d (rdO hf no + 2) % 64)) (u + d (rdO hf no + 2) % 64) (rowAt (fillN rb u (fun i => d (rdO hf no + 6 + i)) (d (rdO hf no + 2) % 64)) (u + d (rdO hf no + 2) % 64) start) (start + 1) st z).2 no (en + 1)
      else (fillN rb u (fun i => d (rdO hf no + 6 + i)) (d (rdO hf no + 2) % 64), u + d (rdO hf no + 2) % 64, st, z, bl, en)
    else (rb, u, st, z, bl, en)
theorem rightN_m {d : Nat → Nat} {o no ep : Nat} {fi : Bool} (h : rightN d o no ep fi = true) : 1 ≤ d (o + 2) % 64 ∧ d (o + 2) % 64 ≤ 26 := by
  have h := of_decide_eq_true h
  exact ⟨h.2.2.1, h.2.2.2.1⟩
theorem liveH_le (d : Nat → Nat) : liveH d ≤ 1 := by
  unfold liveH
  split <;> decide
theorem liveE_b {d : Nat → Nat} (h : ∀ j, d j < 256) : liveE d < 65536 := by
  have h1 := pairN_b h 0
  have h2 := pairN_b h 3072
  unfold liveE lowE uppE
  split <;> split <;> omega
noncomputable def rdN (d rb st : Nat → Nat) (z : Nat → Option Nat) : (Nat → Nat) × Nat × (Nat → Nat) × (Nat → Option Nat) × Nat × Nat := rdLoop d (liveH d) (liveE d) 95 1 0 true rb 0 st (noneO z 200) 0 0
