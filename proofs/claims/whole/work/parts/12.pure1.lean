/-! What the class's small methods compute, over naturals -/
def rowAt (d : Nat → Nat) (u j : Nat) : Nat := if j < u then d j else 0
theorem rowAt_lt {d : Nat → Nat} {u j : Nat} (h : j < u) : rowAt d u j = d j := by simp [rowAt, h]
theorem rowAt_b {d : Nat → Nat} {u j : Nat} (h : ∀ i, d i < 256) : rowAt d u j < 256 := by
  unfold rowAt
  split
  · exact h j
  · decide
def entBlocks (c u : Nat) : Nat := if c = 0 then 0 else (u + 26 - 1) / 26
/-- i places from u on are filled with g -/
def fillN (d : Nat → Nat) (u : Nat) (g : Nat → Nat) (i : Nat) : Nat → Nat := fun j => if u ≤ j ∧ j < u + i then g (j - u) else d j
theorem fillN_0 (d : Nat → Nat) (u : Nat) (g : Nat → Nat) : fillN d u g 0 = d := by
  funext j
  unfold fillN
  rw [if_neg (by omega)]
theorem fillN_s (d : Nat → Nat) (u : Nat) (g : Nat → Nat) (i : Nat) : updN (fillN d u g i) (u + i) (g i) = fillN d u g (i + 1) := by
  funext j
  unfold updN fillN
  by_cases h : j = u + i
  · subst h
    rw [if_pos rfl, if_pos (by omega)]
    congr 1
    omega
  · rw [if_neg h]
    by_cases h2 : u ≤ j ∧ j < u + i
    · rw [if_pos h2, if_pos (by omega)]
    · rw [if_neg h2, if_neg (by omega)]
theorem fillN_b {d : Nat → Nat} {u : Nat} {g : Nat → Nat} {i : Nat} (hd : ∀ j, d j < 256) (hg : ∀ j, g j < 256) (j : Nat) : fillN d u g i j < 256 := by
  unfold fillN
  split
  · exact hg _
  · exact hd _
theorem updN_b {d : Nat → Nat} {k v : Nat} (hd : ∀ j, d j < 256) (hv : v < 256) (j : Nat) : updN d k v j < 256 := by
  unfold updN
  split
  · exact hv
  · exact hd _
/-- the sum of a block, place by place -/
def sumTo (d : Nat → Nat) (o : Nat) : Nat → Nat
  | 0 => 0
  | k + 1 => sumTo d o k + (if k = 3 then 0 else d (o + k) * (k + 1))
def sumN (d : Nat → Nat) (o : Nat) : Nat := sumTo d o 32 % 256
theorem sumN_b (d : Nat → Nat) (o : Nat) : sumN d o < 256 := Nat.mod_lt _ (by decide)
/-- two bytes as a number, the lower one first -/
def pairN (d : Nat → Nat) (o : Nat) : Nat := d o + d (o + 1) * 256
theorem or_pair {a b : Nat} (ha : a < 256) : a ||| (b * 256) = a + b * 256 := by
  have h := Nat.shiftLeft_add_eq_or_of_lt (i := 8) (b := a) (show a < 2 ^ 8 from ha) b
  rw [Nat.shiftLeft_eq, show b * 2 ^ 8 = b * 256 from rfl] at h
  rw [Nat.or_comm]
  omega
theorem pairN_b {d : Nat → Nat} (h : ∀ j, d j < 256) (o : Nat) : pairN d o < 65536 := by
  have h1 := h o
  have h2 := h (o + 1)
  unfold pairN
  omega
def gEp (d : Nat → Nat) (o : Nat) : Nat → Nat
  | 0 => 0
  | k + 1 => max (gEp d o k) (pairN d ((o + k) * 32))
theorem gEp_b {d : Nat → Nat} (h : ∀ j, d j < 256) (o : Nat) : ∀ k, gEp d o k < 65536
  | 0 => (by decide : (0 : Nat) < 65536)
  | k + 1 => Nat.max_lt.mpr ⟨gEp_b h o k, pairN_b h _⟩
/-- a head's bytes in a block -/
def hdrN (d : Nat → Nat) (ep : Nat) : Nat → Nat := updN (updN (fillN d 0 (fun _ => 0) 32) 0 (ep % 256)) 1 (ep / 256 % 256)
def headN (d : Nat → Nat) (ep : Nat) : Nat → Nat := updN (updN (hdrN d ep) 2 72) 3 (sumN (updN (hdrN d ep) 2 72) 0)
/-- a truth value by any proposition -/
noncomputable def cD (p : Prop) : Bool := @decide p (Classical.propDecidable p)
theorem cD_t {p : Prop} (h : p) : cD p = true := @decide_eq_true p (Classical.propDecidable p) h
theorem cD_f {p : Prop} (h : ¬ p) : cD p = false := @decide_eq_false p (Classical.propDecidable p) h
theorem cD_ot {p : Prop} (h : cD p = true) : p := @of_decide_eq_true p (Classical.propDecidable p) h
theorem cD_of {p : Prop} (h : cD p = false) : ¬ p := @of_decide_eq_false p (Classical.propDecidable p) h
theorem cD_eq {p q : Prop} (h : p ↔ q) : cD p = cD q := by rw [propext h]
noncomputable def isAsN (d : Nat → Nat) (o : Nat) (g : Nat → Nat) : Bool := cD (∀ j, j < 32 → d (o + j) = g j)
noncomputable def isHeadN (d : Nat → Nat) (o : Nat) : Bool := cD ((∀ j, j < 32 → 4 ≤ j → d (o + j) = 0) ∧ d (o + 2) = 72 ∧ d (o + 3) = sumN d o)
def rightN (d : Nat → Nat) (o no ep : Nat) (fi : Bool) : Bool := decide (pairN d o = ep ∧ pairN d (o + 4) = no ∧ 1 ≤ d (o + 2) % 64 ∧ d (o + 2) % 64 ≤ 26 ∧ decide (d (o + 2) &&& 64 ≠ 0) = fi ∧ d (o + 3) = sumN d o)
theorem max_nI {a b : Nat} (ha : a < 2 ^ 31) (hb : b < 2 ^ 31) : (if nI a < nI b then nI b else nI a) = nI (max a b) := by
  by_cases h : a < b
  · rw [if_pos (nI_lt h hb), Nat.max_eq_right (Nat.le_of_lt h)]
  · rw [if_neg (nI_nlt (Nat.not_lt.mp h) ha), Nat.max_eq_left (Nat.not_lt.mp h)]
theorem min_nI {a b : Nat} (ha : a < 2 ^ 31) (hb : b < 2 ^ 31) : (if nI b < nI a then nI b else nI a) = nI (min a b) := by
  by_cases h : b < a
  · rw [if_pos (nI_lt h ha), Nat.min_eq_right (Nat.le_of_lt h)]
  · rw [if_neg (nI_nlt (Nat.not_lt.mp h) hb), Nat.min_eq_left (Nat.not_lt.mp h)]
/-- a log block's bytes -/
def lbN (d : Nat → Nat) (ep no : Nat) (gd : Nat → Nat) (gu fr : Nat) : Nat → Nat :=
  fillN (updN (updN (updN (hdrN d ep) 2 (min (gu - fr) 26 ||| (if fr = 0 then 64 else 0) ||| (if fr + min (gu - fr) 26 = gu then 128 else 0))) 4 (no % 256)) 5 (no / 256 % 256)) 6 (fun i => rowAt gd gu (fr + i)) (min (gu - fr) 26)
def logBlkN (d : Nat → Nat) (ep no : Nat) (gd : Nat → Nat) (gu fr : Nat) : Nat → Nat := updN (lbN d ep no gd gu fr) 3 (sumN (lbN d ep no gd gu fr) 0)
