/-! What the reference's methods compute -/
theorem fillN_u0 {d : Nat → Nat} {u : Nat} {g : Nat → Nat} {n v : Nat} (h : 0 < n) : updN (fillN d u g n) u v = fillN d u (updN g 0 v) n := by
  funext j
  unfold updN fillN
  dsimp only
  by_cases h1 : j = u
  · subst h1
    rw [if_pos rfl, if_pos (by omega), if_pos (by omega)]
  · rw [if_neg h1]
    by_cases h2 : u ≤ j ∧ j < u + n
    · rw [if_pos h2, if_pos h2, if_neg (by omega)]
    · rw [if_neg h2, if_neg h2]
theorem fillN_u {d : Nat → Nat} {u : Nat} {g : Nat → Nat} {n k v : Nat} (h : k < n) : updN (fillN d u g n) (u + k) v = fillN d u (updN g k v) n := by
  funext j
  unfold updN fillN
  dsimp only
  by_cases h1 : j = u + k
  · subst h1
    rw [if_pos rfl, if_pos (by omega), if_pos (by omega)]
  · rw [if_neg h1]
    by_cases h2 : u ≤ j ∧ j < u + n
    · rw [if_pos h2, if_pos h2, if_neg (by omega)]
    · rw [if_neg h2, if_neg h2]
theorem fillN_in {d : Nat → Nat} {u : Nat} {g : Nat → Nat} {n k : Nat} (h : k < n) : fillN d u g n (u + k) = g k := by
  unfold fillN
  rw [if_pos (by omega)]
  congr 1
  omega
theorem fillN_out {d : Nat → Nat} {u : Nat} {g : Nat → Nat} {n j : Nat} (h : j < u ∨ u + n ≤ j) : fillN d u g n j = d j := by
  unfold fillN
  rw [if_neg (by omega)]
theorem sumTo_c {d g : Nat → Nat} {o o' : Nat} : ∀ k, (∀ j, j < k → d (o + j) = g (o' + j)) → sumTo d o k = sumTo g o' k
  | 0, _ => rfl
  | k + 1, h => by rw [sumTo, sumTo, sumTo_c k (fun j hj => h j (by omega)), h k (by omega)]
theorem sumN_fill (d : Nat → Nat) (u : Nat) (g : Nat → Nat) : sumN (fillN d u g 32) u = sumN g 0 := by
  unfold sumN
  rw [sumTo_c 32 (fun j hj => by rw [fillN_in hj, Nat.zero_add])]
/-- an entry: its changes one behind the other -/
def meLoop (ee : Nat → Nat) (es : Nat) : Nat → Nat → Option Nat
  | 0, at' => some at'
  | k + 1, at' => if at' + 2 ≤ es ∧ ee at' < 200 ∧ (ee (at' + 1) ≤ 40 ∨ ee (at' + 1) = 255) ∧ at' + 2 + (if ee (at' + 1) = 255 then 0 else ee (at' + 1)) ≤ es then meLoop ee es k (at' + (2 + (if ee (at' + 1) = 255 then 0 else ee (at' + 1)))) else none
def isEntM (ee : Nat → Nat) (es : Nat) : Bool := decide (1 ≤ ee 0 ∧ ee 0 ≤ 8 ∧ meLoop ee es (ee 0) 1 = some es)
theorem meLoop_s {ee : Nat → Nat} {es k at' x : Nat} (h : meLoop ee es (k + 1) at' = some x) : (at' + 2 ≤ es ∧ ee at' < 200 ∧ (ee (at' + 1) ≤ 40 ∨ ee (at' + 1) = 255) ∧ at' + 2 + (if ee (at' + 1) = 255 then 0 else ee (at' + 1)) ≤ es) ∧ meLoop ee es k (at' + (2 + (if ee (at' + 1) = 255 then 0 else ee (at' + 1)))) = some x := by
  by_cases q : at' + 2 ≤ es ∧ ee at' < 200 ∧ (ee (at' + 1) ≤ 40 ∨ ee (at' + 1) = 255) ∧ at' + 2 + (if ee (at' + 1) = 255 then 0 else ee (at' + 1)) ≤ es
  · rw [meLoop, if_pos q] at h
    exact ⟨q, h⟩
  · rw [meLoop, if_neg q] at h
    cases h
def chL (ee : Nat → Nat) : Nat → Nat → (Nat → Option Nat) → (Nat → Nat) → (Nat → Option Nat) × (Nat → Nat)
  | 0, _, z, v => (z, v)
  | k + 1, at', z, v => chL ee k (at' + (2 + (if ee (at' + 1) = 255 then 0 else ee (at' + 1)))) (updO z (ee at') (if ee (at' + 1) = 255 then none else some (ee (at' + 1)))) (if ee (at' + 1) = 255 then v else fillN v (40 * ee at') (fun i => ee (at' + 2 + i)) (ee (at' + 1)))
abbrev MRS : Type := (Nat → Nat) × Nat × (Nat → Option Nat) × (Nat → Nat) × Nat × Nat
abbrev mO (hf b : Nat) : Nat := 3072 * hf + 32 * b
def mrLoop (d : Nat → Nat) (hf ep : Nat) : Nat → Nat → Bool → (Nat → Nat) → Nat → (Nat → Option Nat) → (Nat → Nat) → Nat → Nat → MRS
  | 0, _, _, ee, es, z, v, lb, en => (ee, es, z, v, lb, en)
  | k + 1, b, fi, ee, es, z, v, lb, en =>
    if rightN d (mO hf b) b ep fi = true then
      if d (mO hf b + 2) &&& 128 = 0 then mrLoop d hf ep k (b + 1) false (fillN ee es (fun i => d (mO hf b + 6 + i)) (d (mO hf b + 2) % 64)) (es + d (mO hf b + 2) % 64) z v lb en
      else if isEntM (fillN ee es (fun i => d (mO hf b + 6 + i)) (d (mO hf b + 2) % 64)) (es + d (mO hf b + 2) % 64) = true then
        mrLoop d hf ep k (b + 1) true (fillN ee es (fun i => d (mO hf b + 6 + i)) (d (mO hf b + 2) % 64)) 0
          (chL (fillN ee es (fun i => d (mO hf b + 6 + i)) (d (mO hf b + 2) % 64)) (fillN ee es (fun i => d (mO hf b + 6 + i)) (d (mO hf b + 2) % 64) 0) 1 z v).1
          (chL (fillN ee es (fun i => d (mO hf b + 6 + i)) (d (mO hf b + 2) % 64)) (fillN ee es (fun i => d (mO hf b + 6 + i)) (d (mO hf b + 2) % 64) 0) 1 z v).2 b (en + 1)
      else (fillN ee es (fun i => d (mO hf b + 6 + i)) (d (mO hf b + 2) % 64), 0, z, v, lb, en)
    else (ee, es, z, v, lb, en)
noncomputable def mrN (d ee : Nat → Nat) (z : Nat → Option Nat) (v : Nat → Nat) : MRS := mrLoop d (liveH d) (liveE d) 95 1 true ee 0 (noneO z 200) v 0 0
/-- blocks that are planned -/
abbrev nbN (size : Nat) : Nat := (size + 25) / 26
def mHdr (ep : Nat) : Nat → Nat := updN (updN (fun _ => 0) 0 (ep % 256)) 1 (ep / 256)
def mHead (ep : Nat) : Nat → Nat := updN (updN (mHdr ep) 2 72) 3 (sumN (updN (mHdr ep) 2 72) 0)
def mLb (ep no : Nat) (gd : Nat → Nat) (gu fr : Nat) : Nat → Nat := fillN (updN (updN (updN (mHdr ep) 2 (min (gu - fr) 26 + (if fr = 0 then 64 else 0) + (if fr + min (gu - fr) 26 = gu then 128 else 0))) 4 (no % 256)) 5 (no / 256)) 6 (fun k => gd (fr + k)) (min (gu - fr) 26)
def mBlk (ep no : Nat) (gd : Nat → Nat) (gu fr : Nat) : Nat → Nat := updN (mLb ep no gd gu fr) 3 (sumN (mLb ep no gd gu fr) 0)
def peB (gd : Nat → Nat) (gu ep b : Nat) (qq : Nat → Nat) (pn : Nat) : Nat → Nat → Nat
  | 0 => qq
  | i + 1 => fillN (peB gd gu ep b qq pn i) (32 * (pn + i)) (mBlk ep (b + i) gd gu (26 * i)) 32
def mgath (z : Nat → Option Nat) (v : Nat → Nat) (g : (Nat → Nat) × Nat) (key : Nat) : (Nat → Nat) × Nat :=
  match z key with
  | none => g
  | some n => (fillN (updN (updN (updN g.1 0 (g.1 0 + 1)) g.2 key) (g.2 + 1) n) (g.2 + 2) (fun i => v (40 * key + i)) n, g.2 + (2 + n))
theorem mgath_none {z : Nat → Option Nat} {v : Nat → Nat} {g : (Nat → Nat) × Nat} {key : Nat} (h : z key = none) : mgath z v g key = g := by
  unfold mgath
  rw [h]
theorem mgath_some {z : Nat → Option Nat} {v : Nat → Nat} {g : (Nat → Nat) × Nat} {key n : Nat} (h : z key = some n) : mgath z v g key = (fillN (updN (updN (updN g.1 0 (g.1 0 + 1)) g.2 key) (g.2 + 1) n) (g.2 + 2) (fun i => v (40 * key + i)) n, g.2 + (2 + n)) := by
  unfold mgath
  rw [h]
def gaLoop (z : Nat → Option Nat) (v : Nat → Nat) : Nat → Nat → (Nat → Nat) → Nat → Nat × (Nat → Nat) × Nat
  | 0, key, g, u => (key, g, u)
  | f + 1, key, g, u => if key < 200 ∧ g 0 < 8 then gaLoop z v f (key + 1) (mgath z v (g, u) key).1 (mgath z v (g, u) key).2 else (key, g, u)
/-- what is gathered holds what it can -/
def mgOk (g : Nat → Nat) (u : Nat) : Prop := 1 ≤ u ∧ u ≤ 1 + 42 * g 0 ∧ g 0 ≤ 8
theorem mgath_ok {z : Nat → Option Nat} {v : Nat → Nat} {g : Nat → Nat} {u key : Nat} (hz : lzOk z) (h8 : g 0 < 8) (h : mgOk g u) : mgOk (mgath z v (g, u) key).1 (mgath z v (g, u) key).2 := by
  obtain ⟨h1, h2, h3⟩ := h
  cases hn : z key with
  | none => rw [mgath_none hn]; exact ⟨h1, h2, h3⟩
  | some n =>
    have hn40 := hz key n hn
    rw [mgath_some hn]
    have e0 : fillN (updN (updN (updN g 0 (g 0 + 1)) u key) (u + 1) n) (u + 2) (fun i => v (40 * key + i)) n 0 = g 0 + 1 := by
      unfold fillN
      rw [if_neg (by omega), updN_n (by omega), updN_n (by omega), updN_s]
    refine ⟨by show 1 ≤ _; omega, ?_, ?_⟩
    · dsimp only
      rw [e0]
      omega
    · dsimp only
      rw [e0]
      omega
theorem gaLoop_ok {z : Nat → Option Nat} {v : Nat → Nat} (hz : lzOk z) : ∀ (f key : Nat) (g : Nat → Nat) (u : Nat), key ≤ 200 → mgOk g u → (gaLoop z v f key g u).1 ≤ 200 ∧ key ≤ (gaLoop z v f key g u).1 ∧ mgOk (gaLoop z v f key g u).2.1 (gaLoop z v f key g u).2.2
  | 0, _, _, _, hk, h => ⟨hk, Nat.le_refl _, h⟩
  | f + 1, key, g, u, hk, h => by
    rw [gaLoop]
    split
    · rename_i q
      obtain ⟨h1, h2, h3⟩ := gaLoop_ok (v := v) hz f (key + 1) _ _ (by omega) (mgath_ok (v := v) (key := key) hz q.2 h)
      exact ⟨h1, by omega, h3⟩
    · exact ⟨hk, Nat.le_refl _, h⟩
theorem mg0 (f : Nat → Nat) : mgOk (updN f 0 0) 1 := ⟨Nat.le_refl 1, by omega, by rw [updN_s]; decide⟩
/-- each turn goes on by a key at the least -/
theorem gaLoop_gt {z : Nat → Option Nat} {v : Nat → Nat} (hz : lzOk z) {key : Nat} {g : Nat → Nat} (hk : key < 200) : key < (gaLoop z v (201 - key) key (updN g 0 0) 1).1 := by
  rw [show 201 - key = (200 - key) + 1 by omega, gaLoop, if_pos ⟨hk, by rw [updN_s]; decide⟩]
  exact (gaLoop_ok (v := v) hz _ _ _ _ (by omega) (mgath_ok (v := v) (key := key) hz (by rw [updN_s]; decide) (mg0 g))).2.1
/-- gathered, its length, places, bytes, how many -/
abbrev PS : Type := (Nat → Nat) × Nat × (Nat → Nat) × (Nat → Nat) × Nat
abbrev plG (z : Nat → Option Nat) (v : Nat → Nat) (key : Nat) (f : Nat → Nat) : Nat × (Nat → Nat) × Nat := gaLoop z v (201 - key) key (updN f 0 0) 1
def plLoop (z : Nat → Option Nat) (v : Nat → Nat) (its ep : Nat) : Nat → Nat → Nat → PS → Bool × Nat × PS
  | 0, _, block, s => (true, block, s)
  | f + 1, key, block, s =>
    if key < 200 ∧ block ≤ 96 then
      if 0 < (plG z v key s.1).2.1 0 then
        if 96 < block + (((plG z v key s.1).2.2 + 25) / 26) then (false, block, (plG z v key s.1).2.1, (plG z v key s.1).2.2, s.2.2)
        else plLoop z v its ep f (plG z v key s.1).1 (block + (((plG z v key s.1).2.2 + 25) / 26)) ((plG z v key s.1).2.1, (plG z v key s.1).2.2, fillN s.2.2.1 s.2.2.2.2 (fun j => 96 * its + (block + j)) (((plG z v key s.1).2.2 + 25) / 26), peB (plG z v key s.1).2.1 (plG z v key s.1).2.2 ep block s.2.2.2.1 s.2.2.2.2 (((plG z v key s.1).2.2 + 25) / 26), s.2.2.2.2 + (((plG z v key s.1).2.2 + 25) / 26))
      else plLoop z v its ep f (plG z v key s.1).1 block ((plG z v key s.1).2.1, (plG z v key s.1).2.2, s.2.2)
    else (true, block, s)
