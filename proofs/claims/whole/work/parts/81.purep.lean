/-! The blocks that are written: the class's one by one, the reference's as planned -/
theorem fillN_c {d : Nat → Nat} {u : Nat} {g g' : Nat → Nat} {n : Nat} (h : ∀ j, j < n → g j = g' j) : fillN d u g n = fillN d u g' n := by
  funext j
  unfold fillN
  by_cases q : u ≤ j ∧ j < u + n
  · rw [if_pos q, if_pos q, h _ (by omega)]
  · rw [if_neg q, if_neg q]
theorem fillN_p {a a' : Nat → Nat} {u : Nat} {g g' : Nat → Nat} {n j : Nat} (ha : a j = a' j) (h : ∀ t, t < n → g t = g' t) : fillN a u g n j = fillN a' u g' n j := by
  rw [fillN_c h]
  unfold fillN
  rw [ha]
theorem updN_p {a a' : Nat → Nat} {k v v' j : Nat} (ha : a j = a' j) (hv : v = v') : updN a k v j = updN a' k v' j := by
  unfold updN
  rw [ha, hv]
theorem hdr_eq {d : Nat → Nat} {ep j : Nat} (hep : ep < 65536) (hj : j < 32) : hdrN d ep j = mHdr ep j := by
  unfold hdrN mHdr
  refine updN_p (updN_p ?_ rfl) (Nat.mod_eq_of_lt (by omega))
  unfold fillN
  rw [if_pos (by omega)]
theorem cnt_dec : ∀ m, m < 27 → (m ||| 64 ||| 128 = m + 64 + 128 ∧ m ||| 64 ||| 0 = m + 64 + 0 ∧ m ||| 0 ||| 128 = m + 0 + 128 ∧ m ||| 0 ||| 0 = m + 0 + 0) := by decide
theorem cnt_eq {m : Nat} (h : m ≤ 26) (p q : Prop) [ip : Decidable p] [iq : Decidable q] : m ||| (if p then 64 else 0) ||| (if q then 128 else 0) = m + (if p then 64 else 0) + (if q then 128 else 0) := by
  obtain ⟨h1, h2, h3, h4⟩ := cnt_dec m (by omega)
  by_cases hp : p
  · by_cases hq : q
    · rw [if_pos hp, if_pos hq]; exact h1
    · rw [if_pos hp, if_neg hq]; exact h2
  · by_cases hq : q
    · rw [if_neg hp, if_pos hq]; exact h3
    · rw [if_neg hp, if_neg hq]; exact h4
theorem lb_eq {d gd gd' : Nat → Nat} {ep no gu fr j : Nat} (hep : ep < 65536) (hno : no < 65536) (hg : ∀ x, x < gu → gd' x = gd x) (hj : j < 32) : lbN d ep no gd gu fr j = mLb ep no gd' gu fr j := by
  unfold lbN mLb
  refine fillN_p (updN_p (updN_p (updN_p (hdr_eq hep hj) (cnt_eq (Nat.min_le_right _ _) _ _)) rfl) (Nat.mod_eq_of_lt (by omega))) (fun t ht => ?_)
  have h2 : t < gu - fr := Nat.lt_of_lt_of_le ht (Nat.min_le_left _ _)
  rw [rowAt_lt (by omega), hg _ (by omega)]
theorem blk_eq {d gd gd' : Nat → Nat} {ep no gu fr j : Nat} (hep : ep < 65536) (hno : no < 65536) (hg : ∀ x, x < gu → gd' x = gd x) (hj : j < 32) : logBlkN d ep no gd gu fr j = mBlk ep no gd' gu fr j := by
  unfold logBlkN mBlk
  refine updN_p (lb_eq hep hno hg hj) ?_
  unfold sumN
  exact congrArg (fun x => x % 256) (sumTo_c 32 (fun t ht => by rw [Nat.zero_add]; exact lb_eq hep hno hg ht))
theorem head_eq {d : Nat → Nat} {ep j : Nat} (hep : ep < 65536) (hj : j < 32) : headN d ep j = mHead ep j := by
  unfold headN mHead
  refine updN_p (updN_p (hdr_eq hep hj) rfl) ?_
  unfold sumN
  exact congrArg (fun x => x % 256) (sumTo_c 32 (fun t ht => by rw [Nat.zero_add]; exact updN_p (hdr_eq hep ht) rfl))
/-- how many bytes of block k are written -/
def fC (n1 n2 k : Nat) : Nat := if k < n1 then 32 else if k = n1 then n2 else 0
theorem fC_le {n1 n2 : Nat} (h : n2 ≤ 32) (k : Nat) : fC n1 n2 k ≤ 32 := by
  unfold fC
  split
  · exact Nat.le_refl _
  · split <;> omega
def dM (pp qq : Nat → Nat) (n1 n2 : Nat) (dd : Nat → Nat) : Nat → Nat → Nat
  | 0 => dd
  | m + 1 => fillN (dM pp qq n1 n2 dd m) (32 * pp m) (fun i => qq (32 * m + i)) (fC n1 n2 m)
/-- the class's block, writer and disk behind m blocks -/
def WSOK (pp qq : Nat → Nat) (n1 n2 : Nat) (dd : Nat → Nat) (m : Nat) (w : WS) : Prop := w.2.1 = n1 - m ∧ w.2.2.1 = (if m ≤ n1 then n2 else 0) ∧ w.2.2.2.1 = min m n1 ∧ w.2.2.2.2.1 = cD (∀ k, k < m → ∀ i, i < 32 → dM pp qq n1 n2 dd m (32 * pp k + i) = qq (32 * k + i)) ∧ w.2.2.2.2.2 = dM pp qq n1 n2 dd m
theorem cD_and {p q : Prop} : (cD p && cD q) = cD (p ∧ q) := by
  by_cases hp : p
  · by_cases hq : q
    · rw [cD_t hp, cD_t hq, cD_t ⟨hp, hq⟩]; rfl
    · rw [cD_f hq, Bool.and_false, cD_f (fun h => hq h.2)]
  · rw [cD_f hp, Bool.false_and, cD_f (fun h => hp h.1)]
theorem ws_0 {pp qq dd cd : Nat → Nat} {n1 n2 : Nat} : WSOK pp qq n1 n2 dd 0 (cd, n1, n2, 0, true, dd) :=
  ⟨rfl, by show n2 = _; rw [if_pos (Nat.zero_le _)], by show 0 = _; rw [Nat.zero_min], by show true = _; rw [cD_t (fun k hk => absurd hk (by omega))], rfl⟩
theorem ws_step {pp qq dd cd' : Nat → Nat} {n1 n2 m b : Nat} {w : WS} (h : WSOK pp qq n1 n2 dd m w) (hb : b = pp m) (hc : ∀ j, j < 32 → cd' j = qq (32 * m + j)) (hn2 : n2 ≤ 32) (hdis : ∀ k, k < m → pp k ≠ pp m) : WSOK pp qq n1 n2 dd (m + 1) (wStep cd' b w) := by
  obtain ⟨h1, h2, h3, h4, h5⟩ := h
  have hcnt : (if 0 < w.2.1 then 32 else w.2.2.1) = fC n1 n2 m := by
    rw [h1, h2]
    unfold fC
    by_cases q : m < n1
    · rw [if_pos (by omega), if_pos q]
    · rw [if_neg (by omega), if_neg q]
      by_cases q2 : m = n1
      · rw [if_pos (by omega), if_pos q2]
      · rw [if_neg (by omega), if_neg q2]
  have hkd : fillN w.2.2.2.2.2 (b * 32) cd' (if 0 < w.2.1 then 32 else w.2.2.1) = dM pp qq n1 n2 dd (m + 1) := by
    rw [hcnt, h5, hb, Nat.mul_comm, dM]
    exact fillN_c (fun j hj => hc j (Nat.lt_of_lt_of_le hj (fC_le hn2 m)))
  refine ⟨?_, ?_, ?_, ?_, hkd⟩
  · show w.2.1 - 1 = _
    omega
  · show (if 0 < w.2.1 then w.2.2.1 else 0) = _
    rw [h1, h2]
    by_cases q : m < n1
    · rw [if_pos (by omega), if_pos (by omega), if_pos (by omega)]
    · rw [if_neg (by omega), if_neg (by omega)]
  · show w.2.2.2.1 + (if 0 < w.2.1 then 1 else 0) = _
    rw [h1, h3]
    by_cases q : m < n1
    · rw [if_pos (by omega)]; omega
    · rw [if_neg (by omega)]; omega
  · show (w.2.2.2.2.1 && isAsN (fillN w.2.2.2.2.2 (b * 32) cd' (if 0 < w.2.1 then 32 else w.2.2.1)) (b * 32) cd') = _
    rw [hkd, h4, isAsN, cD_and]
    apply cD_eq
    have hold : ∀ k, k < m → ∀ i, i < 32 → dM pp qq n1 n2 dd (m + 1) (32 * pp k + i) = dM pp qq n1 n2 dd m (32 * pp k + i) := fun k hk i hi => by
      rw [dM]
      have := hdis k hk
      have h9 := fC_le hn2 m (n1 := n1)
      exact fillN_out (by omega)
    constructor
    · intro q k hk i hi
      by_cases hkm : k = m
      · subst hkm
        have := q.2 i hi
        rw [hb, Nat.mul_comm (pp k) 32] at this
        rw [this, hc i hi]
      · rw [hold k (by omega) i hi]
        exact q.1 k (by omega) i hi
    · intro q
      refine ⟨fun k hk i hi => by rw [← hold k hk i hi]; exact q k (by omega) i hi, fun j hj => ?_⟩
      rw [hb, Nat.mul_comm (pp m) 32, q m (by omega) j hj, hc j hj]
theorem dM_c {pp qq pp' qq' dd : Nat → Nat} {n1 n2 : Nat} (hn2 : n2 ≤ 32) : ∀ m, (∀ k, k < m → pp k = pp' k) → (∀ k, k < m → ∀ i, i < 32 → qq (32 * k + i) = qq' (32 * k + i)) → dM pp qq n1 n2 dd m = dM pp' qq' n1 n2 dd m
  | 0, _, _ => rfl
  | m + 1, h1, h2 => by
    rw [dM, dM, dM_c hn2 m (fun k hk => h1 k (by omega)) (fun k hk => h2 k (by omega)), h1 m (by omega)]
    exact fillN_c (fun j hj => h2 m (by omega) j (Nat.lt_of_lt_of_le hj (fC_le hn2 m)))
theorem ws_c {pp qq pp' qq' dd : Nat → Nat} {n1 n2 m : Nat} {w : WS} (hn2 : n2 ≤ 32) (h1 : ∀ k, k < m → pp k = pp' k) (h2 : ∀ k, k < m → ∀ i, i < 32 → qq (32 * k + i) = qq' (32 * k + i)) (h : WSOK pp qq n1 n2 dd m w) : WSOK pp' qq' n1 n2 dd m w := by
  obtain ⟨a, b, c, d, e⟩ := h
  refine ⟨a, b, c, ?_, ?_⟩
  · rw [d, dM_c hn2 m h1 h2]
    apply cD_eq
    constructor
    · intro q k hk i hi; rw [← h1 k hk, ← h2 k hk i hi]; exact q k hk i hi
    · intro q k hk i hi; rw [h1 k hk, h2 k hk i hi]; exact q k hk i hi
  · rw [e, dM_c hn2 m h1 h2]
theorem we_sim {pp qq dd ed : Nat → Nat} {n1 n2 eu half ep bh m N : Nat} {w : WS} (hn2 : n2 ≤ 32) (h : WSOK pp qq n1 n2 dd m w) (h1 : ∀ i, i < N → pp (m + i) = half * 96 + (bh + 1 + i)) (h2 : ∀ i, i < N → ∀ j, j < 32 → ∀ d, logBlkN d ep (bh + 1 + i) ed eu (i * 26) j = qq (32 * (m + i) + j)) (h3 : ∀ i, i < N → ∀ k, k < m + i → pp k ≠ pp (m + i)) : ∀ n, n ≤ N → WSOK pp qq n1 n2 dd (m + n) (weN ed eu half ep bh w n)
  | 0, _ => h
  | n + 1, hn => by
    rw [weN]
    exact ws_step (we_sim hn2 h h1 h2 h3 n (by omega)) (h1 n (by omega)).symm (fun j hj => h2 n (by omega) j hj _) hn2 (h3 n (by omega))
theorem peB_old {gd qq : Nat → Nat} {gu ep b pn x : Nat} (hx : x < 32 * pn) : ∀ i, peB gd gu ep b qq pn i x = qq x
  | 0 => rfl
  | i + 1 => by rw [peB, fillN_out (by omega), peB_old hx i]
theorem peB_new {gd qq : Nat → Nat} {gu ep b pn k j : Nat} (hj : j < 32) : ∀ i, k < i → peB gd gu ep b qq pn i (32 * (pn + k) + j) = mBlk ep (b + k) gd gu (26 * k) j
  | 0, h => absurd h (by omega)
  | i + 1, h => by
    rw [peB]
    by_cases q : k = i
    · subst q
      exact fillN_in hj
    · rw [fillN_out (by omega)]
      exact peB_new hj i (by omega)
/-- gathering the same key -/
theorem gath_eq {lr lt ll gd' g : Nat → Nat} {lu u key : Nat} {lz : Nat → Option Nat} (hk : key < 200) (hc : cont lr lu lt lz ll) (h1 : 1 ≤ u) (h : ∀ j, j < u → g j = gd' j) : (mgath lz ll (g, u) key).2 = (gath lr lu lt lz (gd', u) key).2 ∧ u ≤ (gath lr lu lt lz (gd', u) key).2 ∧ ∀ j, j < (gath lr lu lt lz (gd', u) key).2 → (mgath lz ll (g, u) key).1 j = (gath lr lu lt lz (gd', u) key).1 j := by
  cases hn : lz key with
  | none => rw [mgath_none hn, gath_none hn]; exact ⟨rfl, Nat.le_refl _, h⟩
  | some n =>
    obtain ⟨q1, q2⟩ := hc key hk n hn
    rw [mgath_some hn, gath_some hn]
    refine ⟨by show u + (2 + n) = u + 1 + 1 + n; omega, by show u ≤ u + 1 + 1 + n; omega, fun j hj => ?_⟩
    have hj : j < u + 1 + 1 + n := hj
    show fillN (updN (updN (updN g 0 (g 0 + 1)) u key) (u + 1) n) (u + 2) (fun i => ll (40 * key + i)) n j = fillN (updN (updN (updN gd' 0 (gd' 0 + 1)) u key) (u + 1) n) (u + 1 + 1) (fun i => rowAt lr lu (lt key + i)) n j
    by_cases hin : u + 2 ≤ j
    · have e1 : j = (u + 2) + (j - (u + 2)) := by omega
      rw [e1, fillN_in (by omega)]
      show _ = fillN _ (u + 2) _ n (u + 2 + (j - (u + 2)))
      rw [fillN_in (by omega), q2 _ (by omega), rowAt_lt (by omega)]
    · rw [fillN_out (by omega), fillN_out (by omega)]
      by_cases hu1 : j = u + 1
      · rw [hu1, updN_s, updN_s]
      · rw [updN_n hu1, updN_n hu1]
        by_cases hu : j = u
        · rw [hu, updN_s, updN_s]
        · rw [updN_n hu, updN_n hu]
          refine updN_p (h j (by omega)) ?_
          rw [h 0 (by omega)]
theorem ga_end {z : Nat → Option Nat} {v : Nat → Nat} {key u : Nat} {g : Nat → Nat} (h : ¬ (key < 200 ∧ g 0 < 8)) : ∀ f, gaLoop z v f key g u = (key, g, u)
  | 0 => rfl
  | f + 1 => by rw [gaLoop, if_neg h]
theorem gath_b {lr lt gd' : Nat → Nat} {lu u key : Nat} {lz : Nat → Option Nat} (hz : lzOk lz) (hlr : ∀ j, lr j < 256) (hk : key < 200) (h8 : gd' 0 < 8) (hg : ∀ j, gd' j < 256) : ∀ j, (gath lr lu lt lz (gd', u) key).1 j < 256 := by
  cases hn : lz key with
  | none => rw [gath_none hn]; exact hg
  | some n =>
    have hn40 := hz key n hn
    rw [gath_some hn]
    exact fillN_b (updN_b (updN_b (updN_b hg (by show gd' 0 + 1 < 256; omega)) (by omega)) (by omega)) (fun j => rowAt_b hlr)
/-- gathering one entry -/
theorem ga_sim {lr lt ll gd : Nat → Nat} {lu half ep : Nat} {lz : Nat → Option Nat} {w : WS} (hc : cont lr lu lt lz ll) (hz : lzOk lz) (hlr : ∀ j, lr j < 256) : ∀ (f key : Nat) (g : Nat → Nat) (u bh : Nat) (gd' : Nat → Nat), (∀ j, gd' j < 256) → key < 200 → g 0 < 8 → 200 ≤ key + f → 1 ≤ u → baN lr lu lt lz gd key = (bh, gd', u) → (∀ j, j < u → g j = gd' j) →
    ∃ gd'' : Nat → Nat, (∀ j, gd'' j < 256) ∧ key < (gaLoop lz ll f key g u).1 ∧ (gaLoop lz ll f key g u).1 ≤ 200 ∧ 1 ≤ (gaLoop lz ll f key g u).2.2 ∧ (∀ j, j < (gaLoop lz ll f key g u).2.2 → (gaLoop lz ll f key g u).2.1 j = gd'' j) ∧ baN lr lu lt lz gd (gaLoop lz ll f key g u).1 = (bh + entBlocks (gd'' 0) (gaLoop lz ll f key g u).2.2, updN gd'' 0 0, 0 + 1) ∧ waW lr lu lt lz gd half ep w (gaLoop lz ll f key g u).1 = weN gd'' (gaLoop lz ll f key g u).2.2 half ep bh (waW lr lu lt lz gd half ep w key) (entBlocks (gd'' 0) (gaLoop lz ll f key g u).2.2)
  | 0, key, g, u, bh, gd', _, hk, _, hf, _, _, _ => absurd hf (by omega)
  | f + 1, key, g, u, bh, gd', hgb, hk, h8, hf, h1, hb, hg => by
    have hgb2 := gath_b (lt := lt) (lu := lu) (u := u) hz hlr hk (by rw [← hg 0 (by omega)]; exact h8) hgb
    obtain ⟨e1, e2, e3⟩ := gath_eq (g := g) (gd' := gd') (u := u) hk hc h1 hg
    have h00 : (mgath lz ll (g, u) key).1 0 = (gath lr lu lt lz (gd', u) key).1 0 := e3 0 (by omega)
    have hbN : baN lr lu lt lz gd (key + 1) = baStep lr lu lt lz (bh, gd', u) key := by rw [baN, hb]
    have hwN : waW lr lu lt lz gd half ep w (key + 1) = if 8 ≤ (gath lr lu lt lz (gd', u) key).1 0 ∨ key = 199 then weN (gath lr lu lt lz (gd', u) key).1 (gath lr lu lt lz (gd', u) key).2 half ep bh (waW lr lu lt lz gd half ep w key) (entBlocks ((gath lr lu lt lz (gd', u) key).1 0) (gath lr lu lt lz (gd', u) key).2) else waW lr lu lt lz gd half ep w key := by rw [waW, hb]
    rw [gaLoop, if_pos ⟨hk, h8⟩]
    by_cases hfin : 8 ≤ (gath lr lu lt lz (gd', u) key).1 0 ∨ key = 199
    · rw [ga_end (by omega)]
      refine ⟨(gath lr lu lt lz (gd', u) key).1, hgb2, Nat.lt_succ_self _, hk, ?_, ?_, ?_, ?_⟩
      · show 1 ≤ (mgath lz ll (g, u) key).2
        omega
      · intro j hj
        have hj : j < (mgath lz ll (g, u) key).2 := hj
        exact e3 j (by omega)
      · show baN lr lu lt lz gd (key + 1) = _
        rw [hbN, baStep, if_pos hfin]
        show _ = (bh + entBlocks _ (mgath lz ll (g, u) key).2, _, _)
        rw [e1]
      · show waW lr lu lt lz gd half ep w (key + 1) = weN _ (mgath lz ll (g, u) key).2 half ep bh _ (entBlocks _ (mgath lz ll (g, u) key).2)
        rw [hwN, if_pos hfin, e1]
    · have hb2 : baN lr lu lt lz gd (key + 1) = (bh, (gath lr lu lt lz (gd', u) key).1, (mgath lz ll (g, u) key).2) := by rw [hbN, baStep, if_neg hfin, e1]
      obtain ⟨gd'', r0, r1, r2, r3, r4, r5, r6⟩ := ga_sim (half := half) (ep := ep) (w := w) hc hz hlr f (key + 1) (mgath lz ll (g, u) key).1 (mgath lz ll (g, u) key).2 bh (gath lr lu lt lz (gd', u) key).1 hgb2 (by omega) (by omega) (by omega) (by omega) hb2 (fun j hj => e3 j (by omega))
      refine ⟨gd'', r0, by omega, r2, r3, r4, r5, ?_⟩
      rw [r6, hwN, if_neg hfin]
theorem entB {c u : Nat} (h : 0 < c) : entBlocks c u = (u + 25) / 26 := by
  unfold entBlocks
  rw [if_neg (by omega)]
  rfl
/-- planning all keys anew -/
theorem pl_sim {lr lt ll gd dd : Nat → Nat} {lu half ep n1 n2 : Nat} {lz : Nat → Option Nat} {w : WS} (hc : cont lr lu lt lz ll) (hz : lzOk lz) (hlr : ∀ j, lr j < 256) (hn2 : n2 ≤ 32) : ∀ (f key block : Nat) (ff : Nat → Nat) (fs : Nat) (pp qq : Nat → Nat) (pn : Nat) (gd' : Nat → Nat), key ≤ 200 → 201 ≤ key + f → pn + 1 = block → block ≤ 96 → baN lr lu lt lz gd key = (pn, gd', 0 + 1) → gd' 0 = 0 → (∀ j, gd' j < 256) → (∀ i, i < pn → pp i = 96 * half + (i + 1)) →
    (ep < 65536 → WSOK pp qq n1 n2 dd pn (waW lr lu lt lz gd half ep w key) ∧ ∀ x, x < 32 * pn → qq x < 256) →
    ((plLoop lz ll half ep f key block (ff, fs, pp, qq, pn)).1 = true → (plLoop lz ll half ep f key block (ff, fs, pp, qq, pn)).2.1 = (baN lr lu lt lz gd 200).1 + 1 ∧ (plLoop lz ll half ep f key block (ff, fs, pp, qq, pn)).2.2.2.2.2.2 = (baN lr lu lt lz gd 200).1 ∧ (baN lr lu lt lz gd 200).1 ≤ 95 ∧
      (∀ i, i < (baN lr lu lt lz gd 200).1 → (plLoop lz ll half ep f key block (ff, fs, pp, qq, pn)).2.2.2.2.1 i = 96 * half + (i + 1)) ∧
      (ep < 65536 → WSOK (plLoop lz ll half ep f key block (ff, fs, pp, qq, pn)).2.2.2.2.1 (plLoop lz ll half ep f key block (ff, fs, pp, qq, pn)).2.2.2.2.2.1 n1 n2 dd (baN lr lu lt lz gd 200).1 (waW lr lu lt lz gd half ep w 200) ∧ ∀ x, x < 32 * (baN lr lu lt lz gd 200).1 → (plLoop lz ll half ep f key block (ff, fs, pp, qq, pn)).2.2.2.2.2.1 x < 256)) ∧
    ((plLoop lz ll half ep f key block (ff, fs, pp, qq, pn)).1 = false → 95 < (baN lr lu lt lz gd 200).1)
  | 0, key, block, ff, fs, pp, qq, pn, gd', hk, hf, _, _, _, _, _, _, _ => absurd hf (by omega)
  | f + 1, key, block, ff, fs, pp, qq, pn, gd', hk, hf, hpb, hbl, hb, h00, hgb, hpp, hW => by
    rw [plLoop]
    dsimp only
    by_cases hkey : key < 200
    · rw [if_pos ⟨hkey, hbl⟩]
      obtain ⟨gd'', r0, r1, r2, r3, r4, r5, r6⟩ := ga_sim (gd := gd) (half := half) (ep := ep) (w := w) hc hz hlr (201 - key) key (updN ff 0 0) 1 pn gd' hgb hkey (by rw [updN_s]; decide) (by omega) (Nat.le_refl 1) hb (fun j hj => by rw [show j = 0 by omega, updN_s, h00])
      have r40 := r4 0 (by omega)
      have r1 : key < (plG lz ll key ff).1 := r1
      have r2 : (plG lz ll key ff).1 ≤ 200 := r2
      by_cases hcnt : 0 < (plG lz ll key ff).2.1 0
      · have hcnt' : 0 < gd'' 0 := by rw [← r40]; exact hcnt
        rw [entB hcnt'] at r5 r6
        rw [if_pos hcnt]
        by_cases hfit : 96 < block + ((plG lz ll key ff).2.2 + 25) / 26
        · rw [if_pos hfit]
          refine ⟨fun h => (by cases h), fun _ => ?_⟩
          have hmo := baN_mono (lr := lr) (lu := lu) (lt := lt) (lz := lz) (gd := gd) (k := (plG lz ll key ff).1) (200 - (plG lz ll key ff).1)
          have r2' : (plG lz ll key ff).1 ≤ 200 := r2
          rw [show (plG lz ll key ff).1 + (200 - (plG lz ll key ff).1) = 200 by omega] at hmo
          have r5' : (baN lr lu lt lz gd (plG lz ll key ff).1).1 = pn + ((plG lz ll key ff).2.2 + 25) / 26 := congrArg Prod.fst r5
          omega
        · rw [if_neg hfit]
          refine pl_sim hc hz hlr hn2 f (plG lz ll key ff).1 (block + ((plG lz ll key ff).2.2 + 25) / 26) _ _ _ _ (pn + ((plG lz ll key ff).2.2 + 25) / 26) (updN gd'' 0 0) r2 (by omega) (by omega) (by omega) r5 (updN_s _ _ _) (updN_b r0 (by decide)) ?_ ?_
          · intro i hi
            by_cases hi2 : i < pn
            · rw [fillN_out (by omega)]
              exact hpp i hi2
            · have e1 : i = pn + (i - pn) := by omega
              rw [e1, fillN_in (by omega)]
              omega
          · intro hep
            rw [show waW lr lu lt lz gd half ep w (plG lz ll key ff).1 = _ from r6]
            have hW1 := ws_c (pp' := fillN pp pn (fun j => 96 * half + (block + j)) (((plG lz ll key ff).2.2 + 25) / 26)) (qq' := peB (plG lz ll key ff).2.1 (plG lz ll key ff).2.2 ep block qq pn (((plG lz ll key ff).2.2 + 25) / 26)) hn2 (fun k hk => (fillN_out (by omega)).symm) (fun k hk i hi => (peB_old (by omega) _).symm) (hW hep).1
            refine ⟨?_, ?_⟩
            rotate_left
            · intro x hx
              by_cases hx2 : x < 32 * pn
              · rw [peB_old hx2]
                exact (hW hep).2 x hx2
              · have e1 : x = 32 * (pn + (x / 32 - pn)) + x % 32 := by omega
                rw [e1, peB_new (by omega) _ (by omega), ← blk_eq (d := fun _ => 0) hep (by omega) (fun y hy => r4 y hy) (by omega)]
                exact logBlkN_b (fun _ => by decide) r0 _
            refine we_sim hn2 hW1 (N := ((plG lz ll key ff).2.2 + 25) / 26) ?_ ?_ ?_ _ (Nat.le_refl _)
            · intro i hi
              rw [fillN_in hi]
              omega
            · intro i hi j hj d
              rw [peB_new hj _ hi, blk_eq hep (by omega) (fun x hx => r4 x hx) hj, Nat.mul_comm i 26, show pn + 1 + i = block + i by omega]
            · intro i hi k hk
              rw [fillN_in hi]
              by_cases hk2 : k < pn
              · rw [fillN_out (by omega), hpp k hk2]
                omega
              · have e1 : k = pn + (k - pn) := by omega
                rw [e1, fillN_in (by omega)]
                omega
      · have hcnt' : gd'' 0 = 0 := by rw [← r40]; exact Nat.eq_zero_of_not_pos hcnt
        have hz0 : entBlocks (gd'' 0) (gaLoop lz ll (201 - key) key (updN ff 0 0) 1).2.2 = 0 := by unfold entBlocks; rw [if_pos hcnt']
        rw [hz0] at r5 r6
        rw [if_neg hcnt]
        refine pl_sim hc hz hlr hn2 f (plG lz ll key ff).1 block _ _ _ _ pn (updN gd'' 0 0) r2 (by omega) hpb hbl r5 (updN_s _ _ _) (updN_b r0 (by decide)) hpp ?_
        intro hep
        rw [show waW lr lu lt lz gd half ep w (plG lz ll key ff).1 = _ from r6]
        exact hW hep
    · rw [if_neg (fun q => hkey q.1)]
      have hk2 : key = 200 := by omega
      subst hk2
      have hb1 : (baN lr lu lt lz gd 200).1 = pn := congrArg Prod.fst hb
      rw [hb1]
      exact ⟨fun _ => ⟨hpb.symm, rfl, by omega, hpp, hW⟩, fun h => (by cases h)⟩
