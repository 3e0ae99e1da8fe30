/-! Reading: the class and the reference say the same -/
theorem ieLoop_ge {rb : Nat → Nat} {u : Nat} : ∀ (k x y : Nat), ieLoop rb u k x = some y → x ≤ y
  | 0, x, y, h => by rw [ieLoop] at h; exact Nat.le_of_eq (Option.some.inj h)
  | k + 1, x, y, h => by
    by_cases q : x + 2 ≤ u ∧ rowAt rb u x < 200 ∧ (rowAt rb u (x + 1) ≤ 40 ∨ rowAt rb u (x + 1) = 255)
    · rw [ieLoop, if_pos q] at h
      have := ieLoop_ge k _ y h
      omega
    · rw [ieLoop, if_neg q] at h
      cases h
theorem ent_loop {rb ee : Nat → Nat} {u start es : Nat} (hu : u = start + es) (he : ∀ j, j < es → ee j = rb (start + j)) : ∀ (k a : Nat), ieLoop rb u k (start + a) = some u ↔ meLoop ee es k a = some es
  | 0, a => by
    rw [ieLoop, meLoop]
    constructor
    · intro h; have := Option.some.inj h; exact congrArg some (by omega)
    · intro h; have := Option.some.inj h; exact congrArg some (by omega)
  | k + 1, a => by
    by_cases h2 : a + 2 ≤ es
    · have e1 : rowAt rb u (start + a) = ee a := by rw [rowAt_lt (by omega), he a (by omega)]
      have e2 : rowAt rb u (start + a + 1) = ee (a + 1) := by rw [rowAt_lt (by omega), he (a + 1) (by omega)]; rfl
      rw [ieLoop, meLoop, e1, e2]
      have hstep : start + a + (if ee (a + 1) = 255 then 2 else 2 + ee (a + 1)) = start + (a + (2 + (if ee (a + 1) = 255 then 0 else ee (a + 1)))) := by split <;> omega
      rw [hstep]
      clear hstep
      generalize (if ee (a + 1) = 255 then 0 else ee (a + 1)) = N
      by_cases h3 : ee a < 200 ∧ (ee (a + 1) ≤ 40 ∨ ee (a + 1) = 255)
      · rw [if_pos ⟨by omega, h3⟩]
        by_cases h4 : a + 2 + N ≤ es
        · rw [if_pos ⟨h2, h3.1, h3.2, h4⟩]
          exact ent_loop hu he k _
        · rw [if_neg (fun q => h4 q.2.2.2)]
          constructor
          · intro h
            have := ieLoop_ge k _ u h
            exact absurd this (by omega)
          · intro h; cases h
      · rw [if_neg (fun q => h3 q.2), if_neg (fun q => h3 ⟨q.2.1, q.2.2.1⟩)]
        constructor
        · intro h; cases h
        · intro h; cases h
    · rw [ieLoop, meLoop, if_neg (fun q => h2 (by omega)), if_neg (fun q => h2 q.1)]
      constructor
      · intro h; cases h
      · intro h; cases h
theorem ent_eq {rb ee : Nat → Nat} {u start es : Nat} (hu : u = start + es) (h1 : 1 ≤ es) (he : ∀ j, j < es → ee j = rb (start + j)) : isEntN rb u start = isEntM ee es := by
  unfold isEntN isEntM
  have e1 : rowAt rb u start = ee 0 := by rw [rowAt_lt (by omega), he 0 (by omega)]; rfl
  rw [e1]
  have e2 := ent_loop hu he (ee 0) 1
  congr 1
  rw [propext e2]
/-- what a key's value is in both -/
def cont (rb : Nat → Nat) (top : Nat) (st : Nat → Nat) (z : Nat → Option Nat) (v : Nat → Nat) : Prop := ∀ key, key < 200 → ∀ n, z key = some n → st key + n ≤ top ∧ ∀ i, i < n → v (40 * key + i) = rb (st key + i)
theorem cont_fill {rb : Nat → Nat} {top u : Nat} {st : Nat → Nat} {z : Nat → Option Nat} {v g : Nat → Nat} {m : Nat} (h : cont rb top st z v) (ht : top ≤ u) : cont (fillN rb u g m) top st z v := fun key hk n hn => by
  obtain ⟨h1, h2⟩ := h key hk n hn
  exact ⟨h1, fun i hi => by rw [h2 i hi, fillN_out (by omega)]⟩
theorem cont_up {rb : Nat → Nat} {top top' : Nat} {st : Nat → Nat} {z : Nat → Option Nat} {v : Nat → Nat} (h : cont rb top st z v) (ht : top ≤ top') : cont rb top' st z v := fun key hk n hn => ⟨Nat.le_trans (h key hk n hn).1 ht, (h key hk n hn).2⟩
theorem ap_eq {rb ee : Nat → Nat} {u start es : Nat} (hu : u = start + es) (hub : u ≤ 2470) (he : ∀ j, j < es → ee j = rb (start + j)) : ∀ (k a : Nat) (st : Nat → Nat) (z : Nat → Option Nat) (v : Nat → Nat), meLoop ee es k a = some es → cont rb u st z v → lzOk z → (∀ q, st q < 2 ^ 20) →
    (apLoop rb u k (start + a) st z).2 = (chL ee k a z v).1 ∧ cont rb u (apLoop rb u k (start + a) st z).1 (chL ee k a z v).1 (chL ee k a z v).2 ∧ lzOk (chL ee k a z v).1 ∧ ∀ q, (apLoop rb u k (start + a) st z).1 q < 2 ^ 20
  | 0, a, st, z, v, _, hc, hz, hs => ⟨rfl, hc, hz, hs⟩
  | k + 1, a, st, z, v, hm, hc, hz, hs => by
    obtain ⟨⟨g1, g2, g3, g4⟩, g5⟩ := meLoop_s hm
    have e1 : rowAt rb u (start + a) = ee a := by rw [rowAt_lt (by omega), he a (by omega)]
    have e2 : rowAt rb u (start + a + 1) = ee (a + 1) := by rw [rowAt_lt (by omega), he (a + 1) (by omega)]; rfl
    rw [apLoop, chL, e1, e2, if_pos g2]
    have hstep : start + a + 2 + (if ee (a + 1) = 255 then 0 else ee (a + 1)) = start + (a + (2 + (if ee (a + 1) = 255 then 0 else ee (a + 1)))) := by omega
    rw [hstep]
    refine ap_eq hu hub he k _ _ _ _ g5 ?_ ?_ ?_
    · intro key hk n hn
      by_cases hkey : key = ee a
      · subst hkey
        unfold updO at hn
        rw [if_pos rfl] at hn
        unfold updN
        rw [if_pos rfl]
        by_cases h255 : ee (a + 1) = 255
        · rw [if_pos h255] at hn; cases hn
        · rw [if_neg h255] at hn
          cases Option.some.inj hn
          rw [if_neg h255] at g4 ⊢
          refine ⟨by omega, fun i hi => ?_⟩
          rw [fillN_in hi, he (a + 2 + i) (by omega)]
          congr 1
          omega
      · unfold updO at hn
        rw [if_neg hkey] at hn
        obtain ⟨q1, q2⟩ := hc key hk n hn
        have hn40 := hz key n hn
        unfold updN
        rw [if_neg hkey]
        refine ⟨q1, fun i hi => ?_⟩
        by_cases h255 : ee (a + 1) = 255
        · rw [if_pos h255]; exact q2 i hi
        · rw [if_neg h255, fillN_out (by omega)]
          exact q2 i hi
    · intro key n hn
      unfold updO at hn
      by_cases hkey : key = ee a
      · rw [if_pos hkey] at hn
        by_cases h255 : ee (a + 1) = 255
        · rw [if_pos h255] at hn; cases hn
        · rw [if_neg h255] at hn
          cases Option.some.inj hn
          omega
      · rw [if_neg hkey] at hn
        exact hz key n hn
    · intro q
      unfold updN
      split
      · omega
      · exact hs q
theorem mO_rd (hf no : Nat) : mO hf no = rdO hf no := by
  show 3072 * hf + 32 * no = (hf * 96 + no) * 32
  omega
/-- what reading says of both, and what stays -/
def rdSame (C : (Nat → Nat) × Nat × (Nat → Nat) × (Nat → Option Nat) × Nat × Nat) (M : MRS) : Prop :=
  C.2.2.2.1 = M.2.2.1 ∧ C.2.2.2.2.1 = M.2.2.2.2.1 ∧ C.2.2.2.2.2 = M.2.2.2.2.2 ∧ cont C.1 C.2.1 C.2.2.1 C.2.2.2.1 M.2.2.2.1 ∧ (∀ j, C.1 j < 256) ∧ C.2.1 ≤ 2470 ∧ (∀ q, C.2.2.1 q < 2 ^ 20) ∧ lzOk C.2.2.2.1 ∧ C.2.2.2.2.1 ≤ 95 ∧ ∀ j, M.1 j < 256
theorem rd_eq {d : Nat → Nat} {hf ep : Nat} (hd : ∀ j, d j < 256) : ∀ (k no start : Nat) (fi : Bool) (rb : Nat → Nat) (u : Nat) (st : Nat → Nat) (z : Nat → Option Nat) (bl en : Nat) (ee : Nat → Nat) (es : Nat) (v : Nat → Nat),
    1 ≤ no → no + k = 96 → u = start + es → u ≤ (no - 1) * 26 → (∀ j, j < es → ee j = rb (start + j)) → (∀ j, rb j < 256) → (∀ j, ee j < 256) → (∀ q, st q < 2 ^ 20) → lzOk z → bl ≤ 95 → cont rb start st z v → rdSame (rdLoop d hf ep k no start fi rb u st z bl en) (mrLoop d hf ep k no fi ee es z v bl en)
  | 0, no, start, fi, rb, u, st, z, bl, en, ee, es, v, h1, h2, hu, hub, he, hrb, hee, hst, hz, hbl, hc => ⟨rfl, rfl, rfl, cont_up hc (by show start ≤ u; omega), hrb, by show u ≤ 2470; omega, hst, hz, hbl, hee⟩
  | k + 1, no, start, fi, rb, u, st, z, bl, en, ee, es, v, h1, h2, hu, hub, he, hrb, hee, hst, hz, hbl, hc => by
    rw [rdLoop, mrLoop, mO_rd]
    by_cases hr : rightN d (rdO hf no) no ep fi = true
    · rw [if_pos hr, if_pos hr]
      obtain ⟨m1, m2⟩ := rightN_m hr
      have he2 : ∀ j, j < es + d (rdO hf no + 2) % 64 → fillN ee es (fun i => d (rdO hf no + 6 + i)) (d (rdO hf no + 2) % 64) j = fillN rb u (fun i => d (rdO hf no + 6 + i)) (d (rdO hf no + 2) % 64) (start + j) := by
        intro j hj
        by_cases h3 : j < es
        · rw [fillN_out (by omega), fillN_out (by omega)]
          exact he j h3
        · have e3 : j = es + (j - es) := by omega
          have e4 : start + j = u + (j - es) := by omega
          rw [e4, fillN_in (by omega)]
          have e5 : fillN ee es (fun i => d (rdO hf no + 6 + i)) (d (rdO hf no + 2) % 64) (es + (j - es)) = _ := fillN_in (by omega)
          rw [← e3] at e5
          exact e5
      have hrb2 : ∀ j, fillN rb u (fun i => d (rdO hf no + 6 + i)) (d (rdO hf no + 2) % 64) j < 256 := fillN_b hrb (fun j => hd _)
      have hee2 : ∀ j, fillN ee es (fun i => d (rdO hf no + 6 + i)) (d (rdO hf no + 2) % 64) j < 256 := fillN_b hee (fun j => hd _)
      have hc2 := cont_fill (g := fun i => d (rdO hf no + 6 + i)) (m := d (rdO hf no + 2) % 64) (u := u) hc (by omega)
      by_cases hl : d (rdO hf no + 2) &&& 128 = 0
      · rw [if_pos hl, if_pos hl]
        exact rd_eq hd k (no + 1) start false _ _ st z bl en _ _ v (by omega) (by omega) (by omega) (by omega) he2 hrb2 hee2 hst hz hbl hc2
      · rw [if_neg hl, if_neg hl]
        have hE := ent_eq (u := u + d (rdO hf no + 2) % 64) (start := start) (es := es + d (rdO hf no + 2) % 64) (by omega) (by omega) he2
        rw [hE]
        by_cases hi : isEntM (fillN ee es (fun i => d (rdO hf no + 6 + i)) (d (rdO hf no + 2) % 64)) (es + d (rdO hf no + 2) % 64) = true
        · rw [if_pos hi, if_pos hi]
          have hi2 := of_decide_eq_true hi
          obtain ⟨a1, a2, a3, a4⟩ := ap_eq (u := u + d (rdO hf no + 2) % 64) (start := start) (es := es + d (rdO hf no + 2) % 64) (by omega) (by omega) he2 _ 1 st z v hi2.2.2 (cont_up hc2 (by omega)) hz hst
          have e0 : rowAt (fillN rb u (fun i => d (rdO hf no + 6 + i)) (d (rdO hf no + 2) % 64)) (u + d (rdO hf no + 2) % 64) start = fillN ee es (fun i => d (rdO hf no + 6 + i)) (d (rdO hf no + 2) % 64) 0 := by
            rw [rowAt_lt (by omega), he2 0 (by omega)]
            rfl
          rw [e0, a1]
          exact rd_eq hd k (no + 1) _ true _ _ _ _ no (en + 1) _ 0 _ (by omega) (by omega) rfl (by omega) (fun j hj => absurd hj (by omega)) hrb2 hee2 a4 a3 (by omega) a2
        · rw [if_neg hi, if_neg hi]
          exact ⟨rfl, rfl, rfl, cont_up hc2 (by show start ≤ u + _; omega), hrb2, by show u + _ ≤ 2470; omega, hst, hz, hbl, hee2⟩
    · rw [if_neg hr, if_neg hr]
      exact ⟨rfl, rfl, rfl, cont_up hc (by show start ≤ u; omega), hrb, by show u ≤ 2470; omega, hst, hz, hbl, hee⟩
theorem noneO_eq {z : Nat → Option Nat} {key : Nat} (h : key < 200) : noneO z 200 key = none := by
  unfold noneO
  rw [if_pos h]
/-- reading the same disk -/
theorem rdN_eq {d rb st ee v : Nat → Nat} {z : Nat → Option Nat} (hd : ∀ j, d j < 256) (hrb : ∀ j, rb j < 256) (hee : ∀ j, ee j < 256) (hst : ∀ q, st q < 2 ^ 20) (hz : lzOk z) : rdSame (rdN d rb st z) (mrN d ee z v) :=
  rd_eq hd 95 1 0 true rb 0 st (noneO z 200) 0 0 ee 0 v (by omega) (by omega) rfl (by omega) (fun j hj => absurd hj (by omega)) hrb hee hst (fun k n hn => by
    unfold noneO at hn
    split at hn
    · cases hn
    · exact hz k n hn) (by omega) (fun key hk n hn => by rw [noneO_eq hk] at hn; cases hn)
