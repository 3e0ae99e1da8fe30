/-! The whole plan; what is counted -/
theorem plan_all {lr lt ll gd kd bd bb ff pp qq cd : Nat → Nat} {lu lh le lb bu fs n1 n2 : Nat} {lz : Nat → Option Nat} (hn2 : n2 ≤ 32) (hc : cont lr lu lt lz ll) (hz : lzOk lz) (hlr : ∀ j, lr j < 256) (hgd : ∀ j, gd j < 256) (hbb : ∀ x, x < bu → bb x = bd x) (hbd : ∀ j, bd j < 256) (hb0 : 0 < bd 0) (h1u : 1 ≤ bu) (hbu : bu ≤ 337) (hlh : lh ≤ 1) (hle : le < 65536) (hlb : lb ≤ 95) :
    ((planM lz ll kd lh le lb bb bu ff fs pp qq).1 = false ↔ (95 < lb + entBlocks (bd 0) bu ∧ (95 < (baN lr lu lt lz gd 200).1 + entBlocks (bd 0) bu ∨ 65535 < max (gEp kd ((1 - lh) * 96) 96) le + 1))) ∧
    ∀ (pn' : Nat) (ah' : Option Nat) (pp' qq' ff' : Nat → Nat) (fs' : Nat), planM lz ll kd lh le lb bb bu ff fs pp qq = (true, pn', ah', pp', qq', ff', fs') →
      WSOK pp' qq' n1 n2 kd pn' (if 95 < lb + entBlocks (bd 0) bu then weN bd bu (1 - lh) (max (gEp kd ((1 - lh) * 96) 96) le + 1) (baN lr lu lt lz gd 200).1 (wStep (headN (waW lr lu lt lz gd (1 - lh) (max (gEp kd ((1 - lh) * 96) 96) le + 1) (cd, n1, n2, 0, true, kd) 200).1 (max (gEp kd ((1 - lh) * 96) 96) le + 1)) ((1 - lh) * 96) (waW lr lu lt lz gd (1 - lh) (max (gEp kd ((1 - lh) * 96) 96) le + 1) (cd, n1, n2, 0, true, kd) 200)) (entBlocks (bd 0) bu) else weN bd bu lh le lb (cd, n1, n2, 0, true, kd) (entBlocks (bd 0) bu)) ∧
      pn' ≤ 96 ∧ (∀ k, k < pn' → pp' k < 192) ∧ (∀ x, x < 32 * pn' → qq' x < 256) ∧ oSm ah' ∧
      (95 < lb + entBlocks (bd 0) bu → ah' = some (baN lr lu lt lz gd 200).1 ∧ (baN lr lu lt lz gd 200).1 < pn' ∧ (waW lr lu lt lz gd (1 - lh) (max (gEp kd ((1 - lh) * 96) 96) le + 1) (cd, n1, n2, 0, true, kd) 200).2.1 = n1 - (baN lr lu lt lz gd 200).1) ∧ (¬ 95 < lb + entBlocks (bd 0) bu → ah' = none) := by
  rw [entB hb0]
  by_cases hA : lb + (bu + 25) / 26 ≤ 95
  · refine ⟨?_, ?_⟩
    · rw [planM, if_pos hA]
      constructor
      · intro h; cases h
      · intro h; omega
    · intro pn' ah' pp' qq' ff' fs' h
      rw [planM, if_pos hA] at h
      simp only [Prod.mk.injEq] at h
      obtain ⟨-, z2, z3, z4, z5, z6, z7⟩ := h
      subst z2 z3 z4 z5 z6 z7
      rw [if_neg (by omega)]
      refine ⟨?_, by omega, ?_, ?_, fun n q => (by cases q), fun q => absurd q (by omega), fun _ => rfl⟩
      · refine we_sim (m := 0) (N := (bu + 25) / 26) hn2 ws_0 ?_ ?_ ?_ _ (Nat.le_refl _)
        · intro i hi
          rw [fillN_in hi]
          omega
        · intro i hi j hj d
          rw [peB_new hj _ hi, blk_eq hle (by omega) hbb hj, Nat.mul_comm i 26]
        · intro i hi k hk
          rw [fillN_in hi, show k = 0 + k by omega, fillN_in (by omega)]
          omega
      · intro k hk
        rw [show k = 0 + k by omega, fillN_in (by omega)]
        omega
      · intro x hx
        have e1 : x = 32 * (0 + x / 32) + x % 32 := by omega
        rw [e1, peB_new (by omega) _ (by omega), ← blk_eq (d := fun _ => 0) hle (by omega) hbb (by omega)]
        exact logBlkN_b (fun _ => by decide) hbd _
  · obtain ⟨Pl, hPl⟩ : ∃ Pl, plP lz ll kd lh le ff fs pp qq = Pl := ⟨_, rfl⟩
    have ps := pl_sim (gd := gd) (dd := kd) (half := 1 - lh) (ep := max (gEp kd ((1 - lh) * 96) 96) le + 1) (n1 := n1) (w := (cd, n1, n2, 0, true, kd)) hc hz hlr hn2 201 0 1 ff fs pp qq 0 (updN gd 0 0) (by omega) (by omega) rfl (by omega) rfl (updN_s _ _ _) (updN_b hgd (by decide)) (fun i hi => absurd hi (by omega)) (fun _ => ⟨ws_0, fun x hx => absurd hx (by omega)⟩)
    rw [show plLoop lz ll (1 - lh) (max (gEp kd ((1 - lh) * 96) 96) le + 1) 201 0 1 (ff, fs, pp, qq, 0) = Pl from hPl] at ps
    have hM : ∀ y, planM lz ll kd lh le lb bb bu ff fs pp qq = y ↔ (if Pl.1 = false then (false, Pl.2.2.2.2.2.2, none, Pl.2.2.2.2.1, Pl.2.2.2.2.2.1, Pl.2.2.1, Pl.2.2.2.1) else if 65535 < max (gEp kd ((1 - lh) * 96) 96) le + 1 ∨ 96 < Pl.2.1 + (bu + 25) / 26 then (false, Pl.2.2.2.2.2.2 + 1, some Pl.2.2.2.2.2.2, updN Pl.2.2.2.2.1 Pl.2.2.2.2.2.2 (96 * (1 - lh) + 0), fillN Pl.2.2.2.2.2.1 (32 * Pl.2.2.2.2.2.2) (mHead (max (gEp kd ((1 - lh) * 96) 96) le + 1)) 32, Pl.2.2.1, Pl.2.2.2.1)
        else (true, Pl.2.2.2.2.2.2 + 1 + (bu + 25) / 26, some Pl.2.2.2.2.2.2, fillN (updN Pl.2.2.2.2.1 Pl.2.2.2.2.2.2 (96 * (1 - lh) + 0)) (Pl.2.2.2.2.2.2 + 1) (fun j => 96 * (1 - lh) + (Pl.2.1 + j)) ((bu + 25) / 26), peB bb bu (max (gEp kd ((1 - lh) * 96) 96) le + 1) Pl.2.1 (fillN Pl.2.2.2.2.2.1 (32 * Pl.2.2.2.2.2.2) (mHead (max (gEp kd ((1 - lh) * 96) 96) le + 1)) 32) (Pl.2.2.2.2.2.2 + 1) ((bu + 25) / 26), Pl.2.2.1, Pl.2.2.2.1)) = y := fun y => by rw [planM, if_neg hA, hPl]
    obtain ⟨ok, blk, ff2, fs2, pp2, qq2, pn2⟩ := Pl
    dsimp only at ps hM
    generalize hEP : max (gEp kd ((1 - lh) * 96) 96) le + 1 = EP at ps hM ⊢
    obtain ⟨ps1, ps2⟩ := ps
    cases ok with
    | false =>
      have hb := ps2 rfl
      have hMf := (hM _).mpr (if_pos rfl)
      refine ⟨?_, ?_⟩
      · rw [hMf]
        exact ⟨fun _ => ⟨by omega, Or.inl (by omega)⟩, fun _ => rfl⟩
      · intro pn' ah' pp' qq' ff' fs' h
        rw [hMf] at h
        cases h
    | true =>
      obtain ⟨e1, e2, e3, e4, e5⟩ := ps1 rfl
      by_cases hR : 65535 < EP ∨ 96 < blk + (bu + 25) / 26
      · have hMf := (hM _).mpr ((if_neg (by decide)).trans (if_pos hR))
        refine ⟨?_, ?_⟩
        · rw [hMf]
          exact ⟨fun _ => ⟨by omega, by omega⟩, fun _ => rfl⟩
        · intro pn' ah' pp' qq' ff' fs' h
          rw [hMf] at h
          cases h
      · have hMf := (hM _).mpr ((if_neg (by decide)).trans (if_neg hR))
        have hep : EP < 65536 := by omega
        obtain ⟨e6, e7⟩ := e5 hep
        refine ⟨?_, ?_⟩
        · rw [hMf]
          exact ⟨fun h => (by cases h), fun h => absurd h (by omega)⟩
        · intro pn' ah' pp' qq' ff' fs' h
          rw [hMf] at h
          simp only [Prod.mk.injEq] at h
          obtain ⟨-, z2, z3, z4, z5, z6, z7⟩ := h
          subst z2 z3 z4 z5 z6 z7
          rw [if_pos (by omega)]
          generalize hB : (baN lr lu lt lz gd 200).1 = B at *
          subst e2
          subst e1
          have hpo : ∀ k, k < pn2 → fillN (updN pp2 pn2 (96 * (1 - lh) + 0)) (pn2 + 1) (fun j => 96 * (1 - lh) + (pn2 + 1 + j)) ((bu + 25) / 26) k = pp2 k := fun k hk => by rw [fillN_out (by omega), updN_n (by omega)]
          have hph : fillN (updN pp2 pn2 (96 * (1 - lh) + 0)) (pn2 + 1) (fun j => 96 * (1 - lh) + (pn2 + 1 + j)) ((bu + 25) / 26) pn2 = 96 * (1 - lh) := by rw [fillN_out (by omega), updN_s]; rfl
          have hpb : ∀ i, i < (bu + 25) / 26 → fillN (updN pp2 pn2 (96 * (1 - lh) + 0)) (pn2 + 1) (fun j => 96 * (1 - lh) + (pn2 + 1 + j)) ((bu + 25) / 26) (pn2 + 1 + i) = 96 * (1 - lh) + (pn2 + 1 + i) := fun i hi => fillN_in hi
          have hqo : ∀ x, x < 32 * pn2 → peB bb bu EP (pn2 + 1) (fillN qq2 (32 * pn2) (mHead EP) 32) (pn2 + 1) ((bu + 25) / 26) x = qq2 x := fun x hx => by rw [peB_old (by omega), fillN_out (by omega)]
          have hqh : ∀ j, j < 32 → peB bb bu EP (pn2 + 1) (fillN qq2 (32 * pn2) (mHead EP) 32) (pn2 + 1) ((bu + 25) / 26) (32 * pn2 + j) = mHead EP j := fun j hj => by rw [peB_old (by omega), fillN_in hj]
          have w1 := ws_c hn2 (fun k hk => (hpo k hk).symm) (fun k hk i hi => (hqo (32 * k + i) (by omega)).symm) e6
          have w2 := ws_step w1 (b := (1 - lh) * 96) (cd' := headN (waW lr lu lt lz gd (1 - lh) EP (cd, n1, n2, 0, true, kd) 200).1 EP) (by rw [hph]; exact Nat.mul_comm _ _) (fun j hj => by rw [hqh j hj]; exact head_eq hep hj) hn2 (fun k hk => by rw [hpo k hk, hph, e4 k hk]; omega)
          refine ⟨?_, by omega, ?_, ?_, fun n q => (by cases q; omega), fun _ => ⟨rfl, by omega, e6.1⟩, fun q => absurd (by omega) q⟩
          · refine we_sim (N := (bu + 25) / 26) hn2 w2 ?_ ?_ ?_ _ (Nat.le_refl _)
            · intro i hi
              rw [hpb i hi]
              omega
            · intro i hi j hj d
              rw [peB_new hj _ hi, blk_eq hep (by omega) hbb hj, Nat.mul_comm i 26]
            · intro i hi k hk
              rw [hpb i hi]
              by_cases hk2 : k < pn2
              · rw [hpo k hk2, e4 k hk2]
                omega
              · by_cases hk3 : k = pn2
                · rw [hk3, hph]
                  omega
                · rw [show k = pn2 + 1 + (k - (pn2 + 1)) by omega, hpb _ (by omega)]
                  omega
          · intro k hk
            by_cases hk2 : k < pn2
            · rw [hpo k hk2, e4 k hk2]
              omega
            · by_cases hk3 : k = pn2
              · rw [hk3, hph]
                omega
              · rw [show k = pn2 + 1 + (k - (pn2 + 1)) by omega, hpb _ (by omega)]
                omega
          · intro x hx
            by_cases hx2 : x < 32 * pn2
            · rw [hqo x hx2]
              exact e7 x hx2
            · by_cases hx3 : x < 32 * pn2 + 32
              · have e9 : x = 32 * pn2 + (x - 32 * pn2) := by omega
                rw [e9, hqh _ (by omega), ← head_eq (d := fun _ => 0) hep (by omega)]
                exact headN_b (fun _ => by decide) _
              · have e9 : x = 32 * (pn2 + 1 + (x / 32 - (pn2 + 1))) + x % 32 := by omega
                rw [e9, peB_new (by omega) _ (by omega), ← blk_eq (d := fun _ => 0) hep (by omega) hbb (by omega)]
                exact logBlkN_b (fun _ => by decide) hbd _
theorem dM_tail {pp qq dd : Nat → Nat} {n1 n2 : Nat} : ∀ m, dM pp qq n1 n2 dd m = dM pp qq n1 n2 dd (min m (n1 + 1))
  | 0 => by rw [Nat.zero_min]
  | m + 1 => by
    by_cases h : m + 1 ≤ n1 + 1
    · rw [Nat.min_eq_left h]
    · rw [dM, dM_tail m, Nat.min_eq_right (by omega), Nat.min_eq_right (by omega)]
      unfold fC
      rw [if_neg (by omega), if_neg (by omega), fillN_0]
theorem wm_disk {pp qq dd f : Nat → Nat} {ah : Option Nat} {mw mr n1 n2 : Nat} : ∀ k, (∀ j, j < k → f j = fC n1 n2 j) → (wmN pp qq ah f dd mw mr k).1 = dM pp qq n1 n2 dd k
  | 0, _ => rfl
  | k + 1, h => by rw [wmN, dM, h k (by omega), wm_disk k (fun j hj => h j (by omega))]
def hN (ah : Option Nat) (m : Nat) : Nat := match ah with
  | none => 0
  | some h => if h < m then 1 else 0
theorem hN_s (ah : Option Nat) (m : Nat) : hN ah (m + 1) = hN ah m + (if ah = some m then 1 else 0) := by
  cases ah with
  | none => rfl
  | some h =>
    show (if h < m + 1 then 1 else 0) = (if h < m then 1 else 0) + _
    by_cases q : h = m
    · subst q
      rw [if_pos (by omega), if_neg (by omega), if_pos rfl]
    · rw [if_neg (fun z => q (Option.some.inj z))]
      by_cases q2 : h < m
      · rw [if_pos (by omega), if_pos q2]
      · rw [if_neg (by omega), if_neg q2]
theorem wm_cnt {pp qq dd f : Nat → Nat} {ah : Option Nat} {mw mr n1 : Nat} : ∀ k, (∀ j, j < k → (f j = 32 ↔ j < n1)) → (wmN pp qq ah f dd mw mr k).2.1 = mw + min k n1 ∧ (wmN pp qq ah f dd mw mr k).2.2 = mr + hN ah (min k n1)
  | 0, _ => ⟨by rw [Nat.zero_min]; rfl, by rw [Nat.zero_min]; cases ah <;> rfl⟩
  | k + 1, h => by
    obtain ⟨h1, h2⟩ := wm_cnt (pp := pp) (qq := qq) (dd := dd) (ah := ah) (mw := mw) (mr := mr) k (fun j hj => h j (by omega))
    rw [wmN]
    dsimp only
    rw [h1, h2]
    by_cases q : k < n1
    · rw [if_pos ((h k (by omega)).mpr q), if_pos ((h k (by omega)).mpr q), Nat.min_eq_left (by omega : k ≤ n1), Nat.min_eq_left (by omega : k + 1 ≤ n1), hN_s]
      exact ⟨by omega, by omega⟩
    · rw [if_neg (fun z => q ((h k (by omega)).mp z)), if_neg (fun z => q ((h k (by omega)).mp z)), Nat.min_eq_right (by omega : n1 ≤ k), Nat.min_eq_right (by omega : n1 ≤ k + 1)]
      exact ⟨rfl, rfl⟩
