/-! commit and crash: what both have done -/
theorem fC96 {k : Nat} (h : k < 96) : fC 96 0 k = 32 := by
  unfold fC
  rw [if_pos h]
/-- class's w, the reference's plan: the disks, the counters, the answers are the same -/
theorem rel_commit {pp qq kd : Nat → Nat} {pn bw ta B wl : Nat} {ah : Option Nat} {w : WS} {c : Prop} [Decidable c] (h : WSOK pp qq 96 0 kd pn w) (hpn : pn ≤ 96) (h1 : c → ah = some B ∧ B < pn ∧ wl = 96 - B) (h2 : ¬ c → ah = none) :
    (wmN pp qq ah (fun _ => 32) kd bw ta pn).1 = w.2.2.2.2.2 ∧ (wmN pp qq ah (fun _ => 32) kd bw ta pn).2.1 = bw + w.2.2.2.1 ∧ (wmN pp qq ah (fun _ => 32) kd bw ta pn).2.2 = (if c then ta + (if 0 < wl then 1 else 0) else ta) ∧ w.2.2.2.1 = pn := by
  obtain ⟨q1, q2, q3, q4, q5⟩ := h
  have hd := wm_disk (pp := pp) (qq := qq) (dd := kd) (ah := ah) (mw := bw) (mr := ta) (n1 := 96) (n2 := 0) (f := fun _ => 32) pn (fun j hj => (fC96 (by omega)).symm)
  obtain ⟨c1, c2⟩ := wm_cnt (pp := pp) (qq := qq) (dd := kd) (ah := ah) (mw := bw) (mr := ta) (n1 := pn) (f := fun _ => 32) pn (fun j hj => ⟨fun _ => hj, fun _ => rfl⟩)
  have hw : w.2.2.2.1 = pn := by rw [q3]; omega
  refine ⟨by rw [hd, q5], by rw [c1, hw, Nat.min_self], ?_, hw⟩
  rw [c2, Nat.min_self]
  by_cases hc : c
  · obtain ⟨a1, a2, a3⟩ := h1 hc
    rw [if_pos hc, a1, a3]
    show ta + (if B < pn then 1 else 0) = _
    rw [if_pos a2, if_pos (by omega)]
  · rw [if_neg hc, h2 hc]
    rfl
theorem rel_crash {pp qq kd : Nat → Nat} {pn bw ta B wl n1 n2 : Nat} {ah : Option Nat} {w : WS} {c : Prop} [Decidable c] (h : WSOK pp qq n1 n2 kd pn w) (hn2 : n2 ≤ 31) (h1 : c → ah = some B ∧ B < pn ∧ wl = n1 - B) (h2 : ¬ c → ah = none) :
    (wmN pp qq ah (fun k => if k < n1 then 32 else n2) kd bw ta (min pn (n1 + 1))).1 = w.2.2.2.2.2 ∧ (wmN pp qq ah (fun k => if k < n1 then 32 else n2) kd bw ta (min pn (n1 + 1))).2.1 = bw + w.2.2.2.1 ∧ (wmN pp qq ah (fun k => if k < n1 then 32 else n2) kd bw ta (min pn (n1 + 1))).2.2 = (if c then ta + (if 0 < wl then 1 else 0) else ta) ∧ w.2.2.2.2.1 = whN (wmN pp qq ah (fun k => if k < n1 then 32 else n2) kd bw ta (min pn (n1 + 1))).1 pp qq pn := by
  obtain ⟨q1, q2, q3, q4, q5⟩ := h
  have hd := wm_disk (pp := pp) (qq := qq) (dd := kd) (ah := ah) (mw := bw) (mr := ta) (n1 := n1) (n2 := n2) (f := fun k => if k < n1 then 32 else n2) (min pn (n1 + 1)) (fun j hj => by
    unfold fC
    by_cases q : j < n1
    · simp only [if_pos q]
    · have : j = n1 := by omega
      simp only [if_neg q, if_pos this])
  obtain ⟨c1, c2⟩ := wm_cnt (pp := pp) (qq := qq) (dd := kd) (ah := ah) (mw := bw) (mr := ta) (n1 := n1) (f := fun k => if k < n1 then 32 else n2) (min pn (n1 + 1)) (fun j hj => by
    by_cases q : j < n1
    · simp only [if_pos q]; exact ⟨fun _ => q, fun _ => trivial⟩
    · simp only [if_neg q]; exact ⟨fun z => by omega, fun z => absurd z q⟩)
  have hd2 : (wmN pp qq ah (fun k => if k < n1 then 32 else n2) kd bw ta (min pn (n1 + 1))).1 = dM pp qq n1 n2 kd pn := by rw [hd, ← dM_tail]
  refine ⟨by rw [hd2, q5], by rw [c1, q3]; omega, ?_, by rw [hd2, q4]; rfl⟩
  rw [c2, show min (min pn (n1 + 1)) n1 = min pn n1 by omega]
  by_cases hc : c
  · obtain ⟨a1, a2, a3⟩ := h1 hc
    rw [if_pos hc, a1, a3]
    show ta + (if B < min pn n1 then 1 else 0) = _
    by_cases q : B < n1
    · rw [if_pos (by omega), if_pos (by omega)]
    · rw [if_neg (by omega), if_neg (by omega)]
  · rw [if_neg hc, h2 hc]
    rfl
