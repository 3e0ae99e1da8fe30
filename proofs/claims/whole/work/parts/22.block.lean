abbrev rm_Block_at : Room := { frames := 0, cells := 0, slots := 0, locals := 0 }
set_option maxHeartbeats 4000000 in
set_option maxRecDepth 100000 in
theorem c_Block_at (l : Launch) (dC : Nat → ClassId) (dI : Nat → Nat → Nat) (cI : ClassId) (sz : Nat) (h0 : Nat) (h1 : Nat) (d : Nat → Nat) (j : Nat) (hj : j < 32) : KI l y_Block_at w_Block_at rm_Block_at (dC, dI) CL_ [(cI, .int)] sz [.ref h0, .int (nI j)] [(h0, .inr (2, [.ref h1])), (h1, .inl (cI, 32, .inl (nA d)))] [(h0, .inr (2, [.ref h1])), (h1, .inl (cI, 32, .inl (nA d)))] (nI (d j)) := by
  refine k_start_i (cc := b_Block_at) (maxL := 2) (by decide) (Nat.le_of_ble_eq_true rfl) ?_
  intro p e s m args below meth c A QQ ls SS hK hP hD hA hl hN hret
  obtain ⟨hx, hb, hml, hown, hts⟩ := id SS
  have hl : lv_has ls 2 [(0, .ref h0), (1, .int (nI j))] := hl
  have hS : va_S A s.heap s.heap [] := va_S.rf
  refine lv_iload_n hx hb d_Block_at_0 rfl (lv_at hl 1 rfl) ?_
  refine n_if_lt (tgt := 19) hx hb d_Block_at_1 (by decide) (by omega) ?_
  refine lv_iload_n hx hb d_Block_at_4 rfl (lv_at hl 1 rfl) ?_
  refine lv_bipush (v := nI 32) hx hb d_Block_at_5 (by decide) ?_
  refine n_icmp_ge (tgt := 19) hx hb d_Block_at_7 (by decide) (by omega) (by omega) (fun c_7 => ?_) (fun c_7 => ?_)
  · exact absurd c_7 (by omega)
  · skip
    refine lv_aload_n hx hb d_Block_at_10 rfl (lv_at hl 0 rfl) ?_
    refine va_get (D := (dC, dI)) (ci := 2) (v := .ref h1) (C := R_Block) (T := F_Block) (N := 1) hx hb hts in_Block hown hK hP 0 rfl rfl 0 (by decide) (hts _ u_138) (fun _ h9 => h9) rfl d_Block_at_11 ?_
    refine lv_iload_n hx hb d_Block_at_14 rfl (lv_at hl 1 rfl) ?_
    refine n_iald (v := nI (d j)) hx hb hK hP 1 0 rfl rfl rfl (by omega) (by omega) d_Block_at_15 ?_
    refine lv_goto (tgt := 20) hx hb d_Block_at_16 (by decide) ?_
    exact hret (nI (d j)) _ _ 20 ls d_Block_at_20 (hP.sub [0, 1] rfl) (hD.sub [0, 1] (by decide) rfl) hS rfl
abbrev rm_Block_begin : Room := { frames := 0, cells := 0, slots := 0, locals := 0 }
set_option maxHeartbeats 4000000 in
set_option maxRecDepth 100000 in
theorem c_Block_begin (l : Launch) (dC : Nat → ClassId) (dI : Nat → Nat → Nat) (cI : ClassId) (sz : Nat) (h0 : Nat) (h1 : Nat) (d : Nat → Nat) (ep : Nat) (hep : ep < 2 ^ 31) : KV l y_Block_begin w_Block_begin rm_Block_begin (dC, dI) CL_ [(cI, .int)] sz [.ref h0, .int (nI ep)] [(h0, .inr (2, [.ref h1])), (h1, .inl (cI, 32, .inl (nA d)))] [(h0, .inr (2, [.ref h1])), (h1, .inl (cI, 32, .inl (nA (hdrN d ep))))] := by
  refine k_start_v (cc := b_Block_begin) (maxL := 3) (by decide) (Nat.le_of_ble_eq_true rfl) ?_
  intro p e s m args below meth c A QQ ls SS hK hP hD hA hl hN hret
  obtain ⟨hx, hb, hml, hown, hts⟩ := id SS
  have hl : lv_has ls 3 [(0, .ref h0), (1, .int (nI ep))] := hl
  have hS : va_S A s.heap s.heap [] := va_S.rf
  refine lv_iconst (v := nI 0) hx hb d_Block_begin_0 (by decide) ?_
  refine lv_istore_n (lv' := [(2, .int (nI 0)), (0, .ref h0), (1, .int (nI ep))]) hx hb d_Block_begin_1 rfl hl (by decide) rfl (fun ls hl => ?_)
  have loop_2 : ∀ (n_ : Nat) (i : Nat), (i ≤ 32) → (33 ≤ i + n_) → ∀ (H : Heap) (locs : List Loc) (ls : Array Slot), va_P (dC, dI) CL_ [(h0, .inr (2, [.ref h1])), (h1, .inl (cI, 32, .inl (nA (fillN d 0 (fun _ => 0) i))))] H → va_D A [(h0, .inr (2, [.ref h1])), (h1, .inl (cI, 32, .inl (nA (fillN d 0 (fun _ => 0) i))))] → va_S A s.heap H locs → lv_has ls 3 [(0, .ref h0), (1, .int (nI ep)), (2, .int (nI i))] → W p l e rm_Block_begin s m args below meth c H locs 0 0 QQ (F0 m 2 ls []) := by
    intro n_
    induction n_ with
    | zero =>
      intro i hi hf
      exact absurd hf (by omega)
    | succ n_ ih =>
      intro i hi hf H locs ls hP hD hS hl
      refine lv_iload_n hx hb d_Block_begin_2 rfl (lv_at hl 2 rfl) ?_
      refine lv_bipush (v := nI 32) hx hb d_Block_begin_3 (by decide) ?_
      refine n_icmp_ge (tgt := 21) hx hb d_Block_begin_5 (by decide) (by omega) (by omega) (fun c_5 => ?_) (fun c_5 => ?_)
      · skip
        have hq : i = 32 := by omega
        rw [hq] at hP hD
        have hP : va_P (dC, dI) CL_ [(h0, .inr (2, [.ref h1])), (h1, .inl (cI, 32, .inl (nA (fillN d 0 (fun _ => 0) 32))))] H := hP
        have hD : va_D A [(h0, .inr (2, [.ref h1])), (h1, .inl (cI, 32, .inl (nA (fillN d 0 (fun _ => 0) 32))))] := hD
        refine lv_aload_n hx hb d_Block_begin_21 rfl (lv_at hl 0 rfl) ?_
        refine va_get (D := (dC, dI)) (ci := 2) (v := .ref h1) (C := R_Block) (T := F_Block) (N := 1) hx hb hts in_Block hown hK hP 0 rfl rfl 0 (by decide) (hts _ u_138) (fun _ h9 => h9) rfl d_Block_begin_22 ?_
        refine lv_iconst (v := nI 0) hx hb d_Block_begin_25 (by decide) ?_
        refine lv_iload_n hx hb d_Block_begin_26 rfl (lv_at hl 1 rfl) ?_
        refine lv_sipush (v := nI 255) hx hb d_Block_begin_27 (by decide) ?_
        refine n_iandm hx hb d_Block_begin_30 ?_
        refine n_iast (f' := nA (updN (fillN d 0 (fun _ => 0) 32) 0 (ep % 256))) hx hb hK hP hD hS 1 0 rfl rfl (nA_upd _ _ _) (by omega) (by omega) d_Block_begin_31 (fun H locs hP hD hS => ?_)
        have hP : va_P (dC, dI) CL_ [(h0, .inr (2, [.ref h1])), (h1, .inl (cI, 32, .inl (nA (updN (fillN d 0 (fun _ => 0) 32) 0 (ep % 256)))))] H := hP
        have hD : va_D A [(h0, .inr (2, [.ref h1])), (h1, .inl (cI, 32, .inl (nA (updN (fillN d 0 (fun _ => 0) 32) 0 (ep % 256)))))] := hD
        refine lv_aload_n hx hb d_Block_begin_32 rfl (lv_at hl 0 rfl) ?_
        refine va_get (D := (dC, dI)) (ci := 2) (v := .ref h1) (C := R_Block) (T := F_Block) (N := 1) hx hb hts in_Block hown hK hP 0 rfl rfl 0 (by decide) (hts _ u_138) (fun _ h9 => h9) rfl d_Block_begin_33 ?_
        refine lv_iconst (v := nI 1) hx hb d_Block_begin_36 (by decide) ?_
        refine lv_iload_n hx hb d_Block_begin_37 rfl (lv_at hl 1 rfl) ?_
        refine lv_bipush (v := nI 8) hx hb d_Block_begin_38 (by decide) ?_
        refine n_iushr8 hx hb d_Block_begin_40 (by omega) ?_
        refine lv_sipush (v := nI 255) hx hb d_Block_begin_41 (by decide) ?_
        refine n_iandm hx hb d_Block_begin_44 ?_
        refine n_iast (f' := nA (updN (updN (fillN d 0 (fun _ => 0) 32) 0 (ep % 256)) 1 ((ep / 256) % 256))) hx hb hK hP hD hS 1 0 rfl rfl (nA_upd _ _ _) (by omega) (by omega) d_Block_begin_45 (fun H locs hP hD hS => ?_)
        have hP : va_P (dC, dI) CL_ [(h0, .inr (2, [.ref h1])), (h1, .inl (cI, 32, .inl (nA (updN (updN (fillN d 0 (fun _ => 0) 32) 0 (ep % 256)) 1 ((ep / 256) % 256)))))] H := hP
        have hD : va_D A [(h0, .inr (2, [.ref h1])), (h1, .inl (cI, 32, .inl (nA (updN (updN (fillN d 0 (fun _ => 0) 32) 0 (ep % 256)) 1 ((ep / 256) % 256)))))] := hD
        exact hret _ _ 46 ls d_Block_begin_46 (hP.sub [0, 1] rfl) (hD.sub [0, 1] (by decide) rfl) hS
      · skip
        refine lv_aload_n hx hb d_Block_begin_8 rfl (lv_at hl 0 rfl) ?_
        refine va_get (D := (dC, dI)) (ci := 2) (v := .ref h1) (C := R_Block) (T := F_Block) (N := 1) hx hb hts in_Block hown hK hP 0 rfl rfl 0 (by decide) (hts _ u_138) (fun _ h9 => h9) rfl d_Block_begin_9 ?_
        refine lv_iload_n hx hb d_Block_begin_12 rfl (lv_at hl 2 rfl) ?_
        refine lv_iconst (v := nI 0) hx hb d_Block_begin_13 (by decide) ?_
        refine n_iast (f' := nA (updN (fillN d 0 (fun _ => 0) i) i 0)) hx hb hK hP hD hS 1 0 rfl rfl (nA_upd _ _ _) (by omega) (by omega) d_Block_begin_14 (fun H locs hP hD hS => ?_)
        have hP : va_P (dC, dI) CL_ [(h0, .inr (2, [.ref h1])), (h1, .inl (cI, 32, .inl (nA (updN (fillN d 0 (fun _ => 0) i) i 0))))] H := hP
        have hD : va_D A [(h0, .inr (2, [.ref h1])), (h1, .inl (cI, 32, .inl (nA (updN (fillN d 0 (fun _ => 0) i) i 0))))] := hD
        refine lv_iinc (v := nI (i + 1)) (lv' := [(2, .int (nI (i + 1))), (0, .ref h0), (1, .int (nI ep))]) hx hb d_Block_begin_15 hl (k := 2) rfl (inc1 i) (by decide) rfl (fun ls hl => ?_)
        refine lv_goto (tgt := 2) hx hb d_Block_begin_18 (by decide) ?_
        have e9 : updN (fillN d 0 (fun _ => 0) i) i 0 = fillN d 0 (fun _ => 0) (i + 1) := by rw [← fillN_s, Nat.zero_add]
        rw [e9] at hP hD
        exact ih (i + 1) (by omega) (by omega) _ _ _ (hP.sub [0, 1] rfl) (hD.sub [0, 1] (by decide) rfl) hS (lv_sub hl [1, 2, 0] rfl)
  rw [← fillN_0 d 0 (fun _ => 0)] at hP hD
  exact loop_2 33 0 (by omega) (by omega) _ _ _ (hP.sub [0, 1] rfl) (hD.sub [0, 1] (by decide) rfl) hS (lv_sub hl [1, 2, 0] rfl)
abbrev rm_Block_makeHead : Room := { frames := 1, cells := 0, slots := 0, locals := 23 }
set_option maxHeartbeats 4000000 in
set_option maxRecDepth 100000 in
theorem c_Block_makeHead (l : Launch) (dC : Nat → ClassId) (dI : Nat → Nat → Nat) (cI : ClassId) (sz : Nat) (h0 : Nat) (h1 : Nat) (d : Nat → Nat) (ep : Nat) (hep : ep < 2 ^ 31) : KV l y_Block_makeHead w_Block_makeHead rm_Block_makeHead (dC, dI) CL_ [(cI, .int)] sz [.ref h0, .int (nI ep)] [(h0, .inr (2, [.ref h1])), (h1, .inl (cI, 32, .inl (nA d)))] [(h0, .inr (2, [.ref h1])), (h1, .inl (cI, 32, .inl (nA (headN d ep))))] := by
  refine k_start_v (cc := b_Block_makeHead) (maxL := 2) (by decide) (Nat.le_of_ble_eq_true rfl) ?_
  intro p e s m args below meth c A QQ ls SS hK hP hD hA hl hN hret
  obtain ⟨hx, hb, hml, hown, hts⟩ := id SS
  have hl : lv_has ls 2 [(0, .ref h0), (1, .int (nI ep))] := hl
  have hS : va_S A s.heap s.heap [] := va_S.rf
  refine lv_aload_n hx hb d_Block_makeHead_0 rfl (lv_at hl 0 rfl) ?_
  refine lv_iload_n hx hb d_Block_makeHead_1 rfl (lv_at hl 1 rfl) ?_
  refine kj_v (wr := []) (va_runV (As := [.int (nI ep)]) (rest := []) SS (c_Block_begin l dC dI cI s.heap.size h0 h1 d ep (by omega)) (k_cwV 1 hts u_165 u_167 u_0 u_41 u_168 rfl rfl (by decide +kernel) ⟨Nat.le_of_ble_eq_true rfl, Nat.le_of_ble_eq_true rfl⟩) (kp_V hN hK [0] rfl hP hD [0, 1] rfl (by decide) (ci := 2) rfl 0 rfl) rfl rfl hl.1 rfl (lv_room (Nat.le_of_ble_eq_true rfl)) d_Block_makeHead_2 ⟨Nat.le_of_ble_eq_true rfl, Nat.le_of_ble_eq_true rfl⟩) hP hD hS hA [0, 1] [] rfl rfl (by decide) (by decide) (fun H locs hP hD hS => ?_)
  have hP : va_P (dC, dI) CL_ [(h0, .inr (2, [.ref h1])), (h1, .inl (cI, 32, .inl (nA (hdrN d ep))))] H := hP
  have hD : va_D A [(h0, .inr (2, [.ref h1])), (h1, .inl (cI, 32, .inl (nA (hdrN d ep))))] := hD
  refine lv_aload_n hx hb d_Block_makeHead_5 rfl (lv_at hl 0 rfl) ?_
  refine va_get (D := (dC, dI)) (ci := 2) (v := .ref h1) (C := R_Block) (T := F_Block) (N := 1) hx hb hts in_Block hown hK hP 0 rfl rfl 0 (by decide) (hts _ u_138) (fun _ h9 => h9) rfl d_Block_makeHead_6 ?_
  refine lv_iconst (v := nI 2) hx hb d_Block_makeHead_9 (by decide) ?_
  refine lv_bipush (v := nI 72) hx hb d_Block_makeHead_10 (by decide) ?_
  refine n_iast (f' := nA (updN (hdrN d ep) 2 72)) hx hb hK hP hD hS 1 0 rfl rfl (nA_upd _ _ _) (by omega) (by omega) d_Block_makeHead_12 (fun H locs hP hD hS => ?_)
  have hP : va_P (dC, dI) CL_ [(h0, .inr (2, [.ref h1])), (h1, .inl (cI, 32, .inl (nA (updN (hdrN d ep) 2 72))))] H := hP
  have hD : va_D A [(h0, .inr (2, [.ref h1])), (h1, .inl (cI, 32, .inl (nA (updN (hdrN d ep) 2 72))))] := hD
  refine lv_aload_n hx hb d_Block_makeHead_13 rfl (lv_at hl 0 rfl) ?_
  refine va_get (D := (dC, dI)) (ci := 2) (v := .ref h1) (C := R_Block) (T := F_Block) (N := 1) hx hb hts in_Block hown hK hP 0 rfl rfl 0 (by decide) (hts _ u_138) (fun _ h9 => h9) rfl d_Block_makeHead_14 ?_
  refine lv_iconst (v := nI 3) hx hb d_Block_makeHead_17 (by decide) ?_
  refine lv_aload_n hx hb d_Block_makeHead_18 rfl (lv_at hl 0 rfl) ?_
  refine va_get (D := (dC, dI)) (ci := 2) (v := .ref h1) (C := R_Block) (T := F_Block) (N := 1) hx hb hts in_Block hown hK hP 0 rfl rfl 0 (by decide) (hts _ u_138) (fun _ h9 => h9) rfl d_Block_makeHead_19 ?_
  refine lv_iconst (v := nI 0) hx hb d_Block_makeHead_22 (by decide) ?_
  refine kj_i (wr := [(h0, .inr (2, [.ref h1]))]) (va_runSN (As := [.ref h1, .int (nI 0)]) (rest := [.int (nI 3), .ref h1]) SS (c_sumOf l dC dI cI H.size h1 32 (updN (hdrN d ep) 2 72) 0 (by omega) (by omega)) (k_cwN 2 hts hN (List.mem_of_getElem? (i := 4) rfl) u_170 u_35 u_171 rfl rfl (by decide +kernel) ⟨Nat.le_of_ble_eq_true rfl, Nat.le_of_ble_eq_true rfl⟩) (kp_S hN hK [0] rfl hP hD [1] rfl (by decide)) rfl rfl hl.1 rfl (lv_room (Nat.le_of_ble_eq_true rfl)) d_Block_makeHead_23 ⟨Nat.le_of_ble_eq_true rfl, Nat.le_of_ble_eq_true rfl⟩) hP hD hS hA [1] [0] rfl rfl (by decide) (by decide) (fun H locs hP hD hS => ?_)
  have hP : va_P (dC, dI) CL_ [(h0, .inr (2, [.ref h1])), (h1, .inl (cI, 32, .inl (nA (updN (hdrN d ep) 2 72))))] H := hP
  have hD : va_D A [(h0, .inr (2, [.ref h1])), (h1, .inl (cI, 32, .inl (nA (updN (hdrN d ep) 2 72))))] := hD
  refine n_iast (f' := nA (updN (updN (hdrN d ep) 2 72) 3 (sumN (updN (hdrN d ep) 2 72) 0))) hx hb hK hP hD hS 1 0 rfl rfl (nA_upd _ _ _) (by omega) (by omega) d_Block_makeHead_26 (fun H locs hP hD hS => ?_)
  have hP : va_P (dC, dI) CL_ [(h0, .inr (2, [.ref h1])), (h1, .inl (cI, 32, .inl (nA (updN (updN (hdrN d ep) 2 72) 3 (sumN (updN (hdrN d ep) 2 72) 0)))))] H := hP
  have hD : va_D A [(h0, .inr (2, [.ref h1])), (h1, .inl (cI, 32, .inl (nA (updN (updN (hdrN d ep) 2 72) 3 (sumN (updN (hdrN d ep) 2 72) 0)))))] := hD
  exact hret _ _ 27 ls d_Block_makeHead_27 (hP.sub [0, 1] rfl) (hD.sub [0, 1] (by decide) rfl) hS
abbrev rm_Block_makeLogBlock : Room := { frames := 1, cells := 0, slots := 0, locals := 23 }
set_option maxHeartbeats 4000000 in
set_option maxRecDepth 100000 in
theorem c_Block_makeLogBlock (l : Launch) (dC : Nat → ClassId) (dI : Nat → Nat → Nat) (cI : ClassId) (sz : Nat) (h0 : Nat) (h1 : Nat) (d : Nat → Nat) (g0 : Nat) (g1 : Nat) (gn : Nat) (gd : Nat → Nat) (gu : Nat) (ep : Nat) (no : Nat) (fr : Nat) (hep : ep < 2 ^ 31) (hno : no < 2 ^ 31) (hfr : fr < gu) (hgu : gu ≤ gn) (hgn : gn < 2 ^ 30) (hgb : ∀ j, gd j < 256) : KV l y_Block_makeLogBlock w_Block_makeLogBlock rm_Block_makeLogBlock (dC, dI) CL_ [(cI, .int)] sz [.ref h0, .int (nI ep), .int (nI no), .ref g0, .int (nI fr)] [(h0, .inr (2, [.ref h1])), (h1, .inl (cI, 32, .inl (nA d))), (g0, .inr (0, [.ref g1, .int (nI gu)])), (g1, .inl (cI, gn, .inl (nA gd)))] [(h0, .inr (2, [.ref h1])), (h1, .inl (cI, 32, .inl (nA (logBlkN d ep no gd gu fr)))), (g0, .inr (0, [.ref g1, .int (nI gu)])), (g1, .inl (cI, gn, .inl (nA gd)))] := by
  refine k_start_v (cc := b_Block_makeLogBlock) (maxL := 7) (by decide) (Nat.le_of_ble_eq_true rfl) ?_
  intro p e s m args below meth c A QQ ls SS hK hP hD hA hl hN hret
  obtain ⟨hx, hb, hml, hown, hts⟩ := id SS
  have hl : lv_has ls 7 [(0, .ref h0), (1, .int (nI ep)), (2, .int (nI no)), (3, .ref g0), (4, .int (nI fr))] := hl
  have hS : va_S A s.heap s.heap [] := va_S.rf
  have hm1 : (min (gu - fr) 26) ≤ 26 := Nat.min_le_right _ _
  have hm2 : (min (gu - fr) 26) ≤ gu - fr := Nat.min_le_left _ _
  refine lv_aload_n hx hb d_Block_makeLogBlock_0 rfl (lv_at hl 3 rfl) ?_
  refine kj_i (wr := [(h0, .inr (2, [.ref h1])), (h1, .inl (cI, 32, .inl (nA d)))]) (va_runV (As := []) (rest := []) SS (c_Row_length l dC dI cI s.heap.size g0 g1 gn gd gu ) (k_cwV 0 hts u_512 u_240 u_241 u_38 u_242 rfl rfl (by decide +kernel) ⟨Nat.le_of_ble_eq_true rfl, Nat.le_of_ble_eq_true rfl⟩) (kp_V hN hK [0] rfl hP hD [2, 3] rfl (by decide) (ci := 0) rfl 0 rfl) rfl rfl hl.1 rfl (lv_room (Nat.le_of_ble_eq_true rfl)) d_Block_makeLogBlock_1 ⟨Nat.le_of_ble_eq_true rfl, Nat.le_of_ble_eq_true rfl⟩) hP hD hS hA [2, 3] [0, 1] rfl rfl (by decide) (by decide) (fun H locs hP hD hS => ?_)
  have hP : va_P (dC, dI) CL_ [(h0, .inr (2, [.ref h1])), (h1, .inl (cI, 32, .inl (nA d))), (g0, .inr (0, [.ref g1, .int (nI gu)])), (g1, .inl (cI, gn, .inl (nA gd)))] H := hP
  have hD : va_D A [(h0, .inr (2, [.ref h1])), (h1, .inl (cI, 32, .inl (nA d))), (g0, .inr (0, [.ref g1, .int (nI gu)])), (g1, .inl (cI, gn, .inl (nA gd)))] := hD
  refine lv_iload hx hb d_Block_makeLogBlock_4 (lv_at hl 4 rfl) ?_
  refine n_isub hx hb d_Block_makeLogBlock_6 (by omega) ?_
  refine lv_bipush (v := nI 26) hx hb d_Block_makeLogBlock_7 (by decide) ?_
  refine va_mmin hx hb (by rw [hml]; exact hl.1.symm) hown (hts _ u_513) (hts _ u_514) (hts _ u_39) (hts _ u_515) (Nat.le_of_ble_eq_true rfl) (Nat.le_of_ble_eq_true rfl) (Nat.zero_le _) (Nat.zero_le _) d_Block_makeLogBlock_9 ?_
  refine top_i (nI (min (gu - fr) 26)) (by exact min_nI (by omega) (by omega)) ?_
  refine lv_istore (lv' := [(5, .int (nI (min (gu - fr) 26))), (0, .ref h0), (1, .int (nI ep)), (2, .int (nI no)), (3, .ref g0), (4, .int (nI fr))]) hx hb d_Block_makeLogBlock_12 hl (by decide) rfl (fun ls hl => ?_)
  refine lv_aload_n hx hb d_Block_makeLogBlock_14 rfl (lv_at hl 1 rfl) ?_
  refine lv_iload_n hx hb d_Block_makeLogBlock_15 rfl (lv_at hl 2 rfl) ?_
  refine kj_v (wr := [(g0, .inr (0, [.ref g1, .int (nI gu)])), (g1, .inl (cI, gn, .inl (nA gd)))]) (va_runV (As := [.int (nI ep)]) (rest := []) SS (c_Block_begin l dC dI cI H.size h0 h1 d ep (by omega)) (k_cwV 1 hts u_165 u_167 u_0 u_41 u_168 rfl rfl (by decide +kernel) ⟨Nat.le_of_ble_eq_true rfl, Nat.le_of_ble_eq_true rfl⟩) (kp_V hN hK [0] rfl hP hD [0, 1] rfl (by decide) (ci := 2) rfl 0 rfl) rfl rfl hl.1 rfl (lv_room (Nat.le_of_ble_eq_true rfl)) d_Block_makeLogBlock_16 ⟨Nat.le_of_ble_eq_true rfl, Nat.le_of_ble_eq_true rfl⟩) hP hD hS hA [0, 1] [2, 3] rfl rfl (by decide) (by decide) (fun H locs hP hD hS => ?_)
  have hP : va_P (dC, dI) CL_ [(g0, .inr (0, [.ref g1, .int (nI gu)])), (g1, .inl (cI, gn, .inl (nA gd))), (h0, .inr (2, [.ref h1])), (h1, .inl (cI, 32, .inl (nA (hdrN d ep))))] H := hP
  have hD : va_D A [(g0, .inr (0, [.ref g1, .int (nI gu)])), (g1, .inl (cI, gn, .inl (nA gd))), (h0, .inr (2, [.ref h1])), (h1, .inl (cI, 32, .inl (nA (hdrN d ep))))] := hD
  refine lv_aload_n hx hb d_Block_makeLogBlock_19 rfl (lv_at hl 1 rfl) ?_
  refine va_get (D := (dC, dI)) (ci := 2) (v := .ref h1) (C := R_Block) (T := F_Block) (N := 1) hx hb hts in_Block hown hK hP 2 rfl rfl 0 (by decide) (hts _ u_138) (fun _ h9 => h9) rfl d_Block_makeLogBlock_20 ?_
  refine lv_iconst (v := nI 2) hx hb d_Block_makeLogBlock_23 (by decide) ?_
  refine lv_iload hx hb d_Block_makeLogBlock_24 (lv_at hl 0 rfl) ?_
  refine lv_iload hx hb d_Block_makeLogBlock_26 (lv_at hl 5 rfl) ?_
  refine n_if_ne (tgt := 36) hx hb d_Block_makeLogBlock_28 (by decide) (by omega) (fun c_28 => ?_) (fun c_28 => ?_)
  · skip
    refine lv_iconst (v := nI 0) hx hb d_Block_makeLogBlock_36 (by decide) ?_
    refine n_ior hx hb d_Block_makeLogBlock_37 ?_
    refine top_i (nI ((min (gu - fr) 26) ||| (if fr = 0 then 64 else 0))) (by first | rw [if_pos c_28] | rw [if_neg c_28]) ?_
    refine lv_iload hx hb d_Block_makeLogBlock_38 (lv_at hl 5 rfl) ?_
    refine lv_iload hx hb d_Block_makeLogBlock_40 (lv_at hl 0 rfl) ?_
    refine n_iadd hx hb d_Block_makeLogBlock_42 ?_
    refine lv_aload_n hx hb d_Block_makeLogBlock_43 rfl (lv_at hl 4 rfl) ?_
    refine kj_i (wr := [(h0, .inr (2, [.ref h1])), (h1, .inl (cI, 32, .inl (nA (hdrN d ep))))]) (va_runV (As := []) (rest := [.int (nI (fr + (min (gu - fr) 26))), .int (nI ((min (gu - fr) 26) ||| (if fr = 0 then 64 else 0))), .int (nI 2), .ref h1]) SS (c_Row_length l dC dI cI H.size g0 g1 gn gd gu ) (k_cwV 0 hts u_512 u_240 u_241 u_38 u_242 rfl rfl (by decide +kernel) ⟨Nat.le_of_ble_eq_true rfl, Nat.le_of_ble_eq_true rfl⟩) (kp_V hN hK [0] rfl hP hD [0, 1] rfl (by decide) (ci := 0) rfl 0 rfl) rfl rfl hl.1 rfl (lv_room (Nat.le_of_ble_eq_true rfl)) d_Block_makeLogBlock_44 ⟨Nat.le_of_ble_eq_true rfl, Nat.le_of_ble_eq_true rfl⟩) hP hD hS hA [0, 1] [2, 3] rfl rfl (by decide) (by decide) (fun H locs hP hD hS => ?_)
    have hP : va_P (dC, dI) CL_ [(h0, .inr (2, [.ref h1])), (h1, .inl (cI, 32, .inl (nA (hdrN d ep)))), (g0, .inr (0, [.ref g1, .int (nI gu)])), (g1, .inl (cI, gn, .inl (nA gd)))] H := hP
    have hD : va_D A [(h0, .inr (2, [.ref h1])), (h1, .inl (cI, 32, .inl (nA (hdrN d ep)))), (g0, .inr (0, [.ref g1, .int (nI gu)])), (g1, .inl (cI, gn, .inl (nA gd)))] := hD
    refine n_icmp_ne (tgt := 56) hx hb d_Block_makeLogBlock_47 (by decide) (by omega) (by omega) (fun c_47 => ?_) (fun c_47 => ?_)
    · skip
      refine lv_iconst (v := nI 0) hx hb d_Block_makeLogBlock_56 (by decide) ?_
      refine n_ior hx hb d_Block_makeLogBlock_57 ?_
      refine top_i (nI ((min (gu - fr) 26) ||| (if fr = 0 then 64 else 0) ||| (if fr + (min (gu - fr) 26) = gu then 128 else 0))) (by first | rw [if_pos c_47] | rw [if_neg c_47]) ?_
      refine n_iast (f' := nA (updN (hdrN d ep) 2 ((min (gu - fr) 26) ||| (if fr = 0 then 64 else 0) ||| (if fr + (min (gu - fr) 26) = gu then 128 else 0)))) hx hb hK hP hD hS 1 0 rfl rfl (nA_upd _ _ _) (by omega) (by omega) d_Block_makeLogBlock_58 (fun H locs hP hD hS => ?_)
      have hP : va_P (dC, dI) CL_ [(h0, .inr (2, [.ref h1])), (h1, .inl (cI, 32, .inl (nA (updN (hdrN d ep) 2 ((min (gu - fr) 26) ||| (if fr = 0 then 64 else 0) ||| (if fr + (min (gu - fr) 26) = gu then 128 else 0)))))), (g0, .inr (0, [.ref g1, .int (nI gu)])), (g1, .inl (cI, gn, .inl (nA gd)))] H := hP
      have hD : va_D A [(h0, .inr (2, [.ref h1])), (h1, .inl (cI, 32, .inl (nA (updN (hdrN d ep) 2 ((min (gu - fr) 26) ||| (if fr = 0 then 64 else 0) ||| (if fr + (min (gu - fr) 26) = gu then 128 else 0)))))), (g0, .inr (0, [.ref g1, .int (nI gu)])), (g1, .inl (cI, gn, .inl (nA gd)))] := hD
      refine lv_aload_n hx hb d_Block_makeLogBlock_59 rfl (lv_at hl 1 rfl) ?_
      refine va_get (D := (dC, dI)) (ci := 2) (v := .ref h1) (C := R_Block) (T := F_Block) (N := 1) hx hb hts in_Block hown hK hP 0 rfl rfl 0 (by decide) (hts _ u_138) (fun _ h9 => h9) rfl d_Block_makeLogBlock_60 ?_
      refine lv_iconst (v := nI 4) hx hb d_Block_makeLogBlock_63 (by decide) ?_
      refine lv_iload_n hx hb d_Block_makeLogBlock_64 rfl (lv_at hl 3 rfl) ?_
      refine lv_sipush (v := nI 255) hx hb d_Block_makeLogBlock_65 (by decide) ?_
      refine n_iandm hx hb d_Block_makeLogBlock_68 ?_
      refine n_iast (f' := nA (updN (updN (hdrN d ep) 2 ((min (gu - fr) 26) ||| (if fr = 0 then 64 else 0) ||| (if fr + (min (gu - fr) 26) = gu then 128 else 0))) 4 (no % 256))) hx hb hK hP hD hS 1 0 rfl rfl (nA_upd _ _ _) (by omega) (by omega) d_Block_makeLogBlock_69 (fun H locs hP hD hS => ?_)
      have hP : va_P (dC, dI) CL_ [(h0, .inr (2, [.ref h1])), (h1, .inl (cI, 32, .inl (nA (updN (updN (hdrN d ep) 2 ((min (gu - fr) 26) ||| (if fr = 0 then 64 else 0) ||| (if fr + (min (gu - fr) 26) = gu then 128 else 0))) 4 (no % 256))))), (g0, .inr (0, [.ref g1, .int (nI gu)])), (g1, .inl (cI, gn, .inl (nA gd)))] H := hP
      have hD : va_D A [(h0, .inr (2, [.ref h1])), (h1, .inl (cI, 32, .inl (nA (updN (updN (hdrN d ep) 2 ((min (gu - fr) 26) ||| (if fr = 0 then 64 else 0) ||| (if fr + (min (gu - fr) 26) = gu then 128 else 0))) 4 (no % 256))))), (g0, .inr (0, [.ref g1, .int (nI gu)])), (g1, .inl (cI, gn, .inl (nA gd)))] := hD
      refine lv_aload_n hx hb d_Block_makeLogBlock_70 rfl (lv_at hl 1 rfl) ?_
      refine va_get (D := (dC, dI)) (ci := 2) (v := .ref h1) (C := R_Block) (T := F_Block) (N := 1) hx hb hts in_Block hown hK hP 0 rfl rfl 0 (by decide) (hts _ u_138) (fun _ h9 => h9) rfl d_Block_makeLogBlock_71 ?_
      refine lv_iconst (v := nI 5) hx hb d_Block_makeLogBlock_74 (by decide) ?_
      refine lv_iload_n hx hb d_Block_makeLogBlock_75 rfl (lv_at hl 3 rfl) ?_
      refine lv_bipush (v := nI 8) hx hb d_Block_makeLogBlock_76 (by decide) ?_
      refine n_iushr8 hx hb d_Block_makeLogBlock_78 (by omega) ?_
      refine lv_sipush (v := nI 255) hx hb d_Block_makeLogBlock_79 (by decide) ?_
      refine n_iandm hx hb d_Block_makeLogBlock_82 ?_
      refine n_iast (f' := nA (updN (updN (updN (hdrN d ep) 2 ((min (gu - fr) 26) ||| (if fr = 0 then 64 else 0) ||| (if fr + (min (gu - fr) 26) = gu then 128 else 0))) 4 (no % 256)) 5 ((no / 256) % 256))) hx hb hK hP hD hS 1 0 rfl rfl (nA_upd _ _ _) (by omega) (by omega) d_Block_makeLogBlock_83 (fun H locs hP hD hS => ?_)
      have hP : va_P (dC, dI) CL_ [(h0, .inr (2, [.ref h1])), (h1, .inl (cI, 32, .inl (nA (updN (updN (updN (hdrN d ep) 2 ((min (gu - fr) 26) ||| (if fr = 0 then 64 else 0) ||| (if fr + (min (gu - fr) 26) = gu then 128 else 0))) 4 (no % 256)) 5 ((no / 256) % 256))))), (g0, .inr (0, [.ref g1, .int (nI gu)])), (g1, .inl (cI, gn, .inl (nA gd)))] H := hP
      have hD : va_D A [(h0, .inr (2, [.ref h1])), (h1, .inl (cI, 32, .inl (nA (updN (updN (updN (hdrN d ep) 2 ((min (gu - fr) 26) ||| (if fr = 0 then 64 else 0) ||| (if fr + (min (gu - fr) 26) = gu then 128 else 0))) 4 (no % 256)) 5 ((no / 256) % 256))))), (g0, .inr (0, [.ref g1, .int (nI gu)])), (g1, .inl (cI, gn, .inl (nA gd)))] := hD
      refine lv_iconst (v := nI 0) hx hb d_Block_makeLogBlock_84 (by decide) ?_
      refine lv_istore (lv' := [(6, .int (nI 0)), (5, .int (nI (min (gu - fr) 26))), (0, .ref h0), (1, .int (nI ep)), (2, .int (nI no)), (3, .ref g0), (4, .int (nI fr))]) hx hb d_Block_makeLogBlock_85 hl (by decide) rfl (fun ls hl => ?_)
      have loop_87 : ∀ (n_ : Nat) (i : Nat), (i ≤ (min (gu - fr) 26)) → ((min (gu - fr) 26) + 1 ≤ i + n_) → ∀ (H : Heap) (locs : List Loc) (ls : Array Slot), va_P (dC, dI) CL_ [(h0, .inr (2, [.ref h1])), (h1, .inl (cI, 32, .inl (nA (fillN (updN (updN (updN (hdrN d ep) 2 ((min (gu - fr) 26) ||| (if fr = 0 then 64 else 0) ||| (if fr + (min (gu - fr) 26) = gu then 128 else 0))) 4 (no % 256)) 5 (no / 256 % 256)) 6 (fun i => rowAt gd gu (fr + i)) i)))), (g0, .inr (0, [.ref g1, .int (nI gu)])), (g1, .inl (cI, gn, .inl (nA gd)))] H → va_D A [(h0, .inr (2, [.ref h1])), (h1, .inl (cI, 32, .inl (nA (fillN (updN (updN (updN (hdrN d ep) 2 ((min (gu - fr) 26) ||| (if fr = 0 then 64 else 0) ||| (if fr + (min (gu - fr) 26) = gu then 128 else 0))) 4 (no % 256)) 5 (no / 256 % 256)) 6 (fun i => rowAt gd gu (fr + i)) i)))), (g0, .inr (0, [.ref g1, .int (nI gu)])), (g1, .inl (cI, gn, .inl (nA gd)))] → va_S A s.heap H locs → lv_has ls 7 [(0, .ref h0), (1, .int (nI ep)), (2, .int (nI no)), (3, .ref g0), (4, .int (nI fr)), (5, .int (nI (min (gu - fr) 26))), (6, .int (nI i))] → W p l e rm_Block_makeLogBlock s m args below meth c H locs 0 0 QQ (F0 m 87 ls []) := by
        intro n_
        induction n_ with
        | zero =>
          intro i hi hf
          exact absurd hf (by omega)
        | succ n_ ih =>
          intro i hi hf H locs ls hP hD hS hl
          refine lv_iload hx hb d_Block_makeLogBlock_87 (lv_at hl 6 rfl) ?_
          refine lv_iload hx hb d_Block_makeLogBlock_89 (lv_at hl 5 rfl) ?_
          refine n_icmp_ge (tgt := 126) hx hb d_Block_makeLogBlock_91 (by decide) (by omega) (by omega) (fun c_91 => ?_) (fun c_91 => ?_)
          · skip
            have hq : i = (min (gu - fr) 26) := by omega
            rw [hq] at hP hD
            have hP : va_P (dC, dI) CL_ [(h0, .inr (2, [.ref h1])), (h1, .inl (cI, 32, .inl (nA (fillN (updN (updN (updN (hdrN d ep) 2 ((min (gu - fr) 26) ||| (if fr = 0 then 64 else 0) ||| (if fr + (min (gu - fr) 26) = gu then 128 else 0))) 4 (no % 256)) 5 (no / 256 % 256)) 6 (fun i => rowAt gd gu (fr + i)) (min (gu - fr) 26))))), (g0, .inr (0, [.ref g1, .int (nI gu)])), (g1, .inl (cI, gn, .inl (nA gd)))] H := hP
            have hD : va_D A [(h0, .inr (2, [.ref h1])), (h1, .inl (cI, 32, .inl (nA (fillN (updN (updN (updN (hdrN d ep) 2 ((min (gu - fr) 26) ||| (if fr = 0 then 64 else 0) ||| (if fr + (min (gu - fr) 26) = gu then 128 else 0))) 4 (no % 256)) 5 (no / 256 % 256)) 6 (fun i => rowAt gd gu (fr + i)) (min (gu - fr) 26))))), (g0, .inr (0, [.ref g1, .int (nI gu)])), (g1, .inl (cI, gn, .inl (nA gd)))] := hD
            refine lv_aload_n hx hb d_Block_makeLogBlock_126 rfl (lv_at hl 0 rfl) ?_
            refine va_get (D := (dC, dI)) (ci := 2) (v := .ref h1) (C := R_Block) (T := F_Block) (N := 1) hx hb hts in_Block hown hK hP 0 rfl rfl 0 (by decide) (hts _ u_138) (fun _ h9 => h9) rfl d_Block_makeLogBlock_127 ?_
            refine lv_iconst (v := nI 3) hx hb d_Block_makeLogBlock_130 (by decide) ?_
            refine lv_aload_n hx hb d_Block_makeLogBlock_131 rfl (lv_at hl 0 rfl) ?_
            refine va_get (D := (dC, dI)) (ci := 2) (v := .ref h1) (C := R_Block) (T := F_Block) (N := 1) hx hb hts in_Block hown hK hP 0 rfl rfl 0 (by decide) (hts _ u_138) (fun _ h9 => h9) rfl d_Block_makeLogBlock_132 ?_
            refine lv_iconst (v := nI 0) hx hb d_Block_makeLogBlock_135 (by decide) ?_
            refine kj_i (wr := [(h0, .inr (2, [.ref h1])), (g0, .inr (0, [.ref g1, .int (nI gu)])), (g1, .inl (cI, gn, .inl (nA gd)))]) (va_runSN (As := [.ref h1, .int (nI 0)]) (rest := [.int (nI 3), .ref h1]) SS (c_sumOf l dC dI cI H.size h1 32 (fillN (updN (updN (updN (hdrN d ep) 2 ((min (gu - fr) 26) ||| (if fr = 0 then 64 else 0) ||| (if fr + (min (gu - fr) 26) = gu then 128 else 0))) 4 (no % 256)) 5 (no / 256 % 256)) 6 (fun i => rowAt gd gu (fr + i)) (min (gu - fr) 26)) 0 (by omega) (by omega)) (k_cwN 2 hts hN (List.mem_of_getElem? (i := 4) rfl) u_170 u_35 u_171 rfl rfl (by decide +kernel) ⟨Nat.le_of_ble_eq_true rfl, Nat.le_of_ble_eq_true rfl⟩) (kp_S hN hK [0] rfl hP hD [1] rfl (by decide)) rfl rfl hl.1 rfl (lv_room (Nat.le_of_ble_eq_true rfl)) d_Block_makeLogBlock_136 ⟨Nat.le_of_ble_eq_true rfl, Nat.le_of_ble_eq_true rfl⟩) hP hD hS hA [1] [0, 2, 3] rfl rfl (by decide) (by decide) (fun H locs hP hD hS => ?_)
            have hP : va_P (dC, dI) CL_ [(h0, .inr (2, [.ref h1])), (g0, .inr (0, [.ref g1, .int (nI gu)])), (g1, .inl (cI, gn, .inl (nA gd))), (h1, .inl (cI, 32, .inl (nA (fillN (updN (updN (updN (hdrN d ep) 2 ((min (gu - fr) 26) ||| (if fr = 0 then 64 else 0) ||| (if fr + (min (gu - fr) 26) = gu then 128 else 0))) 4 (no % 256)) 5 (no / 256 % 256)) 6 (fun i => rowAt gd gu (fr + i)) (min (gu - fr) 26)))))] H := hP
            have hD : va_D A [(h0, .inr (2, [.ref h1])), (g0, .inr (0, [.ref g1, .int (nI gu)])), (g1, .inl (cI, gn, .inl (nA gd))), (h1, .inl (cI, 32, .inl (nA (fillN (updN (updN (updN (hdrN d ep) 2 ((min (gu - fr) 26) ||| (if fr = 0 then 64 else 0) ||| (if fr + (min (gu - fr) 26) = gu then 128 else 0))) 4 (no % 256)) 5 (no / 256 % 256)) 6 (fun i => rowAt gd gu (fr + i)) (min (gu - fr) 26)))))] := hD
            refine n_iast (f' := nA (updN (fillN (updN (updN (updN (hdrN d ep) 2 ((min (gu - fr) 26) ||| (if fr = 0 then 64 else 0) ||| (if fr + (min (gu - fr) 26) = gu then 128 else 0))) 4 (no % 256)) 5 (no / 256 % 256)) 6 (fun i => rowAt gd gu (fr + i)) (min (gu - fr) 26)) 3 (sumN (fillN (updN (updN (updN (hdrN d ep) 2 ((min (gu - fr) 26) ||| (if fr = 0 then 64 else 0) ||| (if fr + (min (gu - fr) 26) = gu then 128 else 0))) 4 (no % 256)) 5 (no / 256 % 256)) 6 (fun i => rowAt gd gu (fr + i)) (min (gu - fr) 26)) 0))) hx hb hK hP hD hS 3 0 rfl rfl (nA_upd _ _ _) (by omega) (by omega) d_Block_makeLogBlock_139 (fun H locs hP hD hS => ?_)
            have hP : va_P (dC, dI) CL_ [(h0, .inr (2, [.ref h1])), (g0, .inr (0, [.ref g1, .int (nI gu)])), (g1, .inl (cI, gn, .inl (nA gd))), (h1, .inl (cI, 32, .inl (nA (updN (fillN (updN (updN (updN (hdrN d ep) 2 ((min (gu - fr) 26) ||| (if fr = 0 then 64 else 0) ||| (if fr + (min (gu - fr) 26) = gu then 128 else 0))) 4 (no % 256)) 5 (no / 256 % 256)) 6 (fun i => rowAt gd gu (fr + i)) (min (gu - fr) 26)) 3 (sumN (fillN (updN (updN (updN (hdrN d ep) 2 ((min (gu - fr) 26) ||| (if fr = 0 then 64 else 0) ||| (if fr + (min (gu - fr) 26) = gu then 128 else 0))) 4 (no % 256)) 5 (no / 256 % 256)) 6 (fun i => rowAt gd gu (fr + i)) (min (gu - fr) 26)) 0)))))] H := hP
            have hD : va_D A [(h0, .inr (2, [.ref h1])), (g0, .inr (0, [.ref g1, .int (nI gu)])), (g1, .inl (cI, gn, .inl (nA gd))), (h1, .inl (cI, 32, .inl (nA (updN (fillN (updN (updN (updN (hdrN d ep) 2 ((min (gu - fr) 26) ||| (if fr = 0 then 64 else 0) ||| (if fr + (min (gu - fr) 26) = gu then 128 else 0))) 4 (no % 256)) 5 (no / 256 % 256)) 6 (fun i => rowAt gd gu (fr + i)) (min (gu - fr) 26)) 3 (sumN (fillN (updN (updN (updN (hdrN d ep) 2 ((min (gu - fr) 26) ||| (if fr = 0 then 64 else 0) ||| (if fr + (min (gu - fr) 26) = gu then 128 else 0))) 4 (no % 256)) 5 (no / 256 % 256)) 6 (fun i => rowAt gd gu (fr + i)) (min (gu - fr) 26)) 0)))))] := hD
            exact hret _ _ 140 ls d_Block_makeLogBlock_140 (hP.sub [0, 3, 1, 2] rfl) (hD.sub [0, 3, 1, 2] (by decide) rfl) hS
          · skip
            refine lv_iload hx hb d_Block_makeLogBlock_94 (lv_at hl 6 rfl) ?_
            refine lv_bipush (v := nI 26) hx hb d_Block_makeLogBlock_96 (by decide) ?_
            refine n_icmp_ge (tgt := 126) hx hb d_Block_makeLogBlock_98 (by decide) (by omega) (by omega) (fun c_98 => ?_) (fun c_98 => ?_)
            · exact absurd c_98 (by omega)
            · skip
              refine lv_aload_n hx hb d_Block_makeLogBlock_101 rfl (lv_at hl 0 rfl) ?_
              refine va_get (D := (dC, dI)) (ci := 2) (v := .ref h1) (C := R_Block) (T := F_Block) (N := 1) hx hb hts in_Block hown hK hP 0 rfl rfl 0 (by decide) (hts _ u_138) (fun _ h9 => h9) rfl d_Block_makeLogBlock_102 ?_
              refine lv_bipush (v := nI 6) hx hb d_Block_makeLogBlock_105 (by decide) ?_
              refine lv_iload hx hb d_Block_makeLogBlock_107 (lv_at hl 6 rfl) ?_
              refine n_iadd hx hb d_Block_makeLogBlock_109 ?_
              refine lv_aload_n hx hb d_Block_makeLogBlock_110 rfl (lv_at hl 3 rfl) ?_
              refine lv_iload hx hb d_Block_makeLogBlock_111 (lv_at hl 4 rfl) ?_
              refine lv_iload hx hb d_Block_makeLogBlock_113 (lv_at hl 6 rfl) ?_
              refine n_iadd hx hb d_Block_makeLogBlock_115 ?_
              refine kj_i (wr := [(h0, .inr (2, [.ref h1])), (h1, .inl (cI, 32, .inl (nA (fillN (updN (updN (updN (hdrN d ep) 2 ((min (gu - fr) 26) ||| (if fr = 0 then 64 else 0) ||| (if fr + (min (gu - fr) 26) = gu then 128 else 0))) 4 (no % 256)) 5 (no / 256 % 256)) 6 (fun i => rowAt gd gu (fr + i)) i))))]) (va_runV (As := [.int (nI (fr + i))]) (rest := [.int (nI (6 + i)), .ref h1]) SS (c_Row_at l dC dI cI H.size g0 g1 gn gd gu (fr + i) (by omega) (by omega) (by omega)) (k_cwV 1 hts u_516 u_236 u_237 u_38 u_238 rfl rfl (by decide +kernel) ⟨Nat.le_of_ble_eq_true rfl, Nat.le_of_ble_eq_true rfl⟩) (kp_V hN hK [0] rfl hP hD [2, 3] rfl (by decide) (ci := 0) rfl 0 rfl) rfl rfl hl.1 rfl (lv_room (Nat.le_of_ble_eq_true rfl)) d_Block_makeLogBlock_116 ⟨Nat.le_of_ble_eq_true rfl, Nat.le_of_ble_eq_true rfl⟩) hP hD hS hA [2, 3] [0, 1] rfl rfl (by decide) (by decide) (fun H locs hP hD hS => ?_)
              have hP : va_P (dC, dI) CL_ [(h0, .inr (2, [.ref h1])), (h1, .inl (cI, 32, .inl (nA (fillN (updN (updN (updN (hdrN d ep) 2 ((min (gu - fr) 26) ||| (if fr = 0 then 64 else 0) ||| (if fr + (min (gu - fr) 26) = gu then 128 else 0))) 4 (no % 256)) 5 (no / 256 % 256)) 6 (fun i => rowAt gd gu (fr + i)) i)))), (g0, .inr (0, [.ref g1, .int (nI gu)])), (g1, .inl (cI, gn, .inl (nA gd)))] H := hP
              have hD : va_D A [(h0, .inr (2, [.ref h1])), (h1, .inl (cI, 32, .inl (nA (fillN (updN (updN (updN (hdrN d ep) 2 ((min (gu - fr) 26) ||| (if fr = 0 then 64 else 0) ||| (if fr + (min (gu - fr) 26) = gu then 128 else 0))) 4 (no % 256)) 5 (no / 256 % 256)) 6 (fun i => rowAt gd gu (fr + i)) i)))), (g0, .inr (0, [.ref g1, .int (nI gu)])), (g1, .inl (cI, gn, .inl (nA gd)))] := hD
              refine n_iast (f' := nA (updN (fillN (updN (updN (updN (hdrN d ep) 2 ((min (gu - fr) 26) ||| (if fr = 0 then 64 else 0) ||| (if fr + (min (gu - fr) 26) = gu then 128 else 0))) 4 (no % 256)) 5 (no / 256 % 256)) 6 (fun i => rowAt gd gu (fr + i)) i) (6 + i) (rowAt gd gu (fr + i)))) hx hb hK hP hD hS 1 0 rfl rfl (nA_upd _ _ _) (by omega) (by omega) d_Block_makeLogBlock_119 (fun H locs hP hD hS => ?_)
              have hP : va_P (dC, dI) CL_ [(h0, .inr (2, [.ref h1])), (h1, .inl (cI, 32, .inl (nA (updN (fillN (updN (updN (updN (hdrN d ep) 2 ((min (gu - fr) 26) ||| (if fr = 0 then 64 else 0) ||| (if fr + (min (gu - fr) 26) = gu then 128 else 0))) 4 (no % 256)) 5 (no / 256 % 256)) 6 (fun i => rowAt gd gu (fr + i)) i) (6 + i) (rowAt gd gu (fr + i)))))), (g0, .inr (0, [.ref g1, .int (nI gu)])), (g1, .inl (cI, gn, .inl (nA gd)))] H := hP
              have hD : va_D A [(h0, .inr (2, [.ref h1])), (h1, .inl (cI, 32, .inl (nA (updN (fillN (updN (updN (updN (hdrN d ep) 2 ((min (gu - fr) 26) ||| (if fr = 0 then 64 else 0) ||| (if fr + (min (gu - fr) 26) = gu then 128 else 0))) 4 (no % 256)) 5 (no / 256 % 256)) 6 (fun i => rowAt gd gu (fr + i)) i) (6 + i) (rowAt gd gu (fr + i)))))), (g0, .inr (0, [.ref g1, .int (nI gu)])), (g1, .inl (cI, gn, .inl (nA gd)))] := hD
              refine lv_iinc (v := nI (i + 1)) (lv' := [(6, .int (nI (i + 1))), (0, .ref h0), (1, .int (nI ep)), (2, .int (nI no)), (3, .ref g0), (4, .int (nI fr)), (5, .int (nI (min (gu - fr) 26)))]) hx hb d_Block_makeLogBlock_120 hl (k := 6) rfl (inc1 i) (by decide) rfl (fun ls hl => ?_)
              refine lv_goto (tgt := 87) hx hb d_Block_makeLogBlock_123 (by decide) ?_
              have e9 : updN (fillN (updN (updN (updN (hdrN d ep) 2 ((min (gu - fr) 26) ||| (if fr = 0 then 64 else 0) ||| (if fr + (min (gu - fr) 26) = gu then 128 else 0))) 4 (no % 256)) 5 (no / 256 % 256)) 6 (fun i => rowAt gd gu (fr + i)) i) (6 + i) (rowAt gd gu (fr + i)) = fillN (updN (updN (updN (hdrN d ep) 2 ((min (gu - fr) 26) ||| (if fr = 0 then 64 else 0) ||| (if fr + (min (gu - fr) 26) = gu then 128 else 0))) 4 (no % 256)) 5 (no / 256 % 256)) 6 (fun i => rowAt gd gu (fr + i)) (i + 1) := fillN_s _ _ _ _
              rw [e9] at hP hD
              exact ih (i + 1) (by omega) (by omega) _ _ _ (hP.sub [0, 1, 2, 3] rfl) (hD.sub [0, 1, 2, 3] (by decide) rfl) hS (lv_sub hl [1, 2, 3, 4, 5, 6, 0] rfl)
      rw [← fillN_0 (updN (updN (updN (hdrN d ep) 2 ((min (gu - fr) 26) ||| (if fr = 0 then 64 else 0) ||| (if fr + (min (gu - fr) 26) = gu then 128 else 0))) 4 (no % 256)) 5 (no / 256 % 256)) 6 (fun i => rowAt gd gu (fr + i))] at hP hD
      exact loop_87 ((min (gu - fr) 26) + 1) 0 (by omega) (by omega) _ _ _ (hP.sub [0, 1, 2, 3] rfl) (hD.sub [0, 1, 2, 3] (by decide) rfl) hS (lv_sub hl [2, 3, 4, 5, 6, 1, 0] rfl)
    · skip
      refine lv_sipush (v := nI 128) hx hb d_Block_makeLogBlock_50 (by decide) ?_
      refine lv_goto (tgt := 57) hx hb d_Block_makeLogBlock_53 (by decide) ?_
      refine n_ior hx hb d_Block_makeLogBlock_57 ?_
      refine top_i (nI ((min (gu - fr) 26) ||| (if fr = 0 then 64 else 0) ||| (if fr + (min (gu - fr) 26) = gu then 128 else 0))) (by first | rw [if_pos c_47] | rw [if_neg c_47]) ?_
      refine n_iast (f' := nA (updN (hdrN d ep) 2 ((min (gu - fr) 26) ||| (if fr = 0 then 64 else 0) ||| (if fr + (min (gu - fr) 26) = gu then 128 else 0)))) hx hb hK hP hD hS 1 0 rfl rfl (nA_upd _ _ _) (by omega) (by omega) d_Block_makeLogBlock_58 (fun H locs hP hD hS => ?_)
      have hP : va_P (dC, dI) CL_ [(h0, .inr (2, [.ref h1])), (h1, .inl (cI, 32, .inl (nA (updN (hdrN d ep) 2 ((min (gu - fr) 26) ||| (if fr = 0 then 64 else 0) ||| (if fr + (min (gu - fr) 26) = gu then 128 else 0)))))), (g0, .inr (0, [.ref g1, .int (nI gu)])), (g1, .inl (cI, gn, .inl (nA gd)))] H := hP
      have hD : va_D A [(h0, .inr (2, [.ref h1])), (h1, .inl (cI, 32, .inl (nA (updN (hdrN d ep) 2 ((min (gu - fr) 26) ||| (if fr = 0 then 64 else 0) ||| (if fr + (min (gu - fr) 26) = gu then 128 else 0)))))), (g0, .inr (0, [.ref g1, .int (nI gu)])), (g1, .inl (cI, gn, .inl (nA gd)))] := hD
      refine lv_aload_n hx hb d_Block_makeLogBlock_59 rfl (lv_at hl 1 rfl) ?_
      refine va_get (D := (dC, dI)) (ci := 2) (v := .ref h1) (C := R_Block) (T := F_Block) (N := 1) hx hb hts in_Block hown hK hP 0 rfl rfl 0 (by decide) (hts _ u_138) (fun _ h9 => h9) rfl d_Block_makeLogBlock_60 ?_
      refine lv_iconst (v := nI 4) hx hb d_Block_makeLogBlock_63 (by decide) ?_
      refine lv_iload_n hx hb d_Block_makeLogBlock_64 rfl (lv_at hl 3 rfl) ?_
      refine lv_sipush (v := nI 255) hx hb d_Block_makeLogBlock_65 (by decide) ?_
      refine n_iandm hx hb d_Block_makeLogBlock_68 ?_
      refine n_iast (f' := nA (updN (updN (hdrN d ep) 2 ((min (gu - fr) 26) ||| (if fr = 0 then 64 else 0) ||| (if fr + (min (gu - fr) 26) = gu then 128 else 0))) 4 (no % 256))) hx hb hK hP hD hS 1 0 rfl rfl (nA_upd _ _ _) (by omega) (by omega) d_Block_makeLogBlock_69 (fun H locs hP hD hS => ?_)
      have hP : va_P (dC, dI) CL_ [(h0, .inr (2, [.ref h1])), (h1, .inl (cI, 32, .inl (nA (updN (updN (hdrN d ep) 2 ((min (gu - fr) 26) ||| (if fr = 0 then 64 else 0) ||| (if fr + (min (gu - fr) 26) = gu then 128 else 0))) 4 (no % 256))))), (g0, .inr (0, [.ref g1, .int (nI gu)])), (g1, .inl (cI, gn, .inl (nA gd)))] H := hP
      have hD : va_D A [(h0, .inr (2, [.ref h1])), (h1, .inl (cI, 32, .inl (nA (updN (updN (hdrN d ep) 2 ((min (gu - fr) 26) ||| (if fr = 0 then 64 else 0) ||| (if fr + (min (gu - fr) 26) = gu then 128 else 0))) 4 (no % 256))))), (g0, .inr (0, [.ref g1, .int (nI gu)])), (g1, .inl (cI, gn, .inl (nA gd)))] := hD
      refine lv_aload_n hx hb d_Block_makeLogBlock_70 rfl (lv_at hl 1 rfl) ?_
      refine va_get (D := (dC, dI)) (ci := 2) (v := .ref h1) (C := R_Block) (T := F_Block) (N := 1) hx hb hts in_Block hown hK hP 0 rfl rfl 0 (by decide) (hts _ u_138) (fun _ h9 => h9) rfl d_Block_makeLogBlock_71 ?_
      refine lv_iconst (v := nI 5) hx hb d_Block_makeLogBlock_74 (by decide) ?_
      refine lv_iload_n hx hb d_Block_makeLogBlock_75 rfl (lv_at hl 3 rfl) ?_
      refine lv_bipush (v := nI 8) hx hb d_Block_makeLogBlock_76 (by decide) ?_
      refine n_iushr8 hx hb d_Block_makeLogBlock_78 (by omega) ?_
      refine lv_sipush (v := nI 255) hx hb d_Block_makeLogBlock_79 (by decide) ?_
      refine n_iandm hx hb d_Block_makeLogBlock_82 ?_
      refine n_iast (f' := nA (updN (updN (updN (hdrN d ep) 2 ((min (gu - fr) 26) ||| (if fr = 0 then 64 else 0) ||| (if fr + (min (gu - fr) 26) = gu then 128 else 0))) 4 (no % 256)) 5 ((no / 256) % 256))) hx hb hK hP hD hS 1 0 rfl rfl (nA_upd _ _ _) (by omega) (by omega) d_Block_makeLogBlock_83 (fun H locs hP hD hS => ?_)
      have hP : va_P (dC, dI) CL_ [(h0, .inr (2, [.ref h1])), (h1, .inl (cI, 32, .inl (nA (updN (updN (updN (hdrN d ep) 2 ((min (gu - fr) 26) ||| (if fr = 0 then 64 else 0) ||| (if fr + (min (gu - fr) 26) = gu then 128 else 0))) 4 (no % 256)) 5 ((no / 256) % 256))))), (g0, .inr (0, [.ref g1, .int (nI gu)])), (g1, .inl (cI, gn, .inl (nA gd)))] H := hP
      have hD : va_D A [(h0, .inr (2, [.ref h1])), (h1, .inl (cI, 32, .inl (nA (updN (updN (updN (hdrN d ep) 2 ((min (gu - fr) 26) ||| (if fr = 0 then 64 else 0) ||| (if fr + (min (gu - fr) 26) = gu then 128 else 0))) 4 (no % 256)) 5 ((no / 256) % 256))))), (g0, .inr (0, [.ref g1, .int (nI gu)])), (g1, .inl (cI, gn, .inl (nA gd)))] := hD
      refine lv_iconst (v := nI 0) hx hb d_Block_makeLogBlock_84 (by decide) ?_
      refine lv_istore (lv' := [(6, .int (nI 0)), (5, .int (nI (min (gu - fr) 26))), (0, .ref h0), (1, .int (nI ep)), (2, .int (nI no)), (3, .ref g0), (4, .int (nI fr))]) hx hb d_Block_makeLogBlock_85 hl (by decide) rfl (fun ls hl => ?_)
      have loop_87 : ∀ (n_ : Nat) (i : Nat), (i ≤ (min (gu - fr) 26)) → ((min (gu - fr) 26) + 1 ≤ i + n_) → ∀ (H : Heap) (locs : List Loc) (ls : Array Slot), va_P (dC, dI) CL_ [(h0, .inr (2, [.ref h1])), (h1, .inl (cI, 32, .inl (nA (fillN (updN (updN (updN (hdrN d ep) 2 ((min (gu - fr) 26) ||| (if fr = 0 then 64 else 0) ||| (if fr + (min (gu - fr) 26) = gu then 128 else 0))) 4 (no % 256)) 5 (no / 256 % 256)) 6 (fun i => rowAt gd gu (fr + i)) i)))), (g0, .inr (0, [.ref g1, .int (nI gu)])), (g1, .inl (cI, gn, .inl (nA gd)))] H → va_D A [(h0, .inr (2, [.ref h1])), (h1, .inl (cI, 32, .inl (nA (fillN (updN (updN (updN (hdrN d ep) 2 ((min (gu - fr) 26) ||| (if fr = 0 then 64 else 0) ||| (if fr + (min (gu - fr) 26) = gu then 128 else 0))) 4 (no % 256)) 5 (no / 256 % 256)) 6 (fun i => rowAt gd gu (fr + i)) i)))), (g0, .inr (0, [.ref g1, .int (nI gu)])), (g1, .inl (cI, gn, .inl (nA gd)))] → va_S A s.heap H locs → lv_has ls 7 [(0, .ref h0), (1, .int (nI ep)), (2, .int (nI no)), (3, .ref g0), (4, .int (nI fr)), (5, .int (nI (min (gu - fr) 26))), (6, .int (nI i))] → W p l e rm_Block_makeLogBlock s m args below meth c H locs 0 0 QQ (F0 m 87 ls []) := by
        intro n_
        induction n_ with
        | zero =>
          intro i hi hf
          exact absurd hf (by omega)
        | succ n_ ih =>
          intro i hi hf H locs ls hP hD hS hl
          refine lv_iload hx hb d_Block_makeLogBlock_87 (lv_at hl 6 rfl) ?_
          refine lv_iload hx hb d_Block_makeLogBlock_89 (lv_at hl 5 rfl) ?_
          refine n_icmp_ge (tgt := 126) hx hb d_Block_makeLogBlock_91 (by decide) (by omega) (by omega) (fun c_91 => ?_) (fun c_91 => ?_)
          · skip
            have hq : i = (min (gu - fr) 26) := by omega
            rw [hq] at hP hD
            have hP : va_P (dC, dI) CL_ [(h0, .inr (2, [.ref h1])), (h1, .inl (cI, 32, .inl (nA (fillN (updN (updN (updN (hdrN d ep) 2 ((min (gu - fr) 26) ||| (if fr = 0 then 64 else 0) ||| (if fr + (min (gu - fr) 26) = gu then 128 else 0))) 4 (no % 256)) 5 (no / 256 % 256)) 6 (fun i => rowAt gd gu (fr + i)) (min (gu - fr) 26))))), (g0, .inr (0, [.ref g1, .int (nI gu)])), (g1, .inl (cI, gn, .inl (nA gd)))] H := hP
            have hD : va_D A [(h0, .inr (2, [.ref h1])), (h1, .inl (cI, 32, .inl (nA (fillN (updN (updN (updN (hdrN d ep) 2 ((min (gu - fr) 26) ||| (if fr = 0 then 64 else 0) ||| (if fr + (min (gu - fr) 26) = gu then 128 else 0))) 4 (no % 256)) 5 (no / 256 % 256)) 6 (fun i => rowAt gd gu (fr + i)) (min (gu - fr) 26))))), (g0, .inr (0, [.ref g1, .int (nI gu)])), (g1, .inl (cI, gn, .inl (nA gd)))] := hD
            refine lv_aload_n hx hb d_Block_makeLogBlock_126 rfl (lv_at hl 0 rfl) ?_
            refine va_get (D := (dC, dI)) (ci := 2) (v := .ref h1) (C := R_Block) (T := F_Block) (N := 1) hx hb hts in_Block hown hK hP 0 rfl rfl 0 (by decide) (hts _ u_138) (fun _ h9 => h9) rfl d_Block_makeLogBlock_127 ?_
            refine lv_iconst (v := nI 3) hx hb d_Block_makeLogBlock_130 (by decide) ?_
            refine lv_aload_n hx hb d_Block_makeLogBlock_131 rfl (lv_at hl 0 rfl) ?_
            refine va_get (D := (dC, dI)) (ci := 2) (v := .ref h1) (C := R_Block) (T := F_Block) (N := 1) hx hb hts in_Block hown hK hP 0 rfl rfl 0 (by decide) (hts _ u_138) (fun _ h9 => h9) rfl d_Block_makeLogBlock_132 ?_
            refine lv_iconst (v := nI 0) hx hb d_Block_makeLogBlock_135 (by decide) ?_
            refine kj_i (wr := [(h0, .inr (2, [.ref h1])), (g0, .inr (0, [.ref g1, .int (nI gu)])), (g1, .inl (cI, gn, .inl (nA gd)))]) (va_runSN (As := [.ref h1, .int (nI 0)]) (rest := [.int (nI 3), .ref h1]) SS (c_sumOf l dC dI cI H.size h1 32 (fillN (updN (updN (updN (hdrN d ep) 2 ((min (gu - fr) 26) ||| (if fr = 0 then 64 else 0) ||| (if fr + (min (gu - fr) 26) = gu then 128 else 0))) 4 (no % 256)) 5 (no / 256 % 256)) 6 (fun i => rowAt gd gu (fr + i)) (min (gu - fr) 26)) 0 (by omega) (by omega)) (k_cwN 2 hts hN (List.mem_of_getElem? (i := 4) rfl) u_170 u_35 u_171 rfl rfl (by decide +kernel) ⟨Nat.le_of_ble_eq_true rfl, Nat.le_of_ble_eq_true rfl⟩) (kp_S hN hK [0] rfl hP hD [1] rfl (by decide)) rfl rfl hl.1 rfl (lv_room (Nat.le_of_ble_eq_true rfl)) d_Block_makeLogBlock_136 ⟨Nat.le_of_ble_eq_true rfl, Nat.le_of_ble_eq_true rfl⟩) hP hD hS hA [1] [0, 2, 3] rfl rfl (by decide) (by decide) (fun H locs hP hD hS => ?_)
            have hP : va_P (dC, dI) CL_ [(h0, .inr (2, [.ref h1])), (g0, .inr (0, [.ref g1, .int (nI gu)])), (g1, .inl (cI, gn, .inl (nA gd))), (h1, .inl (cI, 32, .inl (nA (fillN (updN (updN (updN (hdrN d ep) 2 ((min (gu - fr) 26) ||| (if fr = 0 then 64 else 0) ||| (if fr + (min (gu - fr) 26) = gu then 128 else 0))) 4 (no % 256)) 5 (no / 256 % 256)) 6 (fun i => rowAt gd gu (fr + i)) (min (gu - fr) 26)))))] H := hP
            have hD : va_D A [(h0, .inr (2, [.ref h1])), (g0, .inr (0, [.ref g1, .int (nI gu)])), (g1, .inl (cI, gn, .inl (nA gd))), (h1, .inl (cI, 32, .inl (nA (fillN (updN (updN (updN (hdrN d ep) 2 ((min (gu - fr) 26) ||| (if fr = 0 then 64 else 0) ||| (if fr + (min (gu - fr) 26) = gu then 128 else 0))) 4 (no % 256)) 5 (no / 256 % 256)) 6 (fun i => rowAt gd gu (fr + i)) (min (gu - fr) 26)))))] := hD
            refine n_iast (f' := nA (updN (fillN (updN (updN (updN (hdrN d ep) 2 ((min (gu - fr) 26) ||| (if fr = 0 then 64 else 0) ||| (if fr + (min (gu - fr) 26) = gu then 128 else 0))) 4 (no % 256)) 5 (no / 256 % 256)) 6 (fun i => rowAt gd gu (fr + i)) (min (gu - fr) 26)) 3 (sumN (fillN (updN (updN (updN (hdrN d ep) 2 ((min (gu - fr) 26) ||| (if fr = 0 then 64 else 0) ||| (if fr + (min (gu - fr) 26) = gu then 128 else 0))) 4 (no % 256)) 5 (no / 256 % 256)) 6 (fun i => rowAt gd gu (fr + i)) (min (gu - fr) 26)) 0))) hx hb hK hP hD hS 3 0 rfl rfl (nA_upd _ _ _) (by omega) (by omega) d_Block_makeLogBlock_139 (fun H locs hP hD hS => ?_)
            have hP : va_P (dC, dI) CL_ [(h0, .inr (2, [.ref h1])), (g0, .inr (0, [.ref g1, .int (nI gu)])), (g1, .inl (cI, gn, .inl (nA gd))), (h1, .inl (cI, 32, .inl (nA (updN (fillN (updN (updN (updN (hdrN d ep) 2 ((min (gu - fr) 26) ||| (if fr = 0 then 64 else 0) ||| (if fr + (min (gu - fr) 26) = gu then 128 else 0))) 4 (no % 256)) 5 (no / 256 % 256)) 6 (fun i => rowAt gd gu (fr + i)) (min (gu - fr) 26)) 3 (sumN (fillN (updN (updN (updN (hdrN d ep) 2 ((min (gu - fr) 26) ||| (if fr = 0 then 64 else 0) ||| (if fr + (min (gu - fr) 26) = gu then 128 else 0))) 4 (no % 256)) 5 (no / 256 % 256)) 6 (fun i => rowAt gd gu (fr + i)) (min (gu - fr) 26)) 0)))))] H := hP
            have hD : va_D A [(h0, .inr (2, [.ref h1])), (g0, .inr (0, [.ref g1, .int (nI gu)])), (g1, .inl (cI, gn, .inl (nA gd))), (h1, .inl (cI, 32, .inl (nA (updN (fillN (updN (updN (updN (hdrN d ep) 2 ((min (gu - fr) 26) ||| (if fr = 0 then 64 else 0) ||| (if fr + (min (gu - fr) 26) = gu then 128 else 0))) 4 (no % 256)) 5 (no / 256 % 256)) 6 (fun i => rowAt gd gu (fr + i)) (min (gu - fr) 26)) 3 (sumN (fillN (updN (updN (updN (hdrN d ep) 2 ((min (gu - fr) 26) ||| (if fr = 0 then 64 else 0) ||| (if fr + (min (gu - fr) 26) = gu then 128 else 0))) 4 (no % 256)) 5 (no / 256 % 256)) 6 (fun i => rowAt gd gu (fr + i)) (min (gu - fr) 26)) 0)))))] := hD
            exact hret _ _ 140 ls d_Block_makeLogBlock_140 (hP.sub [0, 3, 1, 2] rfl) (hD.sub [0, 3, 1, 2] (by decide) rfl) hS
          · skip
            refine lv_iload hx hb d_Block_makeLogBlock_94 (lv_at hl 6 rfl) ?_
            refine lv_bipush (v := nI 26) hx hb d_Block_makeLogBlock_96 (by decide) ?_
            refine n_icmp_ge (tgt := 126) hx hb d_Block_makeLogBlock_98 (by decide) (by omega) (by omega) (fun c_98 => ?_) (fun c_98 => ?_)
            · exact absurd c_98 (by omega)
            · skip
              refine lv_aload_n hx hb d_Block_makeLogBlock_101 rfl (lv_at hl 0 rfl) ?_
              refine va_get (D := (dC, dI)) (ci := 2) (v := .ref h1) (C := R_Block) (T := F_Block) (N := 1) hx hb hts in_Block hown hK hP 0 rfl rfl 0 (by decide) (hts _ u_138) (fun _ h9 => h9) rfl d_Block_makeLogBlock_102 ?_
              refine lv_bipush (v := nI 6) hx hb d_Block_makeLogBlock_105 (by decide) ?_
              refine lv_iload hx hb d_Block_makeLogBlock_107 (lv_at hl 6 rfl) ?_
              refine n_iadd hx hb d_Block_makeLogBlock_109 ?_
              refine lv_aload_n hx hb d_Block_makeLogBlock_110 rfl (lv_at hl 3 rfl) ?_
              refine lv_iload hx hb d_Block_makeLogBlock_111 (lv_at hl 4 rfl) ?_
              refine lv_iload hx hb d_Block_makeLogBlock_113 (lv_at hl 6 rfl) ?_
              refine n_iadd hx hb d_Block_makeLogBlock_115 ?_
              refine kj_i (wr := [(h0, .inr (2, [.ref h1])), (h1, .inl (cI, 32, .inl (nA (fillN (updN (updN (updN (hdrN d ep) 2 ((min (gu - fr) 26) ||| (if fr = 0 then 64 else 0) ||| (if fr + (min (gu - fr) 26) = gu then 128 else 0))) 4 (no % 256)) 5 (no / 256 % 256)) 6 (fun i => rowAt gd gu (fr + i)) i))))]) (va_runV (As := [.int (nI (fr + i))]) (rest := [.int (nI (6 + i)), .ref h1]) SS (c_Row_at l dC dI cI H.size g0 g1 gn gd gu (fr + i) (by omega) (by omega) (by omega)) (k_cwV 1 hts u_516 u_236 u_237 u_38 u_238 rfl rfl (by decide +kernel) ⟨Nat.le_of_ble_eq_true rfl, Nat.le_of_ble_eq_true rfl⟩) (kp_V hN hK [0] rfl hP hD [2, 3] rfl (by decide) (ci := 0) rfl 0 rfl) rfl rfl hl.1 rfl (lv_room (Nat.le_of_ble_eq_true rfl)) d_Block_makeLogBlock_116 ⟨Nat.le_of_ble_eq_true rfl, Nat.le_of_ble_eq_true rfl⟩) hP hD hS hA [2, 3] [0, 1] rfl rfl (by decide) (by decide) (fun H locs hP hD hS => ?_)
              have hP : va_P (dC, dI) CL_ [(h0, .inr (2, [.ref h1])), (h1, .inl (cI, 32, .inl (nA (fillN (updN (updN (updN (hdrN d ep) 2 ((min (gu - fr) 26) ||| (if fr = 0 then 64 else 0) ||| (if fr + (min (gu - fr) 26) = gu then 128 else 0))) 4 (no % 256)) 5 (no / 256 % 256)) 6 (fun i => rowAt gd gu (fr + i)) i)))), (g0, .inr (0, [.ref g1, .int (nI gu)])), (g1, .inl (cI, gn, .inl (nA gd)))] H := hP
              have hD : va_D A [(h0, .inr (2, [.ref h1])), (h1, .inl (cI, 32, .inl (nA (fillN (updN (updN (updN (hdrN d ep) 2 ((min (gu - fr) 26) ||| (if fr = 0 then 64 else 0) ||| (if fr + (min (gu - fr) 26) = gu then 128 else 0))) 4 (no % 256)) 5 (no / 256 % 256)) 6 (fun i => rowAt gd gu (fr + i)) i)))), (g0, .inr (0, [.ref g1, .int (nI gu)])), (g1, .inl (cI, gn, .inl (nA gd)))] := hD
              refine n_iast (f' := nA (updN (fillN (updN (updN (updN (hdrN d ep) 2 ((min (gu - fr) 26) ||| (if fr = 0 then 64 else 0) ||| (if fr + (min (gu - fr) 26) = gu then 128 else 0))) 4 (no % 256)) 5 (no / 256 % 256)) 6 (fun i => rowAt gd gu (fr + i)) i) (6 + i) (rowAt gd gu (fr + i)))) hx hb hK hP hD hS 1 0 rfl rfl (nA_upd _ _ _) (by omega) (by omega) d_Block_makeLogBlock_119 (fun H locs hP hD hS => ?_)
              have hP : va_P (dC, dI) CL_ [(h0, .inr (2, [.ref h1])), (h1, .inl (cI, 32, .inl (nA (updN (fillN (updN (updN (updN (hdrN d ep) 2 ((min (gu - fr) 26) ||| (if fr = 0 then 64 else 0) ||| (if fr + (min (gu - fr) 26) = gu then 128 else 0))) 4 (no % 256)) 5 (no / 256 % 256)) 6 (fun i => rowAt gd gu (fr + i)) i) (6 + i) (rowAt gd gu (fr + i)))))), (g0, .inr (0, [.ref g1, .int (nI gu)])), (g1, .inl (cI, gn, .inl (nA gd)))] H := hP
              have hD : va_D A [(h0, .inr (2, [.ref h1])), (h1, .inl (cI, 32, .inl (nA (updN (fillN (updN (updN (updN (hdrN d ep) 2 ((min (gu - fr) 26) ||| (if fr = 0 then 64 else 0) ||| (if fr + (min (gu - fr) 26) = gu then 128 else 0))) 4 (no % 256)) 5 (no / 256 % 256)) 6 (fun i => rowAt gd gu (fr + i)) i) (6 + i) (rowAt gd gu (fr + i)))))), (g0, .inr (0, [.ref g1, .int (nI gu)])), (g1, .inl (cI, gn, .inl (nA gd)))] := hD
              refine lv_iinc (v := nI (i + 1)) (lv' := [(6, .int (nI (i + 1))), (0, .ref h0), (1, .int (nI ep)), (2, .int (nI no)), (3, .ref g0), (4, .int (nI fr)), (5, .int (nI (min (gu - fr) 26)))]) hx hb d_Block_makeLogBlock_120 hl (k := 6) rfl (inc1 i) (by decide) rfl (fun ls hl => ?_)
              refine lv_goto (tgt := 87) hx hb d_Block_makeLogBlock_123 (by decide) ?_
              have e9 : updN (fillN (updN (updN (updN (hdrN d ep) 2 ((min (gu - fr) 26) ||| (if fr = 0 then 64 else 0) ||| (if fr + (min (gu - fr) 26) = gu then 128 else 0))) 4 (no % 256)) 5 (no / 256 % 256)) 6 (fun i => rowAt gd gu (fr + i)) i) (6 + i) (rowAt gd gu (fr + i)) = fillN (updN (updN (updN (hdrN d ep) 2 ((min (gu - fr) 26) ||| (if fr = 0 then 64 else 0) ||| (if fr + (min (gu - fr) 26) = gu then 128 else 0))) 4 (no % 256)) 5 (no / 256 % 256)) 6 (fun i => rowAt gd gu (fr + i)) (i + 1) := fillN_s _ _ _ _
              rw [e9] at hP hD
              exact ih (i + 1) (by omega) (by omega) _ _ _ (hP.sub [0, 1, 2, 3] rfl) (hD.sub [0, 1, 2, 3] (by decide) rfl) hS (lv_sub hl [1, 2, 3, 4, 5, 6, 0] rfl)
      rw [← fillN_0 (updN (updN (updN (hdrN d ep) 2 ((min (gu - fr) 26) ||| (if fr = 0 then 64 else 0) ||| (if fr + (min (gu - fr) 26) = gu then 128 else 0))) 4 (no % 256)) 5 (no / 256 % 256)) 6 (fun i => rowAt gd gu (fr + i))] at hP hD
      exact loop_87 ((min (gu - fr) 26) + 1) 0 (by omega) (by omega) _ _ _ (hP.sub [0, 1, 2, 3] rfl) (hD.sub [0, 1, 2, 3] (by decide) rfl) hS (lv_sub hl [2, 3, 4, 5, 6, 1, 0] rfl)
  · skip
    refine lv_bipush (v := nI 64) hx hb d_Block_makeLogBlock_31 (by decide) ?_
    refine lv_goto (tgt := 37) hx hb d_Block_makeLogBlock_33 (by decide) ?_
    refine n_ior hx hb d_Block_makeLogBlock_37 ?_
    refine top_i (nI ((min (gu - fr) 26) ||| (if fr = 0 then 64 else 0))) (by first | rw [if_pos c_28] | rw [if_neg c_28]) ?_
    refine lv_iload hx hb d_Block_makeLogBlock_38 (lv_at hl 5 rfl) ?_
    refine lv_iload hx hb d_Block_makeLogBlock_40 (lv_at hl 0 rfl) ?_
    refine n_iadd hx hb d_Block_makeLogBlock_42 ?_
    refine lv_aload_n hx hb d_Block_makeLogBlock_43 rfl (lv_at hl 4 rfl) ?_
    refine kj_i (wr := [(h0, .inr (2, [.ref h1])), (h1, .inl (cI, 32, .inl (nA (hdrN d ep))))]) (va_runV (As := []) (rest := [.int (nI (fr + (min (gu - fr) 26))), .int (nI ((min (gu - fr) 26) ||| (if fr = 0 then 64 else 0))), .int (nI 2), .ref h1]) SS (c_Row_length l dC dI cI H.size g0 g1 gn gd gu ) (k_cwV 0 hts u_512 u_240 u_241 u_38 u_242 rfl rfl (by decide +kernel) ⟨Nat.le_of_ble_eq_true rfl, Nat.le_of_ble_eq_true rfl⟩) (kp_V hN hK [0] rfl hP hD [0, 1] rfl (by decide) (ci := 0) rfl 0 rfl) rfl rfl hl.1 rfl (lv_room (Nat.le_of_ble_eq_true rfl)) d_Block_makeLogBlock_44 ⟨Nat.le_of_ble_eq_true rfl, Nat.le_of_ble_eq_true rfl⟩) hP hD hS hA [0, 1] [2, 3] rfl rfl (by decide) (by decide) (fun H locs hP hD hS => ?_)
    have hP : va_P (dC, dI) CL_ [(h0, .inr (2, [.ref h1])), (h1, .inl (cI, 32, .inl (nA (hdrN d ep)))), (g0, .inr (0, [.ref g1, .int (nI gu)])), (g1, .inl (cI, gn, .inl (nA gd)))] H := hP
    have hD : va_D A [(h0, .inr (2, [.ref h1])), (h1, .inl (cI, 32, .inl (nA (hdrN d ep)))), (g0, .inr (0, [.ref g1, .int (nI gu)])), (g1, .inl (cI, gn, .inl (nA gd)))] := hD
    refine n_icmp_ne (tgt := 56) hx hb d_Block_makeLogBlock_47 (by decide) (by omega) (by omega) (fun c_47 => ?_) (fun c_47 => ?_)
    · skip
      refine lv_iconst (v := nI 0) hx hb d_Block_makeLogBlock_56 (by decide) ?_
      refine n_ior hx hb d_Block_makeLogBlock_57 ?_
      refine top_i (nI ((min (gu - fr) 26) ||| (if fr = 0 then 64 else 0) ||| (if fr + (min (gu - fr) 26) = gu then 128 else 0))) (by first | rw [if_pos c_47] | rw [if_neg c_47]) ?_
      refine n_iast (f' := nA (updN (hdrN d ep) 2 ((min (gu - fr) 26) ||| (if fr = 0 then 64 else 0) ||| (if fr + (min (gu - fr) 26) = gu then 128 else 0)))) hx hb hK hP hD hS 1 0 rfl rfl (nA_upd _ _ _) (by omega) (by omega) d_Block_makeLogBlock_58 (fun H locs hP hD hS => ?_)
      have hP : va_P (dC, dI) CL_ [(h0, .inr (2, [.ref h1])), (h1, .inl (cI, 32, .inl (nA (updN (hdrN d ep) 2 ((min (gu - fr) 26) ||| (if fr = 0 then 64 else 0) ||| (if fr + (min (gu - fr) 26) = gu then 128 else 0)))))), (g0, .inr (0, [.ref g1, .int (nI gu)])), (g1, .inl (cI, gn, .inl (nA gd)))] H := hP
      have hD : va_D A [(h0, .inr (2, [.ref h1])), (h1, .inl (cI, 32, .inl (nA (updN (hdrN d ep) 2 ((min (gu - fr) 26) ||| (if fr = 0 then 64 else 0) ||| (if fr + (min (gu - fr) 26) = gu then 128 else 0)))))), (g0, .inr (0, [.ref g1, .int (nI gu)])), (g1, .inl (cI, gn, .inl (nA gd)))] := hD
      refine lv_aload_n hx hb d_Block_makeLogBlock_59 rfl (lv_at hl 1 rfl) ?_
      refine va_get (D := (dC, dI)) (ci := 2) (v := .ref h1) (C := R_Block) (T := F_Block) (N := 1) hx hb hts in_Block hown hK hP 0 rfl rfl 0 (by decide) (hts _ u_138) (fun _ h9 => h9) rfl d_Block_makeLogBlock_60 ?_
      refine lv_iconst (v := nI 4) hx hb d_Block_makeLogBlock_63 (by decide) ?_
      refine lv_iload_n hx hb d_Block_makeLogBlock_64 rfl (lv_at hl 3 rfl) ?_
      refine lv_sipush (v := nI 255) hx hb d_Block_makeLogBlock_65 (by decide) ?_
      refine n_iandm hx hb d_Block_makeLogBlock_68 ?_
      refine n_iast (f' := nA (updN (updN (hdrN d ep) 2 ((min (gu - fr) 26) ||| (if fr = 0 then 64 else 0) ||| (if fr + (min (gu - fr) 26) = gu then 128 else 0))) 4 (no % 256))) hx hb hK hP hD hS 1 0 rfl rfl (nA_upd _ _ _) (by omega) (by omega) d_Block_makeLogBlock_69 (fun H locs hP hD hS => ?_)
      have hP : va_P (dC, dI) CL_ [(h0, .inr (2, [.ref h1])), (h1, .inl (cI, 32, .inl (nA (updN (updN (hdrN d ep) 2 ((min (gu - fr) 26) ||| (if fr = 0 then 64 else 0) ||| (if fr + (min (gu - fr) 26) = gu then 128 else 0))) 4 (no % 256))))), (g0, .inr (0, [.ref g1, .int (nI gu)])), (g1, .inl (cI, gn, .inl (nA gd)))] H := hP
      have hD : va_D A [(h0, .inr (2, [.ref h1])), (h1, .inl (cI, 32, .inl (nA (updN (updN (hdrN d ep) 2 ((min (gu - fr) 26) ||| (if fr = 0 then 64 else 0) ||| (if fr + (min (gu - fr) 26) = gu then 128 else 0))) 4 (no % 256))))), (g0, .inr (0, [.ref g1, .int (nI gu)])), (g1, .inl (cI, gn, .inl (nA gd)))] := hD
      refine lv_aload_n hx hb d_Block_makeLogBlock_70 rfl (lv_at hl 1 rfl) ?_
      refine va_get (D := (dC, dI)) (ci := 2) (v := .ref h1) (C := R_Block) (T := F_Block) (N := 1) hx hb hts in_Block hown hK hP 0 rfl rfl 0 (by decide) (hts _ u_138) (fun _ h9 => h9) rfl d_Block_makeLogBlock_71 ?_
      refine lv_iconst (v := nI 5) hx hb d_Block_makeLogBlock_74 (by decide) ?_
      refine lv_iload_n hx hb d_Block_makeLogBlock_75 rfl (lv_at hl 3 rfl) ?_
      refine lv_bipush (v := nI 8) hx hb d_Block_makeLogBlock_76 (by decide) ?_
      refine n_iushr8 hx hb d_Block_makeLogBlock_78 (by omega) ?_
      refine lv_sipush (v := nI 255) hx hb d_Block_makeLogBlock_79 (by decide) ?_
      refine n_iandm hx hb d_Block_makeLogBlock_82 ?_
      refine n_iast (f' := nA (updN (updN (updN (hdrN d ep) 2 ((min (gu - fr) 26) ||| (if fr = 0 then 64 else 0) ||| (if fr + (min (gu - fr) 26) = gu then 128 else 0))) 4 (no % 256)) 5 ((no / 256) % 256))) hx hb hK hP hD hS 1 0 rfl rfl (nA_upd _ _ _) (by omega) (by omega) d_Block_makeLogBlock_83 (fun H locs hP hD hS => ?_)
      have hP : va_P (dC, dI) CL_ [(h0, .inr (2, [.ref h1])), (h1, .inl (cI, 32, .inl (nA (updN (updN (updN (hdrN d ep) 2 ((min (gu - fr) 26) ||| (if fr = 0 then 64 else 0) ||| (if fr + (min (gu - fr) 26) = gu then 128 else 0))) 4 (no % 256)) 5 ((no / 256) % 256))))), (g0, .inr (0, [.ref g1, .int (nI gu)])), (g1, .inl (cI, gn, .inl (nA gd)))] H := hP
      have hD : va_D A [(h0, .inr (2, [.ref h1])), (h1, .inl (cI, 32, .inl (nA (updN (updN (updN (hdrN d ep) 2 ((min (gu - fr) 26) ||| (if fr = 0 then 64 else 0) ||| (if fr + (min (gu - fr) 26) = gu then 128 else 0))) 4 (no % 256)) 5 ((no / 256) % 256))))), (g0, .inr (0, [.ref g1, .int (nI gu)])), (g1, .inl (cI, gn, .inl (nA gd)))] := hD
      refine lv_iconst (v := nI 0) hx hb d_Block_makeLogBlock_84 (by decide) ?_
      refine lv_istore (lv' := [(6, .int (nI 0)), (5, .int (nI (min (gu - fr) 26))), (0, .ref h0), (1, .int (nI ep)), (2, .int (nI no)), (3, .ref g0), (4, .int (nI fr))]) hx hb d_Block_makeLogBlock_85 hl (by decide) rfl (fun ls hl => ?_)
      have loop_87 : ∀ (n_ : Nat) (i : Nat), (i ≤ (min (gu - fr) 26)) → ((min (gu - fr) 26) + 1 ≤ i + n_) → ∀ (H : Heap) (locs : List Loc) (ls : Array Slot), va_P (dC, dI) CL_ [(h0, .inr (2, [.ref h1])), (h1, .inl (cI, 32, .inl (nA (fillN (updN (updN (updN (hdrN d ep) 2 ((min (gu - fr) 26) ||| (if fr = 0 then 64 else 0) ||| (if fr + (min (gu - fr) 26) = gu then 128 else 0))) 4 (no % 256)) 5 (no / 256 % 256)) 6 (fun i => rowAt gd gu (fr + i)) i)))), (g0, .inr (0, [.ref g1, .int (nI gu)])), (g1, .inl (cI, gn, .inl (nA gd)))] H → va_D A [(h0, .inr (2, [.ref h1])), (h1, .inl (cI, 32, .inl (nA (fillN (updN (updN (updN (hdrN d ep) 2 ((min (gu - fr) 26) ||| (if fr = 0 then 64 else 0) ||| (if fr + (min (gu - fr) 26) = gu then 128 else 0))) 4 (no % 256)) 5 (no / 256 % 256)) 6 (fun i => rowAt gd gu (fr + i)) i)))), (g0, .inr (0, [.ref g1, .int (nI gu)])), (g1, .inl (cI, gn, .inl (nA gd)))] → va_S A s.heap H locs → lv_has ls 7 [(0, .ref h0), (1, .int (nI ep)), (2, .int (nI no)), (3, .ref g0), (4, .int (nI fr)), (5, .int (nI (min (gu - fr) 26))), (6, .int (nI i))] → W p l e rm_Block_makeLogBlock s m args below meth c H locs 0 0 QQ (F0 m 87 ls []) := by
        intro n_
        induction n_ with
        | zero =>
          intro i hi hf
          exact absurd hf (by omega)
        | succ n_ ih =>
          intro i hi hf H locs ls hP hD hS hl
          refine lv_iload hx hb d_Block_makeLogBlock_87 (lv_at hl 6 rfl) ?_
          refine lv_iload hx hb d_Block_makeLogBlock_89 (lv_at hl 5 rfl) ?_
          refine n_icmp_ge (tgt := 126) hx hb d_Block_makeLogBlock_91 (by decide) (by omega) (by omega) (fun c_91 => ?_) (fun c_91 => ?_)
          · skip
            have hq : i = (min (gu - fr) 26) := by omega
            rw [hq] at hP hD
            have hP : va_P (dC, dI) CL_ [(h0, .inr (2, [.ref h1])), (h1, .inl (cI, 32, .inl (nA (fillN (updN (updN (updN (hdrN d ep) 2 ((min (gu - fr) 26) ||| (if fr = 0 then 64 else 0) ||| (if fr + (min (gu - fr) 26) = gu then 128 else 0))) 4 (no % 256)) 5 (no / 256 % 256)) 6 (fun i => rowAt gd gu (fr + i)) (min (gu - fr) 26))))), (g0, .inr (0, [.ref g1, .int (nI gu)])), (g1, .inl (cI, gn, .inl (nA gd)))] H := hP
            have hD : va_D A [(h0, .inr (2, [.ref h1])), (h1, .inl (cI, 32, .inl (nA (fillN (updN (updN (updN (hdrN d ep) 2 ((min (gu - fr) 26) ||| (if fr = 0 then 64 else 0) ||| (if fr + (min (gu - fr) 26) = gu then 128 else 0))) 4 (no % 256)) 5 (no / 256 % 256)) 6 (fun i => rowAt gd gu (fr + i)) (min (gu - fr) 26))))), (g0, .inr (0, [.ref g1, .int (nI gu)])), (g1, .inl (cI, gn, .inl (nA gd)))] := hD
            refine lv_aload_n hx hb d_Block_makeLogBlock_126 rfl (lv_at hl 0 rfl) ?_
            refine va_get (D := (dC, dI)) (ci := 2) (v := .ref h1) (C := R_Block) (T := F_Block) (N := 1) hx hb hts in_Block hown hK hP 0 rfl rfl 0 (by decide) (hts _ u_138) (fun _ h9 => h9) rfl d_Block_makeLogBlock_127 ?_
            refine lv_iconst (v := nI 3) hx hb d_Block_makeLogBlock_130 (by decide) ?_
            refine lv_aload_n hx hb d_Block_makeLogBlock_131 rfl (lv_at hl 0 rfl) ?_
            refine va_get (D := (dC, dI)) (ci := 2) (v := .ref h1) (C := R_Block) (T := F_Block) (N := 1) hx hb hts in_Block hown hK hP 0 rfl rfl 0 (by decide) (hts _ u_138) (fun _ h9 => h9) rfl d_Block_makeLogBlock_132 ?_
            refine lv_iconst (v := nI 0) hx hb d_Block_makeLogBlock_135 (by decide) ?_
            refine kj_i (wr := [(h0, .inr (2, [.ref h1])), (g0, .inr (0, [.ref g1, .int (nI gu)])), (g1, .inl (cI, gn, .inl (nA gd)))]) (va_runSN (As := [.ref h1, .int (nI 0)]) (rest := [.int (nI 3), .ref h1]) SS (c_sumOf l dC dI cI H.size h1 32 (fillN (updN (updN (updN (hdrN d ep) 2 ((min (gu - fr) 26) ||| (if fr = 0 then 64 else 0) ||| (if fr + (min (gu - fr) 26) = gu then 128 else 0))) 4 (no % 256)) 5 (no / 256 % 256)) 6 (fun i => rowAt gd gu (fr + i)) (min (gu - fr) 26)) 0 (by omega) (by omega)) (k_cwN 2 hts hN (List.mem_of_getElem? (i := 4) rfl) u_170 u_35 u_171 rfl rfl (by decide +kernel) ⟨Nat.le_of_ble_eq_true rfl, Nat.le_of_ble_eq_true rfl⟩) (kp_S hN hK [0] rfl hP hD [1] rfl (by decide)) rfl rfl hl.1 rfl (lv_room (Nat.le_of_ble_eq_true rfl)) d_Block_makeLogBlock_136 ⟨Nat.le_of_ble_eq_true rfl, Nat.le_of_ble_eq_true rfl⟩) hP hD hS hA [1] [0, 2, 3] rfl rfl (by decide) (by decide) (fun H locs hP hD hS => ?_)
            have hP : va_P (dC, dI) CL_ [(h0, .inr (2, [.ref h1])), (g0, .inr (0, [.ref g1, .int (nI gu)])), (g1, .inl (cI, gn, .inl (nA gd))), (h1, .inl (cI, 32, .inl (nA (fillN (updN (updN (updN (hdrN d ep) 2 ((min (gu - fr) 26) ||| (if fr = 0 then 64 else 0) ||| (if fr + (min (gu - fr) 26) = gu then 128 else 0))) 4 (no % 256)) 5 (no / 256 % 256)) 6 (fun i => rowAt gd gu (fr + i)) (min (gu - fr) 26)))))] H := hP
            have hD : va_D A [(h0, .inr (2, [.ref h1])), (g0, .inr (0, [.ref g1, .int (nI gu)])), (g1, .inl (cI, gn, .inl (nA gd))), (h1, .inl (cI, 32, .inl (nA (fillN (updN (updN (updN (hdrN d ep) 2 ((min (gu - fr) 26) ||| (if fr = 0 then 64 else 0) ||| (if fr + (min (gu - fr) 26) = gu then 128 else 0))) 4 (no % 256)) 5 (no / 256 % 256)) 6 (fun i => rowAt gd gu (fr + i)) (min (gu - fr) 26)))))] := hD
            refine n_iast (f' := nA (updN (fillN (updN (updN (updN (hdrN d ep) 2 ((min (gu - fr) 26) ||| (if fr = 0 then 64 else 0) ||| (if fr + (min (gu - fr) 26) = gu then 128 else 0))) 4 (no % 256)) 5 (no / 256 % 256)) 6 (fun i => rowAt gd gu (fr + i)) (min (gu - fr) 26)) 3 (sumN (fillN (updN (updN (updN (hdrN d ep) 2 ((min (gu - fr) 26) ||| (if fr = 0 then 64 else 0) ||| (if fr + (min (gu - fr) 26) = gu then 128 else 0))) 4 (no % 256)) 5 (no / 256 % 256)) 6 (fun i => rowAt gd gu (fr + i)) (min (gu - fr) 26)) 0))) hx hb hK hP hD hS 3 0 rfl rfl (nA_upd _ _ _) (by omega) (by omega) d_Block_makeLogBlock_139 (fun H locs hP hD hS => ?_)
            have hP : va_P (dC, dI) CL_ [(h0, .inr (2, [.ref h1])), (g0, .inr (0, [.ref g1, .int (nI gu)])), (g1, .inl (cI, gn, .inl (nA gd))), (h1, .inl (cI, 32, .inl (nA (updN (fillN (updN (updN (updN (hdrN d ep) 2 ((min (gu - fr) 26) ||| (if fr = 0 then 64 else 0) ||| (if fr + (min (gu - fr) 26) = gu then 128 else 0))) 4 (no % 256)) 5 (no / 256 % 256)) 6 (fun i => rowAt gd gu (fr + i)) (min (gu - fr) 26)) 3 (sumN (fillN (updN (updN (updN (hdrN d ep) 2 ((min (gu - fr) 26) ||| (if fr = 0 then 64 else 0) ||| (if fr + (min (gu - fr) 26) = gu then 128 else 0))) 4 (no % 256)) 5 (no / 256 % 256)) 6 (fun i => rowAt gd gu (fr + i)) (min (gu - fr) 26)) 0)))))] H := hP
            have hD : va_D A [(h0, .inr (2, [.ref h1])), (g0, .inr (0, [.ref g1, .int (nI gu)])), (g1, .inl (cI, gn, .inl (nA gd))), (h1, .inl (cI, 32, .inl (nA (updN (fillN (updN (updN (updN (hdrN d ep) 2 ((min (gu - fr) 26) ||| (if fr = 0 then 64 else 0) ||| (if fr + (min (gu - fr) 26) = gu then 128 else 0))) 4 (no % 256)) 5 (no / 256 % 256)) 6 (fun i => rowAt gd gu (fr + i)) (min (gu - fr) 26)) 3 (sumN (fillN (updN (updN (updN (hdrN d ep) 2 ((min (gu - fr) 26) ||| (if fr = 0 then 64 else 0) ||| (if fr + (min (gu - fr) 26) = gu then 128 else 0))) 4 (no % 256)) 5 (no / 256 % 256)) 6 (fun i => rowAt gd gu (fr + i)) (min (gu - fr) 26)) 0)))))] := hD
            exact hret _ _ 140 ls d_Block_makeLogBlock_140 (hP.sub [0, 3, 1, 2] rfl) (hD.sub [0, 3, 1, 2] (by decide) rfl) hS
          · skip
            refine lv_iload hx hb d_Block_makeLogBlock_94 (lv_at hl 6 rfl) ?_
            refine lv_bipush (v := nI 26) hx hb d_Block_makeLogBlock_96 (by decide) ?_
            refine n_icmp_ge (tgt := 126) hx hb d_Block_makeLogBlock_98 (by decide) (by omega) (by omega) (fun c_98 => ?_) (fun c_98 => ?_)
            · exact absurd c_98 (by omega)
            · skip
              refine lv_aload_n hx hb d_Block_makeLogBlock_101 rfl (lv_at hl 0 rfl) ?_
              refine va_get (D := (dC, dI)) (ci := 2) (v := .ref h1) (C := R_Block) (T := F_Block) (N := 1) hx hb hts in_Block hown hK hP 0 rfl rfl 0 (by decide) (hts _ u_138) (fun _ h9 => h9) rfl d_Block_makeLogBlock_102 ?_
              refine lv_bipush (v := nI 6) hx hb d_Block_makeLogBlock_105 (by decide) ?_
              refine lv_iload hx hb d_Block_makeLogBlock_107 (lv_at hl 6 rfl) ?_
              refine n_iadd hx hb d_Block_makeLogBlock_109 ?_
              refine lv_aload_n hx hb d_Block_makeLogBlock_110 rfl (lv_at hl 3 rfl) ?_
              refine lv_iload hx hb d_Block_makeLogBlock_111 (lv_at hl 4 rfl) ?_
              refine lv_iload hx hb d_Block_makeLogBlock_113 (lv_at hl 6 rfl) ?_
              refine n_iadd hx hb d_Block_makeLogBlock_115 ?_
              refine kj_i (wr := [(h0, .inr (2, [.ref h1])), (h1, .inl (cI, 32, .inl (nA (fillN (updN (updN (updN (hdrN d ep) 2 ((min (gu - fr) 26) ||| (if fr = 0 then 64 else 0) ||| (if fr + (min (gu - fr) 26) = gu then 128 else 0))) 4 (no % 256)) 5 (no / 256 % 256)) 6 (fun i => rowAt gd gu (fr + i)) i))))]) (va_runV (As := [.int (nI (fr + i))]) (rest := [.int (nI (6 + i)), .ref h1]) SS (c_Row_at l dC dI cI H.size g0 g1 gn gd gu (fr + i) (by omega) (by omega) (by omega)) (k_cwV 1 hts u_516 u_236 u_237 u_38 u_238 rfl rfl (by decide +kernel) ⟨Nat.le_of_ble_eq_true rfl, Nat.le_of_ble_eq_true rfl⟩) (kp_V hN hK [0] rfl hP hD [2, 3] rfl (by decide) (ci := 0) rfl 0 rfl) rfl rfl hl.1 rfl (lv_room (Nat.le_of_ble_eq_true rfl)) d_Block_makeLogBlock_116 ⟨Nat.le_of_ble_eq_true rfl, Nat.le_of_ble_eq_true rfl⟩) hP hD hS hA [2, 3] [0, 1] rfl rfl (by decide) (by decide) (fun H locs hP hD hS => ?_)
              have hP : va_P (dC, dI) CL_ [(h0, .inr (2, [.ref h1])), (h1, .inl (cI, 32, .inl (nA (fillN (updN (updN (updN (hdrN d ep) 2 ((min (gu - fr) 26) ||| (if fr = 0 then 64 else 0) ||| (if fr + (min (gu - fr) 26) = gu then 128 else 0))) 4 (no % 256)) 5 (no / 256 % 256)) 6 (fun i => rowAt gd gu (fr + i)) i)))), (g0, .inr (0, [.ref g1, .int (nI gu)])), (g1, .inl (cI, gn, .inl (nA gd)))] H := hP
              have hD : va_D A [(h0, .inr (2, [.ref h1])), (h1, .inl (cI, 32, .inl (nA (fillN (updN (updN (updN (hdrN d ep) 2 ((min (gu - fr) 26) ||| (if fr = 0 then 64 else 0) ||| (if fr + (min (gu - fr) 26) = gu then 128 else 0))) 4 (no % 256)) 5 (no / 256 % 256)) 6 (fun i => rowAt gd gu (fr + i)) i)))), (g0, .inr (0, [.ref g1, .int (nI gu)])), (g1, .inl (cI, gn, .inl (nA gd)))] := hD
              refine n_iast (f' := nA (updN (fillN (updN (updN (updN (hdrN d ep) 2 ((min (gu - fr) 26) ||| (if fr = 0 then 64 else 0) ||| (if fr + (min (gu - fr) 26) = gu then 128 else 0))) 4 (no % 256)) 5 (no / 256 % 256)) 6 (fun i => rowAt gd gu (fr + i)) i) (6 + i) (rowAt gd gu (fr + i)))) hx hb hK hP hD hS 1 0 rfl rfl (nA_upd _ _ _) (by omega) (by omega) d_Block_makeLogBlock_119 (fun H locs hP hD hS => ?_)
              have hP : va_P (dC, dI) CL_ [(h0, .inr (2, [.ref h1])), (h1, .inl (cI, 32, .inl (nA (updN (fillN (updN (updN (updN (hdrN d ep) 2 ((min (gu - fr) 26) ||| (if fr = 0 then 64 else 0) ||| (if fr + (min (gu - fr) 26) = gu then 128 else 0))) 4 (no % 256)) 5 (no / 256 % 256)) 6 (fun i => rowAt gd gu (fr + i)) i) (6 + i) (rowAt gd gu (fr + i)))))), (g0, .inr (0, [.ref g1, .int (nI gu)])), (g1, .inl (cI, gn, .inl (nA gd)))] H := hP
              have hD : va_D A [(h0, .inr (2, [.ref h1])), (h1, .inl (cI, 32, .inl (nA (updN (fillN (updN (updN (updN (hdrN d ep) 2 ((min (gu - fr) 26) ||| (if fr = 0 then 64 else 0) ||| (if fr + (min (gu - fr) 26) = gu then 128 else 0))) 4 (no % 256)) 5 (no / 256 % 256)) 6 (fun i => rowAt gd gu (fr + i)) i) (6 + i) (rowAt gd gu (fr + i)))))), (g0, .inr (0, [.ref g1, .int (nI gu)])), (g1, .inl (cI, gn, .inl (nA gd)))] := hD
              refine lv_iinc (v := nI (i + 1)) (lv' := [(6, .int (nI (i + 1))), (0, .ref h0), (1, .int (nI ep)), (2, .int (nI no)), (3, .ref g0), (4, .int (nI fr)), (5, .int (nI (min (gu - fr) 26)))]) hx hb d_Block_makeLogBlock_120 hl (k := 6) rfl (inc1 i) (by decide) rfl (fun ls hl => ?_)
              refine lv_goto (tgt := 87) hx hb d_Block_makeLogBlock_123 (by decide) ?_
              have e9 : updN (fillN (updN (updN (updN (hdrN d ep) 2 ((min (gu - fr) 26) ||| (if fr = 0 then 64 else 0) ||| (if fr + (min (gu - fr) 26) = gu then 128 else 0))) 4 (no % 256)) 5 (no / 256 % 256)) 6 (fun i => rowAt gd gu (fr + i)) i) (6 + i) (rowAt gd gu (fr + i)) = fillN (updN (updN (updN (hdrN d ep) 2 ((min (gu - fr) 26) ||| (if fr = 0 then 64 else 0) ||| (if fr + (min (gu - fr) 26) = gu then 128 else 0))) 4 (no % 256)) 5 (no / 256 % 256)) 6 (fun i => rowAt gd gu (fr + i)) (i + 1) := fillN_s _ _ _ _
              rw [e9] at hP hD
              exact ih (i + 1) (by omega) (by omega) _ _ _ (hP.sub [0, 1, 2, 3] rfl) (hD.sub [0, 1, 2, 3] (by decide) rfl) hS (lv_sub hl [1, 2, 3, 4, 5, 6, 0] rfl)
      rw [← fillN_0 (updN (updN (updN (hdrN d ep) 2 ((min (gu - fr) 26) ||| (if fr = 0 then 64 else 0) ||| (if fr + (min (gu - fr) 26) = gu then 128 else 0))) 4 (no % 256)) 5 (no / 256 % 256)) 6 (fun i => rowAt gd gu (fr + i))] at hP hD
      exact loop_87 ((min (gu - fr) 26) + 1) 0 (by omega) (by omega) _ _ _ (hP.sub [0, 1, 2, 3] rfl) (hD.sub [0, 1, 2, 3] (by decide) rfl) hS (lv_sub hl [2, 3, 4, 5, 6, 1, 0] rfl)
    · skip
      refine lv_sipush (v := nI 128) hx hb d_Block_makeLogBlock_50 (by decide) ?_
      refine lv_goto (tgt := 57) hx hb d_Block_makeLogBlock_53 (by decide) ?_
      refine n_ior hx hb d_Block_makeLogBlock_57 ?_
      refine top_i (nI ((min (gu - fr) 26) ||| (if fr = 0 then 64 else 0) ||| (if fr + (min (gu - fr) 26) = gu then 128 else 0))) (by first | rw [if_pos c_47] | rw [if_neg c_47]) ?_
      refine n_iast (f' := nA (updN (hdrN d ep) 2 ((min (gu - fr) 26) ||| (if fr = 0 then 64 else 0) ||| (if fr + (min (gu - fr) 26) = gu then 128 else 0)))) hx hb hK hP hD hS 1 0 rfl rfl (nA_upd _ _ _) (by omega) (by omega) d_Block_makeLogBlock_58 (fun H locs hP hD hS => ?_)
      have hP : va_P (dC, dI) CL_ [(h0, .inr (2, [.ref h1])), (h1, .inl (cI, 32, .inl (nA (updN (hdrN d ep) 2 ((min (gu - fr) 26) ||| (if fr = 0 then 64 else 0) ||| (if fr + (min (gu - fr) 26) = gu then 128 else 0)))))), (g0, .inr (0, [.ref g1, .int (nI gu)])), (g1, .inl (cI, gn, .inl (nA gd)))] H := hP
      have hD : va_D A [(h0, .inr (2, [.ref h1])), (h1, .inl (cI, 32, .inl (nA (updN (hdrN d ep) 2 ((min (gu - fr) 26) ||| (if fr = 0 then 64 else 0) ||| (if fr + (min (gu - fr) 26) = gu then 128 else 0)))))), (g0, .inr (0, [.ref g1, .int (nI gu)])), (g1, .inl (cI, gn, .inl (nA gd)))] := hD
      refine lv_aload_n hx hb d_Block_makeLogBlock_59 rfl (lv_at hl 1 rfl) ?_
      refine va_get (D := (dC, dI)) (ci := 2) (v := .ref h1) (C := R_Block) (T := F_Block) (N := 1) hx hb hts in_Block hown hK hP 0 rfl rfl 0 (by decide) (hts _ u_138) (fun _ h9 => h9) rfl d_Block_makeLogBlock_60 ?_
      refine lv_iconst (v := nI 4) hx hb d_Block_makeLogBlock_63 (by decide) ?_
      refine lv_iload_n hx hb d_Block_makeLogBlock_64 rfl (lv_at hl 3 rfl) ?_
      refine lv_sipush (v := nI 255) hx hb d_Block_makeLogBlock_65 (by decide) ?_
      refine n_iandm hx hb d_Block_makeLogBlock_68 ?_
      refine n_iast (f' := nA (updN (updN (hdrN d ep) 2 ((min (gu - fr) 26) ||| (if fr = 0 then 64 else 0) ||| (if fr + (min (gu - fr) 26) = gu then 128 else 0))) 4 (no % 256))) hx hb hK hP hD hS 1 0 rfl rfl (nA_upd _ _ _) (by omega) (by omega) d_Block_makeLogBlock_69 (fun H locs hP hD hS => ?_)
      have hP : va_P (dC, dI) CL_ [(h0, .inr (2, [.ref h1])), (h1, .inl (cI, 32, .inl (nA (updN (updN (hdrN d ep) 2 ((min (gu - fr) 26) ||| (if fr = 0 then 64 else 0) ||| (if fr + (min (gu - fr) 26) = gu then 128 else 0))) 4 (no % 256))))), (g0, .inr (0, [.ref g1, .int (nI gu)])), (g1, .inl (cI, gn, .inl (nA gd)))] H := hP
      have hD : va_D A [(h0, .inr (2, [.ref h1])), (h1, .inl (cI, 32, .inl (nA (updN (updN (hdrN d ep) 2 ((min (gu - fr) 26) ||| (if fr = 0 then 64 else 0) ||| (if fr + (min (gu - fr) 26) = gu then 128 else 0))) 4 (no % 256))))), (g0, .inr (0, [.ref g1, .int (nI gu)])), (g1, .inl (cI, gn, .inl (nA gd)))] := hD
      refine lv_aload_n hx hb d_Block_makeLogBlock_70 rfl (lv_at hl 1 rfl) ?_
      refine va_get (D := (dC, dI)) (ci := 2) (v := .ref h1) (C := R_Block) (T := F_Block) (N := 1) hx hb hts in_Block hown hK hP 0 rfl rfl 0 (by decide) (hts _ u_138) (fun _ h9 => h9) rfl d_Block_makeLogBlock_71 ?_
      refine lv_iconst (v := nI 5) hx hb d_Block_makeLogBlock_74 (by decide) ?_
      refine lv_iload_n hx hb d_Block_makeLogBlock_75 rfl (lv_at hl 3 rfl) ?_
      refine lv_bipush (v := nI 8) hx hb d_Block_makeLogBlock_76 (by decide) ?_
      refine n_iushr8 hx hb d_Block_makeLogBlock_78 (by omega) ?_
      refine lv_sipush (v := nI 255) hx hb d_Block_makeLogBlock_79 (by decide) ?_
      refine n_iandm hx hb d_Block_makeLogBlock_82 ?_
      refine n_iast (f' := nA (updN (updN (updN (hdrN d ep) 2 ((min (gu - fr) 26) ||| (if fr = 0 then 64 else 0) ||| (if fr + (min (gu - fr) 26) = gu then 128 else 0))) 4 (no % 256)) 5 ((no / 256) % 256))) hx hb hK hP hD hS 1 0 rfl rfl (nA_upd _ _ _) (by omega) (by omega) d_Block_makeLogBlock_83 (fun H locs hP hD hS => ?_)
      have hP : va_P (dC, dI) CL_ [(h0, .inr (2, [.ref h1])), (h1, .inl (cI, 32, .inl (nA (updN (updN (updN (hdrN d ep) 2 ((min (gu - fr) 26) ||| (if fr = 0 then 64 else 0) ||| (if fr + (min (gu - fr) 26) = gu then 128 else 0))) 4 (no % 256)) 5 ((no / 256) % 256))))), (g0, .inr (0, [.ref g1, .int (nI gu)])), (g1, .inl (cI, gn, .inl (nA gd)))] H := hP
      have hD : va_D A [(h0, .inr (2, [.ref h1])), (h1, .inl (cI, 32, .inl (nA (updN (updN (updN (hdrN d ep) 2 ((min (gu - fr) 26) ||| (if fr = 0 then 64 else 0) ||| (if fr + (min (gu - fr) 26) = gu then 128 else 0))) 4 (no % 256)) 5 ((no / 256) % 256))))), (g0, .inr (0, [.ref g1, .int (nI gu)])), (g1, .inl (cI, gn, .inl (nA gd)))] := hD
      refine lv_iconst (v := nI 0) hx hb d_Block_makeLogBlock_84 (by decide) ?_
      refine lv_istore (lv' := [(6, .int (nI 0)), (5, .int (nI (min (gu - fr) 26))), (0, .ref h0), (1, .int (nI ep)), (2, .int (nI no)), (3, .ref g0), (4, .int (nI fr))]) hx hb d_Block_makeLogBlock_85 hl (by decide) rfl (fun ls hl => ?_)
      have loop_87 : ∀ (n_ : Nat) (i : Nat), (i ≤ (min (gu - fr) 26)) → ((min (gu - fr) 26) + 1 ≤ i + n_) → ∀ (H : Heap) (locs : List Loc) (ls : Array Slot), va_P (dC, dI) CL_ [(h0, .inr (2, [.ref h1])), (h1, .inl (cI, 32, .inl (nA (fillN (updN (updN (updN (hdrN d ep) 2 ((min (gu - fr) 26) ||| (if fr = 0 then 64 else 0) ||| (if fr + (min (gu - fr) 26) = gu then 128 else 0))) 4 (no % 256)) 5 (no / 256 % 256)) 6 (fun i => rowAt gd gu (fr + i)) i)))), (g0, .inr (0, [.ref g1, .int (nI gu)])), (g1, .inl (cI, gn, .inl (nA gd)))] H → va_D A [(h0, .inr (2, [.ref h1])), (h1, .inl (cI, 32, .inl (nA (fillN (updN (updN (updN (hdrN d ep) 2 ((min (gu - fr) 26) ||| (if fr = 0 then 64 else 0) ||| (if fr + (min (gu - fr) 26) = gu then 128 else 0))) 4 (no % 256)) 5 (no / 256 % 256)) 6 (fun i => rowAt gd gu (fr + i)) i)))), (g0, .inr (0, [.ref g1, .int (nI gu)])), (g1, .inl (cI, gn, .inl (nA gd)))] → va_S A s.heap H locs → lv_has ls 7 [(0, .ref h0), (1, .int (nI ep)), (2, .int (nI no)), (3, .ref g0), (4, .int (nI fr)), (5, .int (nI (min (gu - fr) 26))), (6, .int (nI i))] → W p l e rm_Block_makeLogBlock s m args below meth c H locs 0 0 QQ (F0 m 87 ls []) := by
        intro n_
        induction n_ with
        | zero =>
          intro i hi hf
          exact absurd hf (by omega)
        | succ n_ ih =>
          intro i hi hf H locs ls hP hD hS hl
          refine lv_iload hx hb d_Block_makeLogBlock_87 (lv_at hl 6 rfl) ?_
          refine lv_iload hx hb d_Block_makeLogBlock_89 (lv_at hl 5 rfl) ?_
          refine n_icmp_ge (tgt := 126) hx hb d_Block_makeLogBlock_91 (by decide) (by omega) (by omega) (fun c_91 => ?_) (fun c_91 => ?_)
          · skip
            have hq : i = (min (gu - fr) 26) := by omega
            rw [hq] at hP hD
            have hP : va_P (dC, dI) CL_ [(h0, .inr (2, [.ref h1])), (h1, .inl (cI, 32, .inl (nA (fillN (updN (updN (updN (hdrN d ep) 2 ((min (gu - fr) 26) ||| (if fr = 0 then 64 else 0) ||| (if fr + (min (gu - fr) 26) = gu then 128 else 0))) 4 (no % 256)) 5 (no / 256 % 256)) 6 (fun i => rowAt gd gu (fr + i)) (min (gu - fr) 26))))), (g0, .inr (0, [.ref g1, .int (nI gu)])), (g1, .inl (cI, gn, .inl (nA gd)))] H := hP
            have hD : va_D A [(h0, .inr (2, [.ref h1])), (h1, .inl (cI, 32, .inl (nA (fillN (updN (updN (updN (hdrN d ep) 2 ((min (gu - fr) 26) ||| (if fr = 0 then 64 else 0) ||| (if fr + (min (gu - fr) 26) = gu then 128 else 0))) 4 (no % 256)) 5 (no / 256 % 256)) 6 (fun i => rowAt gd gu (fr + i)) (min (gu - fr) 26))))), (g0, .inr (0, [.ref g1, .int (nI gu)])), (g1, .inl (cI, gn, .inl (nA gd)))] := hD
            refine lv_aload_n hx hb d_Block_makeLogBlock_126 rfl (lv_at hl 0 rfl) ?_
            refine va_get (D := (dC, dI)) (ci := 2) (v := .ref h1) (C := R_Block) (T := F_Block) (N := 1) hx hb hts in_Block hown hK hP 0 rfl rfl 0 (by decide) (hts _ u_138) (fun _ h9 => h9) rfl d_Block_makeLogBlock_127 ?_
            refine lv_iconst (v := nI 3) hx hb d_Block_makeLogBlock_130 (by decide) ?_
            refine lv_aload_n hx hb d_Block_makeLogBlock_131 rfl (lv_at hl 0 rfl) ?_
            refine va_get (D := (dC, dI)) (ci := 2) (v := .ref h1) (C := R_Block) (T := F_Block) (N := 1) hx hb hts in_Block hown hK hP 0 rfl rfl 0 (by decide) (hts _ u_138) (fun _ h9 => h9) rfl d_Block_makeLogBlock_132 ?_
            refine lv_iconst (v := nI 0) hx hb d_Block_makeLogBlock_135 (by decide) ?_
            refine kj_i (wr := [(h0, .inr (2, [.ref h1])), (g0, .inr (0, [.ref g1, .int (nI gu)])), (g1, .inl (cI, gn, .inl (nA gd)))]) (va_runSN (As := [.ref h1, .int (nI 0)]) (rest := [.int (nI 3), .ref h1]) SS (c_sumOf l dC dI cI H.size h1 32 (fillN (updN (updN (updN (hdrN d ep) 2 ((min (gu - fr) 26) ||| (if fr = 0 then 64 else 0) ||| (if fr + (min (gu - fr) 26) = gu then 128 else 0))) 4 (no % 256)) 5 (no / 256 % 256)) 6 (fun i => rowAt gd gu (fr + i)) (min (gu - fr) 26)) 0 (by omega) (by omega)) (k_cwN 2 hts hN (List.mem_of_getElem? (i := 4) rfl) u_170 u_35 u_171 rfl rfl (by decide +kernel) ⟨Nat.le_of_ble_eq_true rfl, Nat.le_of_ble_eq_true rfl⟩) (kp_S hN hK [0] rfl hP hD [1] rfl (by decide)) rfl rfl hl.1 rfl (lv_room (Nat.le_of_ble_eq_true rfl)) d_Block_makeLogBlock_136 ⟨Nat.le_of_ble_eq_true rfl, Nat.le_of_ble_eq_true rfl⟩) hP hD hS hA [1] [0, 2, 3] rfl rfl (by decide) (by decide) (fun H locs hP hD hS => ?_)
            have hP : va_P (dC, dI) CL_ [(h0, .inr (2, [.ref h1])), (g0, .inr (0, [.ref g1, .int (nI gu)])), (g1, .inl (cI, gn, .inl (nA gd))), (h1, .inl (cI, 32, .inl (nA (fillN (updN (updN (updN (hdrN d ep) 2 ((min (gu - fr) 26) ||| (if fr = 0 then 64 else 0) ||| (if fr + (min (gu - fr) 26) = gu then 128 else 0))) 4 (no % 256)) 5 (no / 256 % 256)) 6 (fun i => rowAt gd gu (fr + i)) (min (gu - fr) 26)))))] H := hP
            have hD : va_D A [(h0, .inr (2, [.ref h1])), (g0, .inr (0, [.ref g1, .int (nI gu)])), (g1, .inl (cI, gn, .inl (nA gd))), (h1, .inl (cI, 32, .inl (nA (fillN (updN (updN (updN (hdrN d ep) 2 ((min (gu - fr) 26) ||| (if fr = 0 then 64 else 0) ||| (if fr + (min (gu - fr) 26) = gu then 128 else 0))) 4 (no % 256)) 5 (no / 256 % 256)) 6 (fun i => rowAt gd gu (fr + i)) (min (gu - fr) 26)))))] := hD
            refine n_iast (f' := nA (updN (fillN (updN (updN (updN (hdrN d ep) 2 ((min (gu - fr) 26) ||| (if fr = 0 then 64 else 0) ||| (if fr + (min (gu - fr) 26) = gu then 128 else 0))) 4 (no % 256)) 5 (no / 256 % 256)) 6 (fun i => rowAt gd gu (fr + i)) (min (gu - fr) 26)) 3 (sumN (fillN (updN (updN (updN (hdrN d ep) 2 ((min (gu - fr) 26) ||| (if fr = 0 then 64 else 0) ||| (if fr + (min (gu - fr) 26) = gu then 128 else 0))) 4 (no % 256)) 5 (no / 256 % 256)) 6 (fun i => rowAt gd gu (fr + i)) (min (gu - fr) 26)) 0))) hx hb hK hP hD hS 3 0 rfl rfl (nA_upd _ _ _) (by omega) (by omega) d_Block_makeLogBlock_139 (fun H locs hP hD hS => ?_)
            have hP : va_P (dC, dI) CL_ [(h0, .inr (2, [.ref h1])), (g0, .inr (0, [.ref g1, .int (nI gu)])), (g1, .inl (cI, gn, .inl (nA gd))), (h1, .inl (cI, 32, .inl (nA (updN (fillN (updN (updN (updN (hdrN d ep) 2 ((min (gu - fr) 26) ||| (if fr = 0 then 64 else 0) ||| (if fr + (min (gu - fr) 26) = gu then 128 else 0))) 4 (no % 256)) 5 (no / 256 % 256)) 6 (fun i => rowAt gd gu (fr + i)) (min (gu - fr) 26)) 3 (sumN (fillN (updN (updN (updN (hdrN d ep) 2 ((min (gu - fr) 26) ||| (if fr = 0 then 64 else 0) ||| (if fr + (min (gu - fr) 26) = gu then 128 else 0))) 4 (no % 256)) 5 (no / 256 % 256)) 6 (fun i => rowAt gd gu (fr + i)) (min (gu - fr) 26)) 0)))))] H := hP
            have hD : va_D A [(h0, .inr (2, [.ref h1])), (g0, .inr (0, [.ref g1, .int (nI gu)])), (g1, .inl (cI, gn, .inl (nA gd))), (h1, .inl (cI, 32, .inl (nA (updN (fillN (updN (updN (updN (hdrN d ep) 2 ((min (gu - fr) 26) ||| (if fr = 0 then 64 else 0) ||| (if fr + (min (gu - fr) 26) = gu then 128 else 0))) 4 (no % 256)) 5 (no / 256 % 256)) 6 (fun i => rowAt gd gu (fr + i)) (min (gu - fr) 26)) 3 (sumN (fillN (updN (updN (updN (hdrN d ep) 2 ((min (gu - fr) 26) ||| (if fr = 0 then 64 else 0) ||| (if fr + (min (gu - fr) 26) = gu then 128 else 0))) 4 (no % 256)) 5 (no / 256 % 256)) 6 (fun i => rowAt gd gu (fr + i)) (min (gu - fr) 26)) 0)))))] := hD
            exact hret _ _ 140 ls d_Block_makeLogBlock_140 (hP.sub [0, 3, 1, 2] rfl) (hD.sub [0, 3, 1, 2] (by decide) rfl) hS
          · skip
            refine lv_iload hx hb d_Block_makeLogBlock_94 (lv_at hl 6 rfl) ?_
            refine lv_bipush (v := nI 26) hx hb d_Block_makeLogBlock_96 (by decide) ?_
            refine n_icmp_ge (tgt := 126) hx hb d_Block_makeLogBlock_98 (by decide) (by omega) (by omega) (fun c_98 => ?_) (fun c_98 => ?_)
            · exact absurd c_98 (by omega)
            · skip
              refine lv_aload_n hx hb d_Block_makeLogBlock_101 rfl (lv_at hl 0 rfl) ?_
              refine va_get (D := (dC, dI)) (ci := 2) (v := .ref h1) (C := R_Block) (T := F_Block) (N := 1) hx hb hts in_Block hown hK hP 0 rfl rfl 0 (by decide) (hts _ u_138) (fun _ h9 => h9) rfl d_Block_makeLogBlock_102 ?_
              refine lv_bipush (v := nI 6) hx hb d_Block_makeLogBlock_105 (by decide) ?_
              refine lv_iload hx hb d_Block_makeLogBlock_107 (lv_at hl 6 rfl) ?_
              refine n_iadd hx hb d_Block_makeLogBlock_109 ?_
              refine lv_aload_n hx hb d_Block_makeLogBlock_110 rfl (lv_at hl 3 rfl) ?_
              refine lv_iload hx hb d_Block_makeLogBlock_111 (lv_at hl 4 rfl) ?_
              refine lv_iload hx hb d_Block_makeLogBlock_113 (lv_at hl 6 rfl) ?_
              refine n_iadd hx hb d_Block_makeLogBlock_115 ?_
              refine kj_i (wr := [(h0, .inr (2, [.ref h1])), (h1, .inl (cI, 32, .inl (nA (fillN (updN (updN (updN (hdrN d ep) 2 ((min (gu - fr) 26) ||| (if fr = 0 then 64 else 0) ||| (if fr + (min (gu - fr) 26) = gu then 128 else 0))) 4 (no % 256)) 5 (no / 256 % 256)) 6 (fun i => rowAt gd gu (fr + i)) i))))]) (va_runV (As := [.int (nI (fr + i))]) (rest := [.int (nI (6 + i)), .ref h1]) SS (c_Row_at l dC dI cI H.size g0 g1 gn gd gu (fr + i) (by omega) (by omega) (by omega)) (k_cwV 1 hts u_516 u_236 u_237 u_38 u_238 rfl rfl (by decide +kernel) ⟨Nat.le_of_ble_eq_true rfl, Nat.le_of_ble_eq_true rfl⟩) (kp_V hN hK [0] rfl hP hD [2, 3] rfl (by decide) (ci := 0) rfl 0 rfl) rfl rfl hl.1 rfl (lv_room (Nat.le_of_ble_eq_true rfl)) d_Block_makeLogBlock_116 ⟨Nat.le_of_ble_eq_true rfl, Nat.le_of_ble_eq_true rfl⟩) hP hD hS hA [2, 3] [0, 1] rfl rfl (by decide) (by decide) (fun H locs hP hD hS => ?_)
              have hP : va_P (dC, dI) CL_ [(h0, .inr (2, [.ref h1])), (h1, .inl (cI, 32, .inl (nA (fillN (updN (updN (updN (hdrN d ep) 2 ((min (gu - fr) 26) ||| (if fr = 0 then 64 else 0) ||| (if fr + (min (gu - fr) 26) = gu then 128 else 0))) 4 (no % 256)) 5 (no / 256 % 256)) 6 (fun i => rowAt gd gu (fr + i)) i)))), (g0, .inr (0, [.ref g1, .int (nI gu)])), (g1, .inl (cI, gn, .inl (nA gd)))] H := hP
              have hD : va_D A [(h0, .inr (2, [.ref h1])), (h1, .inl (cI, 32, .inl (nA (fillN (updN (updN (updN (hdrN d ep) 2 ((min (gu - fr) 26) ||| (if fr = 0 then 64 else 0) ||| (if fr + (min (gu - fr) 26) = gu then 128 else 0))) 4 (no % 256)) 5 (no / 256 % 256)) 6 (fun i => rowAt gd gu (fr + i)) i)))), (g0, .inr (0, [.ref g1, .int (nI gu)])), (g1, .inl (cI, gn, .inl (nA gd)))] := hD
              refine n_iast (f' := nA (updN (fillN (updN (updN (updN (hdrN d ep) 2 ((min (gu - fr) 26) ||| (if fr = 0 then 64 else 0) ||| (if fr + (min (gu - fr) 26) = gu then 128 else 0))) 4 (no % 256)) 5 (no / 256 % 256)) 6 (fun i => rowAt gd gu (fr + i)) i) (6 + i) (rowAt gd gu (fr + i)))) hx hb hK hP hD hS 1 0 rfl rfl (nA_upd _ _ _) (by omega) (by omega) d_Block_makeLogBlock_119 (fun H locs hP hD hS => ?_)
              have hP : va_P (dC, dI) CL_ [(h0, .inr (2, [.ref h1])), (h1, .inl (cI, 32, .inl (nA (updN (fillN (updN (updN (updN (hdrN d ep) 2 ((min (gu - fr) 26) ||| (if fr = 0 then 64 else 0) ||| (if fr + (min (gu - fr) 26) = gu then 128 else 0))) 4 (no % 256)) 5 (no / 256 % 256)) 6 (fun i => rowAt gd gu (fr + i)) i) (6 + i) (rowAt gd gu (fr + i)))))), (g0, .inr (0, [.ref g1, .int (nI gu)])), (g1, .inl (cI, gn, .inl (nA gd)))] H := hP
              have hD : va_D A [(h0, .inr (2, [.ref h1])), (h1, .inl (cI, 32, .inl (nA (updN (fillN (updN (updN (updN (hdrN d ep) 2 ((min (gu - fr) 26) ||| (if fr = 0 then 64 else 0) ||| (if fr + (min (gu - fr) 26) = gu then 128 else 0))) 4 (no % 256)) 5 (no / 256 % 256)) 6 (fun i => rowAt gd gu (fr + i)) i) (6 + i) (rowAt gd gu (fr + i)))))), (g0, .inr (0, [.ref g1, .int (nI gu)])), (g1, .inl (cI, gn, .inl (nA gd)))] := hD
              refine lv_iinc (v := nI (i + 1)) (lv' := [(6, .int (nI (i + 1))), (0, .ref h0), (1, .int (nI ep)), (2, .int (nI no)), (3, .ref g0), (4, .int (nI fr)), (5, .int (nI (min (gu - fr) 26)))]) hx hb d_Block_makeLogBlock_120 hl (k := 6) rfl (inc1 i) (by decide) rfl (fun ls hl => ?_)
              refine lv_goto (tgt := 87) hx hb d_Block_makeLogBlock_123 (by decide) ?_
              have e9 : updN (fillN (updN (updN (updN (hdrN d ep) 2 ((min (gu - fr) 26) ||| (if fr = 0 then 64 else 0) ||| (if fr + (min (gu - fr) 26) = gu then 128 else 0))) 4 (no % 256)) 5 (no / 256 % 256)) 6 (fun i => rowAt gd gu (fr + i)) i) (6 + i) (rowAt gd gu (fr + i)) = fillN (updN (updN (updN (hdrN d ep) 2 ((min (gu - fr) 26) ||| (if fr = 0 then 64 else 0) ||| (if fr + (min (gu - fr) 26) = gu then 128 else 0))) 4 (no % 256)) 5 (no / 256 % 256)) 6 (fun i => rowAt gd gu (fr + i)) (i + 1) := fillN_s _ _ _ _
              rw [e9] at hP hD
              exact ih (i + 1) (by omega) (by omega) _ _ _ (hP.sub [0, 1, 2, 3] rfl) (hD.sub [0, 1, 2, 3] (by decide) rfl) hS (lv_sub hl [1, 2, 3, 4, 5, 6, 0] rfl)
      rw [← fillN_0 (updN (updN (updN (hdrN d ep) 2 ((min (gu - fr) 26) ||| (if fr = 0 then 64 else 0) ||| (if fr + (min (gu - fr) 26) = gu then 128 else 0))) 4 (no % 256)) 5 (no / 256 % 256)) 6 (fun i => rowAt gd gu (fr + i))] at hP hD
      exact loop_87 ((min (gu - fr) 26) + 1) 0 (by omega) (by omega) _ _ _ (hP.sub [0, 1, 2, 3] rfl) (hD.sub [0, 1, 2, 3] (by decide) rfl) hS (lv_sub hl [2, 3, 4, 5, 6, 1, 0] rfl)
