abbrev rm_Disk_byteAt : Room := { frames := 0, cells := 0, slots := 0, locals := 0 }
set_option maxHeartbeats 4000000 in
set_option maxRecDepth 100000 in
theorem c_Disk_byteAt (l : Launch) (dC : Nat → ClassId) (dI : Nat → Nat → Nat) (cI : ClassId) (sz : Nat) (h0 : Nat) (h1 : Nat) (d : Nat → Nat) (a : Nat) (ha : a < 6144) : KI l y_Disk_byteAt w_Disk_byteAt rm_Disk_byteAt (dC, dI) CL_ [(cI, .int)] sz [.ref h0, .int (nI a)] [(h0, .inr (3, [.ref h1])), (h1, .inl (cI, 6144, .inl (nA d)))] [(h0, .inr (3, [.ref h1])), (h1, .inl (cI, 6144, .inl (nA d)))] (nI (d a)) := by
  refine k_start_i (cc := b_Disk_byteAt) (maxL := 2) (by decide) (Nat.le_of_ble_eq_true rfl) ?_
  intro p e s m args below meth c A QQ ls SS hK hP hD hA hl hN hret
  obtain ⟨hx, hb, hml, hown, hts⟩ := id SS
  have hl : lv_has ls 2 [(0, .ref h0), (1, .int (nI a))] := hl
  have hS : va_S A s.heap s.heap [] := va_S.rf
  refine lv_iload_n hx hb d_Disk_byteAt_0 rfl (lv_at hl 1 rfl) ?_
  refine n_if_lt (tgt := 20) hx hb d_Disk_byteAt_1 (by decide) (by omega) ?_
  refine lv_iload_n hx hb d_Disk_byteAt_4 rfl (lv_at hl 1 rfl) ?_
  refine lv_sipush (v := nI 6144) hx hb d_Disk_byteAt_5 (by decide) ?_
  refine n_icmp_ge (tgt := 20) hx hb d_Disk_byteAt_8 (by decide) (by omega) (by omega) (fun c_8 => ?_) (fun c_8 => ?_)
  · exact absurd c_8 (by omega)
  · skip
    refine lv_aload_n hx hb d_Disk_byteAt_11 rfl (lv_at hl 0 rfl) ?_
    refine va_get (D := (dC, dI)) (ci := 3) (v := .ref h1) (C := R_Disk) (T := F_Disk) (N := 1) hx hb hts in_Disk hown hK hP 0 rfl rfl 0 (by decide) (hts _ u_65) (fun _ h9 => h9) rfl d_Disk_byteAt_12 ?_
    refine lv_iload_n hx hb d_Disk_byteAt_15 rfl (lv_at hl 1 rfl) ?_
    refine n_iald (v := nI (d a)) hx hb hK hP 1 0 rfl rfl rfl (by omega) (by omega) d_Disk_byteAt_16 ?_
    refine lv_goto (tgt := 21) hx hb d_Disk_byteAt_17 (by decide) ?_
    exact hret (nI (d a)) _ _ 21 ls d_Disk_byteAt_21 (hP.sub [0, 1] rfl) (hD.sub [0, 1] (by decide) rfl) hS rfl
abbrev rm_Disk_change : Room := { frames := 0, cells := 0, slots := 0, locals := 0 }
set_option maxHeartbeats 4000000 in
set_option maxRecDepth 100000 in
theorem c_Disk_change (l : Launch) (dC : Nat → ClassId) (dI : Nat → Nat → Nat) (cI : ClassId) (sz : Nat) (h0 : Nat) (h1 : Nat) (d : Nat → Nat) (a : Nat) (v : Nat) (ha : a < 6144) (hv : v < 256) : KV l y_Disk_change w_Disk_change rm_Disk_change (dC, dI) CL_ [(cI, .int)] sz [.ref h0, .int (nI a), .int (nI v)] [(h0, .inr (3, [.ref h1])), (h1, .inl (cI, 6144, .inl (nA d)))] [(h0, .inr (3, [.ref h1])), (h1, .inl (cI, 6144, .inl (nA (updN d a v))))] := by
  refine k_start_v (cc := b_Disk_change) (maxL := 3) (by decide) (Nat.le_of_ble_eq_true rfl) ?_
  intro p e s m args below meth c A QQ ls SS hK hP hD hA hl hN hret
  obtain ⟨hx, hb, hml, hown, hts⟩ := id SS
  have hl : lv_has ls 3 [(0, .ref h0), (1, .int (nI a)), (2, .int (nI v))] := hl
  have hS : va_S A s.heap s.heap [] := va_S.rf
  refine lv_iload_n hx hb d_Disk_change_0 rfl (lv_at hl 1 rfl) ?_
  refine n_if_lt (tgt := 22) hx hb d_Disk_change_1 (by decide) (by omega) ?_
  refine lv_iload_n hx hb d_Disk_change_4 rfl (lv_at hl 1 rfl) ?_
  refine lv_sipush (v := nI 6144) hx hb d_Disk_change_5 (by decide) ?_
  refine n_icmp_ge (tgt := 22) hx hb d_Disk_change_8 (by decide) (by omega) (by omega) (fun c_8 => ?_) (fun c_8 => ?_)
  · exact absurd c_8 (by omega)
  · skip
    refine lv_aload_n hx hb d_Disk_change_11 rfl (lv_at hl 0 rfl) ?_
    refine va_get (D := (dC, dI)) (ci := 3) (v := .ref h1) (C := R_Disk) (T := F_Disk) (N := 1) hx hb hts in_Disk hown hK hP 0 rfl rfl 0 (by decide) (hts _ u_65) (fun _ h9 => h9) rfl d_Disk_change_12 ?_
    refine lv_iload_n hx hb d_Disk_change_15 rfl (lv_at hl 1 rfl) ?_
    refine lv_iload_n hx hb d_Disk_change_16 rfl (lv_at hl 2 rfl) ?_
    refine lv_sipush (v := nI 255) hx hb d_Disk_change_17 (by decide) ?_
    refine n_iandm hx hb d_Disk_change_20 ?_
    refine top_i (nI v) (by rw [Nat.mod_eq_of_lt hv]) ?_
    refine n_iast (f' := nA (updN d a v)) hx hb hK hP hD hS 1 0 rfl rfl (nA_upd _ _ _) (by omega) (by omega) d_Disk_change_21 (fun H locs hP hD hS => ?_)
    have hP : va_P (dC, dI) CL_ [(h0, .inr (3, [.ref h1])), (h1, .inl (cI, 6144, .inl (nA (updN d a v))))] H := hP
    have hD : va_D A [(h0, .inr (3, [.ref h1])), (h1, .inl (cI, 6144, .inl (nA (updN d a v))))] := hD
    exact hret _ _ 22 ls d_Disk_change_22 (hP.sub [0, 1] rfl) (hD.sub [0, 1] (by decide) rfl) hS
abbrev rm_Disk_pairAt : Room := { frames := 1, cells := 0, slots := 0, locals := 21 }
set_option maxHeartbeats 4000000 in
set_option maxRecDepth 100000 in
theorem c_Disk_pairAt (l : Launch) (dC : Nat → ClassId) (dI : Nat → Nat → Nat) (cI : ClassId) (sz : Nat) (h0 : Nat) (h1 : Nat) (d : Nat → Nat) (a : Nat) (ha : a + 1 < 6144) (hdb : ∀ j, d j < 256) : KI l y_Disk_pairAt w_Disk_pairAt rm_Disk_pairAt (dC, dI) CL_ [(cI, .int)] sz [.ref h0, .int (nI a)] [(h0, .inr (3, [.ref h1])), (h1, .inl (cI, 6144, .inl (nA d)))] [(h0, .inr (3, [.ref h1])), (h1, .inl (cI, 6144, .inl (nA d)))] (nI (pairN d a)) := by
  refine k_start_i (cc := b_Disk_pairAt) (maxL := 2) (by decide) (Nat.le_of_ble_eq_true rfl) ?_
  intro p e s m args below meth c A QQ ls SS hK hP hD hA hl hN hret
  obtain ⟨hx, hb, hml, hown, hts⟩ := id SS
  have hl : lv_has ls 2 [(0, .ref h0), (1, .int (nI a))] := hl
  have hS : va_S A s.heap s.heap [] := va_S.rf
  refine lv_aload_n hx hb d_Disk_pairAt_0 rfl (lv_at hl 0 rfl) ?_
  refine lv_iload_n hx hb d_Disk_pairAt_1 rfl (lv_at hl 1 rfl) ?_
  refine kj_i (wr := []) (va_runV (As := [.int (nI a)]) (rest := []) SS (c_Disk_byteAt l dC dI cI s.heap.size h0 h1 d a (by omega)) (k_cwV 1 hts u_204 u_205 u_206 u_36 u_207 rfl rfl (by decide +kernel) ⟨Nat.le_of_ble_eq_true rfl, Nat.le_of_ble_eq_true rfl⟩) (kp_V hN hK [0] rfl hP hD [0, 1] rfl (by decide) (ci := 3) rfl 0 rfl) rfl rfl hl.1 rfl (lv_room (Nat.le_of_ble_eq_true rfl)) d_Disk_pairAt_2 ⟨Nat.le_of_ble_eq_true rfl, Nat.le_of_ble_eq_true rfl⟩) hP hD hS hA [0, 1] [] rfl rfl (by decide) (by decide) (fun H locs hP hD hS => ?_)
  have hP : va_P (dC, dI) CL_ [(h0, .inr (3, [.ref h1])), (h1, .inl (cI, 6144, .inl (nA d)))] H := hP
  have hD : va_D A [(h0, .inr (3, [.ref h1])), (h1, .inl (cI, 6144, .inl (nA d)))] := hD
  refine lv_aload_n hx hb d_Disk_pairAt_5 rfl (lv_at hl 0 rfl) ?_
  refine lv_iload_n hx hb d_Disk_pairAt_6 rfl (lv_at hl 1 rfl) ?_
  refine lv_iconst (v := nI 1) hx hb d_Disk_pairAt_7 (by decide) ?_
  refine n_iadd hx hb d_Disk_pairAt_8 ?_
  refine kj_i (wr := []) (va_runV (As := [.int (nI (a + 1))]) (rest := [.int (nI (d a))]) SS (c_Disk_byteAt l dC dI cI H.size h0 h1 d (a + 1) (by omega)) (k_cwV 1 hts u_204 u_205 u_206 u_36 u_207 rfl rfl (by decide +kernel) ⟨Nat.le_of_ble_eq_true rfl, Nat.le_of_ble_eq_true rfl⟩) (kp_V hN hK [0] rfl hP hD [0, 1] rfl (by decide) (ci := 3) rfl 0 rfl) rfl rfl hl.1 rfl (lv_room (Nat.le_of_ble_eq_true rfl)) d_Disk_pairAt_9 ⟨Nat.le_of_ble_eq_true rfl, Nat.le_of_ble_eq_true rfl⟩) hP hD hS hA [0, 1] [] rfl rfl (by decide) (by decide) (fun H locs hP hD hS => ?_)
  have hP : va_P (dC, dI) CL_ [(h0, .inr (3, [.ref h1])), (h1, .inl (cI, 6144, .inl (nA d)))] H := hP
  have hD : va_D A [(h0, .inr (3, [.ref h1])), (h1, .inl (cI, 6144, .inl (nA d)))] := hD
  refine lv_bipush (v := nI 8) hx hb d_Disk_pairAt_12 (by decide) ?_
  refine n_ishl8 hx hb d_Disk_pairAt_14 (by have := hdb (a + 1); omega) ?_
  refine n_ior hx hb d_Disk_pairAt_15 ?_
  exact hret (nI ((d a) ||| ((d (a + 1)) * 256))) _ _ 16 ls d_Disk_pairAt_16 (hP.sub [0, 1] rfl) (hD.sub [0, 1] (by decide) rfl) hS (by rw [or_pair (hdb a)]; rfl)
abbrev rm_Disk_epochOf : Room := { frames := 2, cells := 0, slots := 0, locals := 42 }
set_option maxHeartbeats 4000000 in
set_option maxRecDepth 100000 in
theorem c_Disk_epochOf (l : Launch) (dC : Nat → ClassId) (dI : Nat → Nat → Nat) (cI : ClassId) (sz : Nat) (h0 : Nat) (h1 : Nat) (d : Nat → Nat) (b : Nat) (hb1 : b < 192) (hdb : ∀ j, d j < 256) : KI l y_Disk_epochOf w_Disk_epochOf rm_Disk_epochOf (dC, dI) CL_ [(cI, .int)] sz [.ref h0, .int (nI b)] [(h0, .inr (3, [.ref h1])), (h1, .inl (cI, 6144, .inl (nA d)))] [(h0, .inr (3, [.ref h1])), (h1, .inl (cI, 6144, .inl (nA d)))] (nI (pairN d (b * 32))) := by
  refine k_start_i (cc := b_Disk_epochOf) (maxL := 2) (by decide) (Nat.le_of_ble_eq_true rfl) ?_
  intro p e s m args below meth c A QQ ls SS hK hP hD hA hl hN hret
  obtain ⟨hx, hb, hml, hown, hts⟩ := id SS
  have hl : lv_has ls 2 [(0, .ref h0), (1, .int (nI b))] := hl
  have hS : va_S A s.heap s.heap [] := va_S.rf
  refine lv_aload_n hx hb d_Disk_epochOf_0 rfl (lv_at hl 0 rfl) ?_
  refine lv_iload_n hx hb d_Disk_epochOf_1 rfl (lv_at hl 1 rfl) ?_
  refine lv_bipush (v := nI 32) hx hb d_Disk_epochOf_2 (by decide) ?_
  refine n_imul hx hb d_Disk_epochOf_4 ?_
  refine kj_i (wr := []) (va_runV (As := [.int (nI (b * 32))]) (rest := []) SS (c_Disk_pairAt l dC dI cI s.heap.size h0 h1 d (b * 32) (by omega) hdb) (k_cwV 1 hts u_217 u_219 u_4 u_36 u_220 rfl rfl (by decide +kernel) ⟨Nat.le_of_ble_eq_true rfl, Nat.le_of_ble_eq_true rfl⟩) (kp_V hN hK [0] rfl hP hD [0, 1] rfl (by decide) (ci := 3) rfl 0 rfl) rfl rfl hl.1 rfl (lv_room (Nat.le_of_ble_eq_true rfl)) d_Disk_epochOf_5 ⟨Nat.le_of_ble_eq_true rfl, Nat.le_of_ble_eq_true rfl⟩) hP hD hS hA [0, 1] [] rfl rfl (by decide) (by decide) (fun H locs hP hD hS => ?_)
  have hP : va_P (dC, dI) CL_ [(h0, .inr (3, [.ref h1])), (h1, .inl (cI, 6144, .inl (nA d)))] H := hP
  have hD : va_D A [(h0, .inr (3, [.ref h1])), (h1, .inl (cI, 6144, .inl (nA d)))] := hD
  exact hret (nI (pairN d (b * 32))) _ _ 8 ls d_Disk_epochOf_8 (hP.sub [0, 1] rfl) (hD.sub [0, 1] (by decide) rfl) hS rfl
abbrev rm_Disk_hasItsSum : Room := { frames := 1, cells := 0, slots := 0, locals := 23 }
set_option maxHeartbeats 4000000 in
set_option maxRecDepth 100000 in
theorem c_Disk_hasItsSum (l : Launch) (dC : Nat → ClassId) (dI : Nat → Nat → Nat) (cI : ClassId) (sz : Nat) (h0 : Nat) (h1 : Nat) (d : Nat → Nat) (o : Nat) (ho : o + 32 ≤ 6144) (hdb : ∀ j, d j < 256) : KI l y_Disk_hasItsSum w_Disk_hasItsSum rm_Disk_hasItsSum (dC, dI) CL_ [(cI, .int)] sz [.ref h0, .int (nI o)] [(h0, .inr (3, [.ref h1])), (h1, .inl (cI, 6144, .inl (nA d)))] [(h0, .inr (3, [.ref h1])), (h1, .inl (cI, 6144, .inl (nA d)))] (bI (decide (d (o + 3) = sumN d o))) := by
  refine k_start_z (cc := b_Disk_hasItsSum) (maxL := 2) (by decide) (Nat.le_of_ble_eq_true rfl) ?_
  intro p e s m args below meth c A QQ ls SS hK hP hD hA hl hN hret
  obtain ⟨hx, hb, hml, hown, hts⟩ := id SS
  have hl : lv_has ls 2 [(0, .ref h0), (1, .int (nI o))] := hl
  have hS : va_S A s.heap s.heap [] := va_S.rf
  refine lv_aload_n hx hb d_Disk_hasItsSum_0 rfl (lv_at hl 0 rfl) ?_
  refine lv_iload_n hx hb d_Disk_hasItsSum_1 rfl (lv_at hl 1 rfl) ?_
  refine lv_iconst (v := nI 3) hx hb d_Disk_hasItsSum_2 (by decide) ?_
  refine n_iadd hx hb d_Disk_hasItsSum_3 ?_
  refine kj_i (wr := []) (va_runV (As := [.int (nI (o + 3))]) (rest := []) SS (c_Disk_byteAt l dC dI cI s.heap.size h0 h1 d (o + 3) (by omega)) (k_cwV 1 hts u_204 u_205 u_206 u_36 u_207 rfl rfl (by decide +kernel) ⟨Nat.le_of_ble_eq_true rfl, Nat.le_of_ble_eq_true rfl⟩) (kp_V hN hK [0] rfl hP hD [0, 1] rfl (by decide) (ci := 3) rfl 0 rfl) rfl rfl hl.1 rfl (lv_room (Nat.le_of_ble_eq_true rfl)) d_Disk_hasItsSum_4 ⟨Nat.le_of_ble_eq_true rfl, Nat.le_of_ble_eq_true rfl⟩) hP hD hS hA [0, 1] [] rfl rfl (by decide) (by decide) (fun H locs hP hD hS => ?_)
  have hP : va_P (dC, dI) CL_ [(h0, .inr (3, [.ref h1])), (h1, .inl (cI, 6144, .inl (nA d)))] H := hP
  have hD : va_D A [(h0, .inr (3, [.ref h1])), (h1, .inl (cI, 6144, .inl (nA d)))] := hD
  refine lv_aload_n hx hb d_Disk_hasItsSum_7 rfl (lv_at hl 0 rfl) ?_
  refine va_get (D := (dC, dI)) (ci := 3) (v := .ref h1) (C := R_Disk) (T := F_Disk) (N := 1) hx hb hts in_Disk hown hK hP 0 rfl rfl 0 (by decide) (hts _ u_65) (fun _ h9 => h9) rfl d_Disk_hasItsSum_8 ?_
  refine lv_iload_n hx hb d_Disk_hasItsSum_11 rfl (lv_at hl 1 rfl) ?_
  refine kj_i (wr := [(h0, .inr (3, [.ref h1]))]) (va_runSN (As := [.ref h1, .int (nI o)]) (rest := [.int (nI (d (o + 3)))]) SS (c_sumOf l dC dI cI H.size h1 6144 d o (by omega) (by omega)) (k_cwN 2 hts hN (List.mem_of_getElem? (i := 5) rfl) u_170 u_35 u_171 rfl rfl (by decide +kernel) ⟨Nat.le_of_ble_eq_true rfl, Nat.le_of_ble_eq_true rfl⟩) (kp_S hN hK [0] rfl hP hD [1] rfl (by decide)) rfl rfl hl.1 rfl (lv_room (Nat.le_of_ble_eq_true rfl)) d_Disk_hasItsSum_12 ⟨Nat.le_of_ble_eq_true rfl, Nat.le_of_ble_eq_true rfl⟩) hP hD hS hA [1] [0] rfl rfl (by decide) (by decide) (fun H locs hP hD hS => ?_)
  have hP : va_P (dC, dI) CL_ [(h0, .inr (3, [.ref h1])), (h1, .inl (cI, 6144, .inl (nA d)))] H := hP
  have hD : va_D A [(h0, .inr (3, [.ref h1])), (h1, .inl (cI, 6144, .inl (nA d)))] := hD
  refine n_icmp_ne (tgt := 22) hx hb d_Disk_hasItsSum_15 (by decide) (by have := hdb (o + 3); omega) (by have := sumN_b d o; omega) (fun c_15 => ?_) (fun c_15 => ?_)
  · skip
    refine lv_iconst (v := bI false) hx hb d_Disk_hasItsSum_22 (by decide) ?_
    exact hret false _ _ 23 ls d_Disk_hasItsSum_23 (hP.sub [0, 1] rfl) (hD.sub [0, 1] (by decide) rfl) hS (by first | exact (decide_eq_true (by omega)).symm | exact (decide_eq_false (by omega)).symm)
  · skip
    refine lv_iconst (v := bI true) hx hb d_Disk_hasItsSum_18 (by decide) ?_
    refine lv_goto (tgt := 23) hx hb d_Disk_hasItsSum_19 (by decide) ?_
    exact hret true _ _ 23 ls d_Disk_hasItsSum_23 (hP.sub [0, 1] rfl) (hD.sub [0, 1] (by decide) rfl) hS (by first | exact (decide_eq_true (by omega)).symm | exact (decide_eq_false (by omega)).symm)
abbrev rm_Disk_has : Room := { frames := 0, cells := 0, slots := 0, locals := 0 }
set_option maxHeartbeats 4000000 in
set_option maxRecDepth 100000 in
theorem c_Disk_has (l : Launch) (dC : Nat → ClassId) (dI : Nat → Nat → Nat) (cI : ClassId) (sz : Nat) (h0 : Nat) (h1 : Nat) (d : Nat → Nat) (x : Int32)  : KI l y_Disk_has w_Disk_has rm_Disk_has (dC, dI) CL_ [(cI, .int)] sz [.ref h0, .int x] [(h0, .inr (3, [.ref h1])), (h1, .inl (cI, 6144, .inl (nA d)))] [(h0, .inr (3, [.ref h1])), (h1, .inl (cI, 6144, .inl (nA d)))] (bI (decide (¬ x < 0 ∧ ¬ nI 6144 ≤ x))) := by
  refine k_start_z (cc := b_Disk_has) (maxL := 2) (by decide) (Nat.le_of_ble_eq_true rfl) ?_
  intro p e s m args below meth c A QQ ls SS hK hP hD hA hl hN hret
  obtain ⟨hx, hb, hml, hown, hts⟩ := id SS
  have hl : lv_has ls 2 [(0, .ref h0), (1, .int x)] := hl
  have hS : va_S A s.heap s.heap [] := va_S.rf
  refine lv_iload_n hx hb d_Disk_has_0 rfl (lv_at hl 1 rfl) ?_
  refine lv_if_lt (tgt := 15) hx hb d_Disk_has_1 (by decide) (fun c_1 => ?_) (fun c_1 => ?_)
  · skip
    refine lv_iconst (v := bI false) hx hb d_Disk_has_15 (by decide) ?_
    exact hret false _ _ 16 ls d_Disk_has_16 (hP.sub [0, 1] rfl) (hD.sub [0, 1] (by decide) rfl) hS (by symm; first | (apply decide_eq_true; exact ⟨c_1, c_8⟩) | (apply decide_eq_false; intro q; exact q.2 c_8) | (apply decide_eq_false; intro q; exact q.1 c_1))
  · skip
    refine lv_iload_n hx hb d_Disk_has_4 rfl (lv_at hl 1 rfl) ?_
    refine lv_sipush (v := nI 6144) hx hb d_Disk_has_5 (by decide) ?_
    refine lv_icmp_ge (tgt := 15) hx hb d_Disk_has_8 (by decide) (fun c_8 => ?_) (fun c_8 => ?_)
    · skip
      refine lv_iconst (v := bI false) hx hb d_Disk_has_15 (by decide) ?_
      exact hret false _ _ 16 ls d_Disk_has_16 (hP.sub [0, 1] rfl) (hD.sub [0, 1] (by decide) rfl) hS (by symm; first | (apply decide_eq_true; exact ⟨c_1, c_8⟩) | (apply decide_eq_false; intro q; exact q.2 c_8) | (apply decide_eq_false; intro q; exact q.1 c_1))
    · skip
      refine lv_iconst (v := bI true) hx hb d_Disk_has_11 (by decide) ?_
      refine lv_goto (tgt := 16) hx hb d_Disk_has_12 (by decide) ?_
      exact hret true _ _ 16 ls d_Disk_has_16 (hP.sub [0, 1] rfl) (hD.sub [0, 1] (by decide) rfl) hS (by symm; first | (apply decide_eq_true; exact ⟨c_1, c_8⟩) | (apply decide_eq_false; intro q; exact q.2 c_8) | (apply decide_eq_false; intro q; exact q.1 c_1))
abbrev rm_Disk_overwrite : Room := { frames := 1, cells := 0, slots := 0, locals := 22 }
set_option maxHeartbeats 4000000 in
set_option maxRecDepth 100000 in
theorem c_Disk_overwrite (l : Launch) (dC : Nat → ClassId) (dI : Nat → Nat → Nat) (cI : ClassId) (sz : Nat) (h0 : Nat) (h1 : Nat) (d : Nat → Nat) (g0 : Nat) (g1 : Nat) (gd : Nat → Nat) (b : Nat) (by_ : Nat) (hb1 : b < 192) (hby : by_ ≤ 32) (hgb : ∀ j, gd j < 256) : KV l y_Disk_overwrite w_Disk_overwrite rm_Disk_overwrite (dC, dI) CL_ [(cI, .int)] sz [.ref h0, .int (nI b), .ref g0, .int (nI by_)] [(h0, .inr (3, [.ref h1])), (h1, .inl (cI, 6144, .inl (nA d))), (g0, .inr (2, [.ref g1])), (g1, .inl (cI, 32, .inl (nA gd)))] [(h0, .inr (3, [.ref h1])), (h1, .inl (cI, 6144, .inl (nA (fillN d (b * 32) gd by_)))), (g0, .inr (2, [.ref g1])), (g1, .inl (cI, 32, .inl (nA gd)))] := by
  refine k_start_v (cc := b_Disk_overwrite) (maxL := 5) (by decide) (Nat.le_of_ble_eq_true rfl) ?_
  intro p e s m args below meth c A QQ ls SS hK hP hD hA hl hN hret
  obtain ⟨hx, hb, hml, hown, hts⟩ := id SS
  have hl : lv_has ls 5 [(0, .ref h0), (1, .int (nI b)), (2, .ref g0), (3, .int (nI by_))] := hl
  have hS : va_S A s.heap s.heap [] := va_S.rf
  refine lv_iconst (v := nI 0) hx hb d_Disk_overwrite_0 (by decide) ?_
  refine lv_istore (lv' := [(4, .int (nI 0)), (0, .ref h0), (1, .int (nI b)), (2, .ref g0), (3, .int (nI by_))]) hx hb d_Disk_overwrite_1 hl (by decide) rfl (fun ls hl => ?_)
  have loop_3 : ∀ (n_ : Nat) (i : Nat), (i ≤ by_) → (by_ + 1 ≤ i + n_) → ∀ (H : Heap) (locs : List Loc) (ls : Array Slot), va_P (dC, dI) CL_ [(h0, .inr (3, [.ref h1])), (h1, .inl (cI, 6144, .inl (nA (fillN d (b * 32) gd i)))), (g0, .inr (2, [.ref g1])), (g1, .inl (cI, 32, .inl (nA gd)))] H → va_D A [(h0, .inr (3, [.ref h1])), (h1, .inl (cI, 6144, .inl (nA (fillN d (b * 32) gd i)))), (g0, .inr (2, [.ref g1])), (g1, .inl (cI, 32, .inl (nA gd)))] → va_S A s.heap H locs → lv_has ls 5 [(0, .ref h0), (1, .int (nI b)), (2, .ref g0), (3, .int (nI by_)), (4, .int (nI i))] → W p l e rm_Disk_overwrite s m args below meth c H locs 0 0 QQ (F0 m 3 ls []) := by
    intro n_
    induction n_ with
    | zero =>
      intro i hi hf
      exact absurd hf (by omega)
    | succ n_ ih =>
      intro i hi hf H locs ls hP hD hS hl
      refine lv_iload hx hb d_Disk_overwrite_3 (lv_at hl 4 rfl) ?_
      refine lv_iload_n hx hb d_Disk_overwrite_5 rfl (lv_at hl 3 rfl) ?_
      refine n_icmp_ge (tgt := 39) hx hb d_Disk_overwrite_6 (by decide) (by omega) (by omega) (fun c_6 => ?_) (fun c_6 => ?_)
      · skip
        have hq : i = by_ := by omega
        rw [hq] at hP hD
        exact hret _ _ 39 ls d_Disk_overwrite_39 (hP.sub [0, 1, 2, 3] rfl) (hD.sub [0, 1, 2, 3] (by decide) rfl) hS
      · skip
        refine lv_iload hx hb d_Disk_overwrite_9 (lv_at hl 4 rfl) ?_
        refine lv_bipush (v := nI 32) hx hb d_Disk_overwrite_11 (by decide) ?_
        refine n_icmp_ge (tgt := 39) hx hb d_Disk_overwrite_13 (by decide) (by omega) (by omega) (fun c_13 => ?_) (fun c_13 => ?_)
        · exact absurd c_13 (by omega)
        · skip
          refine lv_aload_n hx hb d_Disk_overwrite_16 rfl (lv_at hl 0 rfl) ?_
          refine lv_iload_n hx hb d_Disk_overwrite_17 rfl (lv_at hl 1 rfl) ?_
          refine lv_bipush (v := nI 32) hx hb d_Disk_overwrite_18 (by decide) ?_
          refine n_imul hx hb d_Disk_overwrite_20 ?_
          refine lv_iload hx hb d_Disk_overwrite_21 (lv_at hl 4 rfl) ?_
          refine n_iadd hx hb d_Disk_overwrite_23 ?_
          refine lv_aload_n hx hb d_Disk_overwrite_24 rfl (lv_at hl 2 rfl) ?_
          refine lv_iload hx hb d_Disk_overwrite_25 (lv_at hl 4 rfl) ?_
          refine kj_i (wr := [(h0, .inr (3, [.ref h1])), (h1, .inl (cI, 6144, .inl (nA (fillN d (b * 32) gd i))))]) (va_runV (As := [.int (nI i)]) (rest := [.int (nI ((b * 32) + i)), .ref h0]) SS (c_Block_at l dC dI cI H.size g0 g1 gd i (by omega)) (k_cwV 1 hts u_176 u_177 u_178 u_41 u_179 rfl rfl (by decide +kernel) ⟨Nat.le_of_ble_eq_true rfl, Nat.le_of_ble_eq_true rfl⟩) (kp_V hN hK [0] rfl hP hD [2, 3] rfl (by decide) (ci := 2) rfl 0 rfl) rfl rfl hl.1 rfl (lv_room (Nat.le_of_ble_eq_true rfl)) d_Disk_overwrite_27 ⟨Nat.le_of_ble_eq_true rfl, Nat.le_of_ble_eq_true rfl⟩) hP hD hS hA [2, 3] [0, 1] rfl rfl (by decide) (by decide) (fun H locs hP hD hS => ?_)
          have hP : va_P (dC, dI) CL_ [(h0, .inr (3, [.ref h1])), (h1, .inl (cI, 6144, .inl (nA (fillN d (b * 32) gd i)))), (g0, .inr (2, [.ref g1])), (g1, .inl (cI, 32, .inl (nA gd)))] H := hP
          have hD : va_D A [(h0, .inr (3, [.ref h1])), (h1, .inl (cI, 6144, .inl (nA (fillN d (b * 32) gd i)))), (g0, .inr (2, [.ref g1])), (g1, .inl (cI, 32, .inl (nA gd)))] := hD
          refine kj_v (wr := [(g0, .inr (2, [.ref g1])), (g1, .inl (cI, 32, .inl (nA gd)))]) (va_runV (As := [.int (nI ((b * 32) + i)), .int (nI (gd i))]) (rest := []) SS (c_Disk_change l dC dI cI H.size h0 h1 (fillN d (b * 32) gd i) ((b * 32) + i) (gd i) (by omega) (hgb i)) (k_cwV 2 hts u_180 u_181 u_182 u_36 u_183 rfl rfl (by decide +kernel) ⟨Nat.le_of_ble_eq_true rfl, Nat.le_of_ble_eq_true rfl⟩) (kp_V hN hK [0] rfl hP hD [0, 1] rfl (by decide) (ci := 3) rfl 0 rfl) rfl rfl hl.1 rfl (lv_room (Nat.le_of_ble_eq_true rfl)) d_Disk_overwrite_30 ⟨Nat.le_of_ble_eq_true rfl, Nat.le_of_ble_eq_true rfl⟩) hP hD hS hA [0, 1] [2, 3] rfl rfl (by decide) (by decide) (fun H locs hP hD hS => ?_)
          have hP : va_P (dC, dI) CL_ [(g0, .inr (2, [.ref g1])), (g1, .inl (cI, 32, .inl (nA gd))), (h0, .inr (3, [.ref h1])), (h1, .inl (cI, 6144, .inl (nA (updN (fillN d (b * 32) gd i) ((b * 32) + i) (gd i)))))] H := hP
          have hD : va_D A [(g0, .inr (2, [.ref g1])), (g1, .inl (cI, 32, .inl (nA gd))), (h0, .inr (3, [.ref h1])), (h1, .inl (cI, 6144, .inl (nA (updN (fillN d (b * 32) gd i) ((b * 32) + i) (gd i)))))] := hD
          refine lv_iinc (v := nI (i + 1)) (lv' := [(4, .int (nI (i + 1))), (0, .ref h0), (1, .int (nI b)), (2, .ref g0), (3, .int (nI by_))]) hx hb d_Disk_overwrite_33 hl (k := 4) rfl (inc1 i) (by decide) rfl (fun ls hl => ?_)
          refine lv_goto (tgt := 3) hx hb d_Disk_overwrite_36 (by decide) ?_
          rw [fillN_s d (b * 32) gd i] at hP hD
          exact ih (i + 1) (by omega) (by omega) _ _ _ (hP.sub [2, 3, 0, 1] rfl) (hD.sub [2, 3, 0, 1] (by decide) rfl) hS (lv_sub hl [1, 2, 3, 4, 0] rfl)
  rw [← fillN_0 d (b * 32) gd] at hP hD
  exact loop_3 (by_ + 1) 0 (by omega) (by omega) _ _ _ (hP.sub [0, 1, 2, 3] rfl) (hD.sub [0, 1, 2, 3] (by decide) rfl) hS (lv_sub hl [1, 2, 3, 4, 0] rfl)
abbrev rm_Disk_isAs : Room := { frames := 1, cells := 0, slots := 0, locals := 21 }
set_option maxHeartbeats 4000000 in
set_option maxRecDepth 100000 in
theorem c_Disk_isAs (l : Launch) (dC : Nat → ClassId) (dI : Nat → Nat → Nat) (cI : ClassId) (sz : Nat) (h0 : Nat) (h1 : Nat) (d : Nat → Nat) (g0 : Nat) (g1 : Nat) (gd : Nat → Nat) (b : Nat) (hb1 : b < 192) (hdb : ∀ j, d j < 256) (hgb : ∀ j, gd j < 256) : KI l y_Disk_isAs w_Disk_isAs rm_Disk_isAs (dC, dI) CL_ [(cI, .int)] sz [.ref h0, .int (nI b), .ref g0] [(h0, .inr (3, [.ref h1])), (h1, .inl (cI, 6144, .inl (nA d))), (g0, .inr (2, [.ref g1])), (g1, .inl (cI, 32, .inl (nA gd)))] [(h0, .inr (3, [.ref h1])), (h1, .inl (cI, 6144, .inl (nA d))), (g0, .inr (2, [.ref g1])), (g1, .inl (cI, 32, .inl (nA gd)))] (bI (isAsN d (b * 32) gd)) := by
  refine k_start_z (cc := b_Disk_isAs) (maxL := 4) (by decide) (Nat.le_of_ble_eq_true rfl) ?_
  intro p e s m args below meth c A QQ ls SS hK hP hD hA hl hN hret
  obtain ⟨hx, hb, hml, hown, hts⟩ := id SS
  have hl : lv_has ls 4 [(0, .ref h0), (1, .int (nI b)), (2, .ref g0)] := hl
  have hS : va_S A s.heap s.heap [] := va_S.rf
  refine lv_iconst (v := nI 0) hx hb d_Disk_isAs_0 (by decide) ?_
  refine lv_istore_n (lv' := [(3, .int (nI 0)), (0, .ref h0), (1, .int (nI b)), (2, .ref g0)]) hx hb d_Disk_isAs_1 rfl hl (by decide) rfl (fun ls hl => ?_)
  have loop_2 : ∀ (n_ : Nat) (i : Nat), (i ≤ 32) → (33 ≤ i + n_) → (∀ j, j < i → d (b * 32 + j) = gd j) → ∀ (H : Heap) (locs : List Loc) (ls : Array Slot), va_P (dC, dI) CL_ [(h0, .inr (3, [.ref h1])), (h1, .inl (cI, 6144, .inl (nA d))), (g0, .inr (2, [.ref g1])), (g1, .inl (cI, 32, .inl (nA gd)))] H → va_D A [(h0, .inr (3, [.ref h1])), (h1, .inl (cI, 6144, .inl (nA d))), (g0, .inr (2, [.ref g1])), (g1, .inl (cI, 32, .inl (nA gd)))] → va_S A s.heap H locs → lv_has ls 4 [(0, .ref h0), (1, .int (nI b)), (2, .ref g0), (3, .int (nI i))] → W p l e rm_Disk_isAs s m args below meth c H locs 0 0 QQ (F0 m 2 ls []) := by
    intro n_
    induction n_ with
    | zero =>
      intro i hi hf hall
      exact absurd hf (by omega)
    | succ n_ ih =>
      intro i hi hf hall H locs ls hP hD hS hl
      refine lv_iload_n hx hb d_Disk_isAs_2 rfl (lv_at hl 3 rfl) ?_
      refine lv_bipush (v := nI 32) hx hb d_Disk_isAs_3 (by decide) ?_
      refine n_icmp_ge (tgt := 34) hx hb d_Disk_isAs_5 (by decide) (by omega) (by omega) (fun c_5 => ?_) (fun c_5 => ?_)
      · skip
        refine lv_iconst (v := bI true) hx hb d_Disk_isAs_34 (by decide) ?_
        exact hret true _ _ 35 ls d_Disk_isAs_35 (hP.sub [0, 1, 2, 3] rfl) (hD.sub [0, 1, 2, 3] (by decide) rfl) hS ((cD_t (fun j hj => hall j (by omega))).symm)
      · skip
        refine lv_aload_n hx hb d_Disk_isAs_8 rfl (lv_at hl 0 rfl) ?_
        refine lv_iload_n hx hb d_Disk_isAs_9 rfl (lv_at hl 1 rfl) ?_
        refine lv_bipush (v := nI 32) hx hb d_Disk_isAs_10 (by decide) ?_
        refine n_imul hx hb d_Disk_isAs_12 ?_
        refine lv_iload_n hx hb d_Disk_isAs_13 rfl (lv_at hl 3 rfl) ?_
        refine n_iadd hx hb d_Disk_isAs_14 ?_
        refine kj_i (wr := [(g0, .inr (2, [.ref g1])), (g1, .inl (cI, 32, .inl (nA gd)))]) (va_runV (As := [.int (nI ((b * 32) + i))]) (rest := []) SS (c_Disk_byteAt l dC dI cI H.size h0 h1 d ((b * 32) + i) (by omega)) (k_cwV 1 hts u_204 u_205 u_206 u_36 u_207 rfl rfl (by decide +kernel) ⟨Nat.le_of_ble_eq_true rfl, Nat.le_of_ble_eq_true rfl⟩) (kp_V hN hK [0] rfl hP hD [0, 1] rfl (by decide) (ci := 3) rfl 0 rfl) rfl rfl hl.1 rfl (lv_room (Nat.le_of_ble_eq_true rfl)) d_Disk_isAs_15 ⟨Nat.le_of_ble_eq_true rfl, Nat.le_of_ble_eq_true rfl⟩) hP hD hS hA [0, 1] [2, 3] rfl rfl (by decide) (by decide) (fun H locs hP hD hS => ?_)
        have hP : va_P (dC, dI) CL_ [(g0, .inr (2, [.ref g1])), (g1, .inl (cI, 32, .inl (nA gd))), (h0, .inr (3, [.ref h1])), (h1, .inl (cI, 6144, .inl (nA d)))] H := hP
        have hD : va_D A [(g0, .inr (2, [.ref g1])), (g1, .inl (cI, 32, .inl (nA gd))), (h0, .inr (3, [.ref h1])), (h1, .inl (cI, 6144, .inl (nA d)))] := hD
        refine lv_aload_n hx hb d_Disk_isAs_18 rfl (lv_at hl 2 rfl) ?_
        refine lv_iload_n hx hb d_Disk_isAs_19 rfl (lv_at hl 3 rfl) ?_
        refine kj_i (wr := [(h0, .inr (3, [.ref h1])), (h1, .inl (cI, 6144, .inl (nA d)))]) (va_runV (As := [.int (nI i)]) (rest := [.int (nI (d ((b * 32) + i)))]) SS (c_Block_at l dC dI cI H.size g0 g1 gd i (by omega)) (k_cwV 1 hts u_176 u_177 u_178 u_41 u_179 rfl rfl (by decide +kernel) ⟨Nat.le_of_ble_eq_true rfl, Nat.le_of_ble_eq_true rfl⟩) (kp_V hN hK [0] rfl hP hD [0, 1] rfl (by decide) (ci := 2) rfl 0 rfl) rfl rfl hl.1 rfl (lv_room (Nat.le_of_ble_eq_true rfl)) d_Disk_isAs_20 ⟨Nat.le_of_ble_eq_true rfl, Nat.le_of_ble_eq_true rfl⟩) hP hD hS hA [0, 1] [2, 3] rfl rfl (by decide) (by decide) (fun H locs hP hD hS => ?_)
        have hP : va_P (dC, dI) CL_ [(h0, .inr (3, [.ref h1])), (h1, .inl (cI, 6144, .inl (nA d))), (g0, .inr (2, [.ref g1])), (g1, .inl (cI, 32, .inl (nA gd)))] H := hP
        have hD : va_D A [(h0, .inr (3, [.ref h1])), (h1, .inl (cI, 6144, .inl (nA d))), (g0, .inr (2, [.ref g1])), (g1, .inl (cI, 32, .inl (nA gd)))] := hD
        refine n_icmp_eq (tgt := 28) hx hb d_Disk_isAs_23 (by decide) (by have := hdb (b * 32 + i); omega) (by have := hgb i; omega) (fun c_23 => ?_) (fun c_23 => ?_)
        · skip
          refine lv_iinc (v := nI (i + 1)) (lv' := [(3, .int (nI (i + 1))), (0, .ref h0), (1, .int (nI b)), (2, .ref g0)]) hx hb d_Disk_isAs_28 hl (k := 3) rfl (inc1 i) (by decide) rfl (fun ls hl => ?_)
          refine lv_goto (tgt := 2) hx hb d_Disk_isAs_31 (by decide) ?_
          exact ih (i + 1) (by omega) (by omega) (lt_s hall c_23) _ _ _ (hP.sub [0, 1, 2, 3] rfl) (hD.sub [0, 1, 2, 3] (by decide) rfl) hS (lv_sub hl [1, 2, 3, 0] rfl)
        · skip
          refine lv_iconst (v := bI false) hx hb d_Disk_isAs_26 (by decide) ?_
          exact hret false _ _ 27 ls d_Disk_isAs_27 (hP.sub [0, 1, 2, 3] rfl) (hD.sub [0, 1, 2, 3] (by decide) rfl) hS ((cD_f (fun q => c_23 (q i (by omega)))).symm)
  exact loop_2 33 0 (by omega) (by omega) (fun j hj => absurd hj (Nat.not_lt_zero j)) _ _ _ (hP.sub [0, 1, 2, 3] rfl) (hD.sub [0, 1, 2, 3] (by decide) rfl) hS (lv_sub hl [1, 2, 3, 0] rfl)
abbrev rm_Disk_greatestEpoch : Room := { frames := 3, cells := 0, slots := 0, locals := 63 }
set_option maxHeartbeats 4000000 in
set_option maxRecDepth 100000 in
theorem c_Disk_greatestEpoch (l : Launch) (dC : Nat → ClassId) (dI : Nat → Nat → Nat) (cI : ClassId) (sz : Nat) (h0 : Nat) (h1 : Nat) (d : Nat → Nat) (h : Nat) (hh : h ≤ 1) (hdb : ∀ j, d j < 256) : KI l y_Disk_greatestEpoch w_Disk_greatestEpoch rm_Disk_greatestEpoch (dC, dI) CL_ [(cI, .int)] sz [.ref h0, .int (nI h)] [(h0, .inr (3, [.ref h1])), (h1, .inl (cI, 6144, .inl (nA d)))] [(h0, .inr (3, [.ref h1])), (h1, .inl (cI, 6144, .inl (nA d)))] (nI (gEp d (h * 96) 96)) := by
  refine k_start_i (cc := b_Disk_greatestEpoch) (maxL := 4) (by decide) (Nat.le_of_ble_eq_true rfl) ?_
  intro p e s m args below meth c A QQ ls SS hK hP hD hA hl hN hret
  obtain ⟨hx, hb, hml, hown, hts⟩ := id SS
  have hl : lv_has ls 4 [(0, .ref h0), (1, .int (nI h))] := hl
  have hS : va_S A s.heap s.heap [] := va_S.rf
  refine lv_iconst (v := nI 0) hx hb d_Disk_greatestEpoch_0 (by decide) ?_
  refine lv_istore_n (lv' := [(2, .int (nI 0)), (0, .ref h0), (1, .int (nI h))]) hx hb d_Disk_greatestEpoch_1 rfl hl (by decide) rfl (fun ls hl => ?_)
  refine lv_iconst (v := nI 0) hx hb d_Disk_greatestEpoch_2 (by decide) ?_
  refine lv_istore_n (lv' := [(3, .int (nI 0)), (2, .int (nI 0)), (0, .ref h0), (1, .int (nI h))]) hx hb d_Disk_greatestEpoch_3 rfl hl (by decide) rfl (fun ls hl => ?_)
  have loop_4 : ∀ (n_ : Nat) (k : Nat), (k ≤ 96) → (97 ≤ k + n_) → ∀ (H : Heap) (locs : List Loc) (ls : Array Slot), va_P (dC, dI) CL_ [(h0, .inr (3, [.ref h1])), (h1, .inl (cI, 6144, .inl (nA d)))] H → va_D A [(h0, .inr (3, [.ref h1])), (h1, .inl (cI, 6144, .inl (nA d)))] → va_S A s.heap H locs → lv_has ls 4 [(0, .ref h0), (1, .int (nI h)), (2, .int (nI (gEp d (h * 96) k))), (3, .int (nI k))] → W p l e rm_Disk_greatestEpoch s m args below meth c H locs 0 0 QQ (F0 m 4 ls []) := by
    intro n_
    induction n_ with
    | zero =>
      intro k hk hf
      exact absurd hf (by omega)
    | succ n_ ih =>
      intro k hk hf H locs ls hP hD hS hl
      refine lv_iload_n hx hb d_Disk_greatestEpoch_4 rfl (lv_at hl 3 rfl) ?_
      refine lv_bipush (v := nI 96) hx hb d_Disk_greatestEpoch_5 (by decide) ?_
      refine n_icmp_ge (tgt := 31) hx hb d_Disk_greatestEpoch_7 (by decide) (by omega) (by omega) (fun c_7 => ?_) (fun c_7 => ?_)
      · skip
        have hq : k = 96 := by omega
        refine lv_iload_n hx hb d_Disk_greatestEpoch_31 rfl (lv_at hl 2 rfl) ?_
        exact hret (nI (gEp d (h * 96) k)) _ _ 32 ls d_Disk_greatestEpoch_32 (hP.sub [0, 1] rfl) (hD.sub [0, 1] (by decide) rfl) hS (by rw [hq])
      · skip
        refine lv_iload_n hx hb d_Disk_greatestEpoch_10 rfl (lv_at hl 2 rfl) ?_
        refine lv_aload_n hx hb d_Disk_greatestEpoch_11 rfl (lv_at hl 0 rfl) ?_
        refine lv_iload_n hx hb d_Disk_greatestEpoch_12 rfl (lv_at hl 1 rfl) ?_
        refine lv_bipush (v := nI 96) hx hb d_Disk_greatestEpoch_13 (by decide) ?_
        refine n_imul hx hb d_Disk_greatestEpoch_15 ?_
        refine lv_iload_n hx hb d_Disk_greatestEpoch_16 rfl (lv_at hl 3 rfl) ?_
        refine n_iadd hx hb d_Disk_greatestEpoch_17 ?_
        refine kj_i (wr := []) (va_runV (As := [.int (nI ((h * 96) + k))]) (rest := [.int (nI (gEp d (h * 96) k))]) SS (c_Disk_epochOf l dC dI cI H.size h0 h1 d ((h * 96) + k) (by omega) hdb) (k_cwV 1 hts u_479 u_214 u_215 u_36 u_216 rfl rfl (by decide +kernel) ⟨Nat.le_of_ble_eq_true rfl, Nat.le_of_ble_eq_true rfl⟩) (kp_V hN hK [0] rfl hP hD [0, 1] rfl (by decide) (ci := 3) rfl 0 rfl) rfl rfl hl.1 rfl (lv_room (Nat.le_of_ble_eq_true rfl)) d_Disk_greatestEpoch_18 ⟨Nat.le_of_ble_eq_true rfl, Nat.le_of_ble_eq_true rfl⟩) hP hD hS hA [0, 1] [] rfl rfl (by decide) (by decide) (fun H locs hP hD hS => ?_)
        have hP : va_P (dC, dI) CL_ [(h0, .inr (3, [.ref h1])), (h1, .inl (cI, 6144, .inl (nA d)))] H := hP
        have hD : va_D A [(h0, .inr (3, [.ref h1])), (h1, .inl (cI, 6144, .inl (nA d)))] := hD
        refine va_mmax hx hb (by rw [hml]; exact hl.1.symm) hown (hts _ u_480) (hts _ u_83) (hts _ u_39) (hts _ u_84) (Nat.le_of_ble_eq_true rfl) (Nat.le_of_ble_eq_true rfl) (Nat.zero_le _) (Nat.zero_le _) d_Disk_greatestEpoch_21 ?_
        refine top_i (nI (max (gEp d (h * 96) k) (pairN d ((h * 96 + k) * 32)))) (by exact max_nI (Nat.lt_trans (gEp_b hdb _ _) (by decide)) (Nat.lt_trans (pairN_b hdb _) (by decide))) ?_
        refine lv_istore_n (lv' := [(2, .int (nI (max (gEp d (h * 96) k) (pairN d ((h * 96 + k) * 32))))), (0, .ref h0), (1, .int (nI h)), (3, .int (nI k))]) hx hb d_Disk_greatestEpoch_24 rfl hl (by decide) rfl (fun ls hl => ?_)
        refine lv_iinc (v := nI (k + 1)) (lv' := [(3, .int (nI (k + 1))), (2, .int (nI (max (gEp d (h * 96) k) (pairN d ((h * 96 + k) * 32))))), (0, .ref h0), (1, .int (nI h))]) hx hb d_Disk_greatestEpoch_25 hl (k := 3) rfl (inc1 k) (by decide) rfl (fun ls hl => ?_)
        refine lv_goto (tgt := 4) hx hb d_Disk_greatestEpoch_28 (by decide) ?_
        exact ih (k + 1) (by omega) (by omega) _ _ _ (hP.sub [0, 1] rfl) (hD.sub [0, 1] (by decide) rfl) hS (lv_sub hl [2, 3, 1, 0] rfl)
  exact loop_4 97 0 (by omega) (by omega) _ _ _ (hP.sub [0, 1] rfl) (hD.sub [0, 1] (by decide) rfl) hS (lv_sub hl [2, 3, 1, 0] rfl)
abbrev rm_Disk_isHead : Room := { frames := 2, cells := 0, slots := 0, locals := 44 }
set_option maxHeartbeats 4000000 in
set_option maxRecDepth 100000 in
theorem c_Disk_isHead (l : Launch) (dC : Nat → ClassId) (dI : Nat → Nat → Nat) (cI : ClassId) (sz : Nat) (h0 : Nat) (h1 : Nat) (d : Nat → Nat) (b : Nat) (hb1 : b < 192) (hdb : ∀ j, d j < 256) : KI l y_Disk_isHead w_Disk_isHead rm_Disk_isHead (dC, dI) CL_ [(cI, .int)] sz [.ref h0, .int (nI b)] [(h0, .inr (3, [.ref h1])), (h1, .inl (cI, 6144, .inl (nA d)))] [(h0, .inr (3, [.ref h1])), (h1, .inl (cI, 6144, .inl (nA d)))] (bI (isHeadN d (b * 32))) := by
  refine k_start_z (cc := b_Disk_isHead) (maxL := 4) (by decide) (Nat.le_of_ble_eq_true rfl) ?_
  intro p e s m args below meth c A QQ ls SS hK hP hD hA hl hN hret
  obtain ⟨hx, hb, hml, hown, hts⟩ := id SS
  have hl : lv_has ls 4 [(0, .ref h0), (1, .int (nI b))] := hl
  have hS : va_S A s.heap s.heap [] := va_S.rf
  refine lv_iload_n hx hb d_Disk_isHead_0 rfl (lv_at hl 1 rfl) ?_
  refine lv_bipush (v := nI 32) hx hb d_Disk_isHead_1 (by decide) ?_
  refine n_imul hx hb d_Disk_isHead_3 ?_
  refine lv_istore_n (lv' := [(2, .int (nI (b * 32))), (0, .ref h0), (1, .int (nI b))]) hx hb d_Disk_isHead_4 rfl hl (by decide) rfl (fun ls hl => ?_)
  refine lv_iconst (v := nI 4) hx hb d_Disk_isHead_5 (by decide) ?_
  refine lv_istore_n (lv' := [(3, .int (nI 4)), (2, .int (nI (b * 32))), (0, .ref h0), (1, .int (nI b))]) hx hb d_Disk_isHead_6 rfl hl (by decide) rfl (fun ls hl => ?_)
  have loop_7 : ∀ (n_ : Nat) (i : Nat), (4 ≤ i) → (i ≤ 32) → (33 ≤ i + n_) → (∀ j, j < i → 4 ≤ j → d (b * 32 + j) = 0) → ∀ (H : Heap) (locs : List Loc) (ls : Array Slot), va_P (dC, dI) CL_ [(h0, .inr (3, [.ref h1])), (h1, .inl (cI, 6144, .inl (nA d)))] H → va_D A [(h0, .inr (3, [.ref h1])), (h1, .inl (cI, 6144, .inl (nA d)))] → va_S A s.heap H locs → lv_has ls 4 [(0, .ref h0), (1, .int (nI b)), (2, .int (nI (b * 32))), (3, .int (nI i))] → W p l e rm_Disk_isHead s m args below meth c H locs 0 0 QQ (F0 m 7 ls []) := by
    intro n_
    induction n_ with
    | zero =>
      intro i h4 hi hf hall
      exact absurd hf (by omega)
    | succ n_ ih =>
      intro i h4 hi hf hall H locs ls hP hD hS hl
      refine lv_iload_n hx hb d_Disk_isHead_7 rfl (lv_at hl 3 rfl) ?_
      refine lv_bipush (v := nI 32) hx hb d_Disk_isHead_8 (by decide) ?_
      refine n_icmp_ge (tgt := 31) hx hb d_Disk_isHead_10 (by decide) (by omega) (by omega) (fun c_10 => ?_) (fun c_10 => ?_)
      · skip
        refine lv_aload_n hx hb d_Disk_isHead_31 rfl (lv_at hl 0 rfl) ?_
        refine lv_iload_n hx hb d_Disk_isHead_32 rfl (lv_at hl 2 rfl) ?_
        refine lv_iconst (v := nI 2) hx hb d_Disk_isHead_33 (by decide) ?_
        refine n_iadd hx hb d_Disk_isHead_34 ?_
        refine kj_i (wr := []) (va_runV (As := [.int (nI ((b * 32) + 2))]) (rest := []) SS (c_Disk_byteAt l dC dI cI H.size h0 h1 d ((b * 32) + 2) (by omega)) (k_cwV 1 hts u_204 u_205 u_206 u_36 u_207 rfl rfl (by decide +kernel) ⟨Nat.le_of_ble_eq_true rfl, Nat.le_of_ble_eq_true rfl⟩) (kp_V hN hK [0] rfl hP hD [0, 1] rfl (by decide) (ci := 3) rfl 0 rfl) rfl rfl hl.1 rfl (lv_room (Nat.le_of_ble_eq_true rfl)) d_Disk_isHead_35 ⟨Nat.le_of_ble_eq_true rfl, Nat.le_of_ble_eq_true rfl⟩) hP hD hS hA [0, 1] [] rfl rfl (by decide) (by decide) (fun H locs hP hD hS => ?_)
        have hP : va_P (dC, dI) CL_ [(h0, .inr (3, [.ref h1])), (h1, .inl (cI, 6144, .inl (nA d)))] H := hP
        have hD : va_D A [(h0, .inr (3, [.ref h1])), (h1, .inl (cI, 6144, .inl (nA d)))] := hD
        refine lv_bipush (v := nI 72) hx hb d_Disk_isHead_38 (by decide) ?_
        refine n_icmp_ne (tgt := 55) hx hb d_Disk_isHead_40 (by decide) (by have := hdb (b * 32 + 2); omega) (by omega) (fun c_40 => ?_) (fun c_40 => ?_)
        · skip
          refine lv_iconst (v := bI false) hx hb d_Disk_isHead_55 (by decide) ?_
          exact hret false _ _ 56 ls d_Disk_isHead_56 (hP.sub [0, 1] rfl) (hD.sub [0, 1] (by decide) rfl) hS (by first | exact (cD_t ⟨fun j hj h2 => hall j (by omega) h2, c_40, of_decide_eq_true c_48⟩).symm | exact (cD_f (fun q => c_40 q.2.1)).symm | exact (cD_f (fun q => of_decide_eq_false c_48 q.2.2)).symm)
        · skip
          refine lv_aload_n hx hb d_Disk_isHead_43 rfl (lv_at hl 0 rfl) ?_
          refine lv_iload_n hx hb d_Disk_isHead_44 rfl (lv_at hl 2 rfl) ?_
          refine kj_i (wr := []) (va_runV (As := [.int (nI (b * 32))]) (rest := []) SS (c_Disk_hasItsSum l dC dI cI H.size h0 h1 d (b * 32) (by omega) hdb) (k_cwV 1 hts u_208 u_210 u_3 u_36 u_211 rfl rfl (by decide +kernel) ⟨Nat.le_of_ble_eq_true rfl, Nat.le_of_ble_eq_true rfl⟩) (kp_V hN hK [0] rfl hP hD [0, 1] rfl (by decide) (ci := 3) rfl 0 rfl) rfl rfl hl.1 rfl (lv_room (Nat.le_of_ble_eq_true rfl)) d_Disk_isHead_45 ⟨Nat.le_of_ble_eq_true rfl, Nat.le_of_ble_eq_true rfl⟩) hP hD hS hA [0, 1] [] rfl rfl (by decide) (by decide) (fun H locs hP hD hS => ?_)
          have hP : va_P (dC, dI) CL_ [(h0, .inr (3, [.ref h1])), (h1, .inl (cI, 6144, .inl (nA d)))] H := hP
          have hD : va_D A [(h0, .inr (3, [.ref h1])), (h1, .inl (cI, 6144, .inl (nA d)))] := hD
          refine n_if_eqB (tgt := 55) hx hb d_Disk_isHead_48 (by decide) (fun c_48 => ?_) (fun c_48 => ?_)
          · skip
            refine lv_iconst (v := bI false) hx hb d_Disk_isHead_55 (by decide) ?_
            exact hret false _ _ 56 ls d_Disk_isHead_56 (hP.sub [0, 1] rfl) (hD.sub [0, 1] (by decide) rfl) hS (by first | exact (cD_t ⟨fun j hj h2 => hall j (by omega) h2, c_40, of_decide_eq_true c_48⟩).symm | exact (cD_f (fun q => c_40 q.2.1)).symm | exact (cD_f (fun q => of_decide_eq_false c_48 q.2.2)).symm)
          · skip
            refine lv_iconst (v := bI true) hx hb d_Disk_isHead_51 (by decide) ?_
            refine lv_goto (tgt := 56) hx hb d_Disk_isHead_52 (by decide) ?_
            exact hret true _ _ 56 ls d_Disk_isHead_56 (hP.sub [0, 1] rfl) (hD.sub [0, 1] (by decide) rfl) hS (by first | exact (cD_t ⟨fun j hj h2 => hall j (by omega) h2, c_40, of_decide_eq_true c_48⟩).symm | exact (cD_f (fun q => c_40 q.2.1)).symm | exact (cD_f (fun q => of_decide_eq_false c_48 q.2.2)).symm)
      · skip
        refine lv_aload_n hx hb d_Disk_isHead_13 rfl (lv_at hl 0 rfl) ?_
        refine lv_iload_n hx hb d_Disk_isHead_14 rfl (lv_at hl 2 rfl) ?_
        refine lv_iload_n hx hb d_Disk_isHead_15 rfl (lv_at hl 3 rfl) ?_
        refine n_iadd hx hb d_Disk_isHead_16 ?_
        refine kj_i (wr := []) (va_runV (As := [.int (nI ((b * 32) + i))]) (rest := []) SS (c_Disk_byteAt l dC dI cI H.size h0 h1 d ((b * 32) + i) (by omega)) (k_cwV 1 hts u_204 u_205 u_206 u_36 u_207 rfl rfl (by decide +kernel) ⟨Nat.le_of_ble_eq_true rfl, Nat.le_of_ble_eq_true rfl⟩) (kp_V hN hK [0] rfl hP hD [0, 1] rfl (by decide) (ci := 3) rfl 0 rfl) rfl rfl hl.1 rfl (lv_room (Nat.le_of_ble_eq_true rfl)) d_Disk_isHead_17 ⟨Nat.le_of_ble_eq_true rfl, Nat.le_of_ble_eq_true rfl⟩) hP hD hS hA [0, 1] [] rfl rfl (by decide) (by decide) (fun H locs hP hD hS => ?_)
        have hP : va_P (dC, dI) CL_ [(h0, .inr (3, [.ref h1])), (h1, .inl (cI, 6144, .inl (nA d)))] H := hP
        have hD : va_D A [(h0, .inr (3, [.ref h1])), (h1, .inl (cI, 6144, .inl (nA d)))] := hD
        refine n_if_eq (tgt := 25) hx hb d_Disk_isHead_20 (by decide) (by have := hdb (b * 32 + i); omega) (fun c_20 => ?_) (fun c_20 => ?_)
        · skip
          refine lv_iinc (v := nI (i + 1)) (lv' := [(3, .int (nI (i + 1))), (0, .ref h0), (1, .int (nI b)), (2, .int (nI (b * 32)))]) hx hb d_Disk_isHead_25 hl (k := 3) rfl (inc1 i) (by decide) rfl (fun ls hl => ?_)
          refine lv_goto (tgt := 7) hx hb d_Disk_isHead_28 (by decide) ?_
          exact ih (i + 1) (by omega) (by omega) (by omega) (fun j h1 h2 => by by_cases hj : j = i; (· rw [hj]; exact c_20); (· exact hall j (by omega) h2)) _ _ _ (hP.sub [0, 1] rfl) (hD.sub [0, 1] (by decide) rfl) hS (lv_sub hl [1, 2, 3, 0] rfl)
        · skip
          refine lv_iconst (v := bI false) hx hb d_Disk_isHead_23 (by decide) ?_
          exact hret false _ _ 24 ls d_Disk_isHead_24 (hP.sub [0, 1] rfl) (hD.sub [0, 1] (by decide) rfl) hS ((cD_f (fun q => c_20 (q.1 i (by omega) h4))).symm)
  exact loop_7 29 4 (by omega) (by omega) (by omega) (fun j h1 h2 => absurd h1 (by omega)) _ _ _ (hP.sub [0, 1] rfl) (hD.sub [0, 1] (by decide) rfl) hS (lv_sub hl [2, 3, 1, 0] rfl)
abbrev rm_Disk_isRight : Room := { frames := 2, cells := 0, slots := 0, locals := 44 }
set_option maxHeartbeats 4000000 in
set_option maxRecDepth 100000 in
theorem c_Disk_isRight (l : Launch) (dC : Nat → ClassId) (dI : Nat → Nat → Nat) (cI : ClassId) (sz : Nat) (h0 : Nat) (h1 : Nat) (d : Nat → Nat) (h : Nat) (no : Nat) (ep : Nat) (fi : Bool) (hh : h ≤ 1) (hno : no ≤ 95) (hep : ep < 65536) (hdb : ∀ j, d j < 256) : KI l y_Disk_isRight w_Disk_isRight rm_Disk_isRight (dC, dI) CL_ [(cI, .int)] sz [.ref h0, .int (nI h), .int (nI no), .int (nI ep), .int (bI fi)] [(h0, .inr (3, [.ref h1])), (h1, .inl (cI, 6144, .inl (nA d)))] [(h0, .inr (3, [.ref h1])), (h1, .inl (cI, 6144, .inl (nA d)))] (bI (rightN d ((h * 96 + no) * 32) no ep fi)) := by
  refine k_start_z (cc := b_Disk_isRight) (maxL := 8) (by decide) (Nat.le_of_ble_eq_true rfl) ?_
  intro p e s m args below meth c A QQ ls SS hK hP hD hA hl hN hret
  obtain ⟨hx, hb, hml, hown, hts⟩ := id SS
  have hl : lv_has ls 8 [(0, .ref h0), (1, .int (nI h)), (2, .int (nI no)), (3, .int (nI ep)), (4, .int (bI fi))] := hl
  have hS : va_S A s.heap s.heap [] := va_S.rf
  refine lv_iload_n hx hb d_Disk_isRight_0 rfl (lv_at hl 1 rfl) ?_
  refine lv_bipush (v := nI 96) hx hb d_Disk_isRight_1 (by decide) ?_
  refine n_imul hx hb d_Disk_isRight_3 ?_
  refine lv_iload_n hx hb d_Disk_isRight_4 rfl (lv_at hl 2 rfl) ?_
  refine n_iadd hx hb d_Disk_isRight_5 ?_
  refine lv_bipush (v := nI 32) hx hb d_Disk_isRight_6 (by decide) ?_
  refine n_imul hx hb d_Disk_isRight_8 ?_
  refine lv_istore (lv' := [(5, .int (nI (((h * 96) + no) * 32))), (0, .ref h0), (1, .int (nI h)), (2, .int (nI no)), (3, .int (nI ep)), (4, .int (bI fi))]) hx hb d_Disk_isRight_9 hl (by decide) rfl (fun ls hl => ?_)
  refine lv_aload_n hx hb d_Disk_isRight_11 rfl (lv_at hl 1 rfl) ?_
  refine lv_iload hx hb d_Disk_isRight_12 (lv_at hl 0 rfl) ?_
  refine lv_iconst (v := nI 2) hx hb d_Disk_isRight_14 (by decide) ?_
  refine n_iadd hx hb d_Disk_isRight_15 ?_
  refine kj_i (wr := []) (va_runV (As := [.int (nI ((((h * 96) + no) * 32) + 2))]) (rest := []) SS (c_Disk_byteAt l dC dI cI s.heap.size h0 h1 d ((((h * 96) + no) * 32) + 2) (by omega)) (k_cwV 1 hts u_204 u_205 u_206 u_36 u_207 rfl rfl (by decide +kernel) ⟨Nat.le_of_ble_eq_true rfl, Nat.le_of_ble_eq_true rfl⟩) (kp_V hN hK [0] rfl hP hD [0, 1] rfl (by decide) (ci := 3) rfl 0 rfl) rfl rfl hl.1 rfl (lv_room (Nat.le_of_ble_eq_true rfl)) d_Disk_isRight_16 ⟨Nat.le_of_ble_eq_true rfl, Nat.le_of_ble_eq_true rfl⟩) hP hD hS hA [0, 1] [] rfl rfl (by decide) (by decide) (fun H locs hP hD hS => ?_)
  have hP : va_P (dC, dI) CL_ [(h0, .inr (3, [.ref h1])), (h1, .inl (cI, 6144, .inl (nA d)))] H := hP
  have hD : va_D A [(h0, .inr (3, [.ref h1])), (h1, .inl (cI, 6144, .inl (nA d)))] := hD
  refine lv_istore (lv' := [(6, .int (nI (d ((((h * 96) + no) * 32) + 2)))), (5, .int (nI (((h * 96) + no) * 32))), (0, .ref h0), (1, .int (nI h)), (2, .int (nI no)), (3, .int (nI ep)), (4, .int (bI fi))]) hx hb d_Disk_isRight_19 hl (by decide) rfl (fun ls hl => ?_)
  refine lv_iload hx hb d_Disk_isRight_21 (lv_at hl 0 rfl) ?_
  refine lv_bipush (v := nI 63) hx hb d_Disk_isRight_23 (by decide) ?_
  refine n_iandm6 hx hb d_Disk_isRight_25 ?_
  refine lv_istore (lv' := [(7, .int (nI ((d ((((h * 96) + no) * 32) + 2)) % 64))), (6, .int (nI (d ((((h * 96) + no) * 32) + 2)))), (5, .int (nI (((h * 96) + no) * 32))), (0, .ref h0), (1, .int (nI h)), (2, .int (nI no)), (3, .int (nI ep)), (4, .int (bI fi))]) hx hb d_Disk_isRight_26 hl (by decide) rfl (fun ls hl => ?_)
  refine lv_aload_n hx hb d_Disk_isRight_28 rfl (lv_at hl 3 rfl) ?_
  refine lv_iload hx hb d_Disk_isRight_29 (lv_at hl 2 rfl) ?_
  refine kj_i (wr := []) (va_runV (As := [.int (nI (((h * 96) + no) * 32))]) (rest := []) SS (c_Disk_pairAt l dC dI cI H.size h0 h1 d (((h * 96) + no) * 32) (by omega) hdb) (k_cwV 1 hts u_217 u_219 u_4 u_36 u_220 rfl rfl (by decide +kernel) ⟨Nat.le_of_ble_eq_true rfl, Nat.le_of_ble_eq_true rfl⟩) (kp_V hN hK [0] rfl hP hD [0, 1] rfl (by decide) (ci := 3) rfl 0 rfl) rfl rfl hl.1 rfl (lv_room (Nat.le_of_ble_eq_true rfl)) d_Disk_isRight_31 ⟨Nat.le_of_ble_eq_true rfl, Nat.le_of_ble_eq_true rfl⟩) hP hD hS hA [0, 1] [] rfl rfl (by decide) (by decide) (fun H locs hP hD hS => ?_)
  have hP : va_P (dC, dI) CL_ [(h0, .inr (3, [.ref h1])), (h1, .inl (cI, 6144, .inl (nA d)))] H := hP
  have hD : va_D A [(h0, .inr (3, [.ref h1])), (h1, .inl (cI, 6144, .inl (nA d)))] := hD
  refine lv_iload_n hx hb d_Disk_isRight_34 rfl (lv_at hl 6 rfl) ?_
  refine n_icmp_ne (tgt := 94) hx hb d_Disk_isRight_35 (by decide) (by have := pairN_b hdb ((h * 96 + no) * 32); omega) (by omega) (fun c_35 => ?_) (fun c_35 => ?_)
  · skip
    refine lv_iconst (v := bI false) hx hb d_Disk_isRight_94 (by decide) ?_
    exact hret false _ _ 95 ls d_Disk_isRight_95 (hP.sub [0, 1] rfl) (hD.sub [0, 1] (by decide) rfl) hS (by unfold rightN; first | (symm; apply decide_eq_true; refine ⟨c_35, c_47, by omega, by omega, ?_, of_decide_eq_true c_87⟩; first | (rw [← c_78]; exact decide_eq_true c_68) | (rw [← c_78]; exact decide_eq_false (fun q => q c_68))) | (symm; apply decide_eq_false; intro q; obtain ⟨q1, q2, q3, q4, q5, q6⟩ := q; first | exact c_35 q1 | exact c_47 q2 | exact of_decide_eq_false c_87 q6 | omega | (apply c_78; rw [← q5]; first | exact (decide_eq_true c_68).symm | exact (decide_eq_false (fun q => q c_68)).symm)))
  · skip
    refine lv_aload_n hx hb d_Disk_isRight_38 rfl (lv_at hl 3 rfl) ?_
    refine lv_iload hx hb d_Disk_isRight_39 (lv_at hl 2 rfl) ?_
    refine lv_iconst (v := nI 4) hx hb d_Disk_isRight_41 (by decide) ?_
    refine n_iadd hx hb d_Disk_isRight_42 ?_
    refine kj_i (wr := []) (va_runV (As := [.int (nI ((((h * 96) + no) * 32) + 4))]) (rest := []) SS (c_Disk_pairAt l dC dI cI H.size h0 h1 d ((((h * 96) + no) * 32) + 4) (by omega) hdb) (k_cwV 1 hts u_217 u_219 u_4 u_36 u_220 rfl rfl (by decide +kernel) ⟨Nat.le_of_ble_eq_true rfl, Nat.le_of_ble_eq_true rfl⟩) (kp_V hN hK [0] rfl hP hD [0, 1] rfl (by decide) (ci := 3) rfl 0 rfl) rfl rfl hl.1 rfl (lv_room (Nat.le_of_ble_eq_true rfl)) d_Disk_isRight_43 ⟨Nat.le_of_ble_eq_true rfl, Nat.le_of_ble_eq_true rfl⟩) hP hD hS hA [0, 1] [] rfl rfl (by decide) (by decide) (fun H locs hP hD hS => ?_)
    have hP : va_P (dC, dI) CL_ [(h0, .inr (3, [.ref h1])), (h1, .inl (cI, 6144, .inl (nA d)))] H := hP
    have hD : va_D A [(h0, .inr (3, [.ref h1])), (h1, .inl (cI, 6144, .inl (nA d)))] := hD
    refine lv_iload_n hx hb d_Disk_isRight_46 rfl (lv_at hl 5 rfl) ?_
    refine n_icmp_ne (tgt := 94) hx hb d_Disk_isRight_47 (by decide) (by have := pairN_b hdb ((h * 96 + no) * 32 + 4); omega) (by omega) (fun c_47 => ?_) (fun c_47 => ?_)
    · skip
      refine lv_iconst (v := bI false) hx hb d_Disk_isRight_94 (by decide) ?_
      exact hret false _ _ 95 ls d_Disk_isRight_95 (hP.sub [0, 1] rfl) (hD.sub [0, 1] (by decide) rfl) hS (by unfold rightN; first | (symm; apply decide_eq_true; refine ⟨c_35, c_47, by omega, by omega, ?_, of_decide_eq_true c_87⟩; first | (rw [← c_78]; exact decide_eq_true c_68) | (rw [← c_78]; exact decide_eq_false (fun q => q c_68))) | (symm; apply decide_eq_false; intro q; obtain ⟨q1, q2, q3, q4, q5, q6⟩ := q; first | exact c_35 q1 | exact c_47 q2 | exact of_decide_eq_false c_87 q6 | omega | (apply c_78; rw [← q5]; first | exact (decide_eq_true c_68).symm | exact (decide_eq_false (fun q => q c_68)).symm)))
    · skip
      refine lv_iload hx hb d_Disk_isRight_50 (lv_at hl 0 rfl) ?_
      refine lv_iconst (v := nI 1) hx hb d_Disk_isRight_52 (by decide) ?_
      refine n_icmp_lt (tgt := 94) hx hb d_Disk_isRight_53 (by decide) (by omega) (by omega) (fun c_53 => ?_) (fun c_53 => ?_)
      · skip
        refine lv_iconst (v := bI false) hx hb d_Disk_isRight_94 (by decide) ?_
        exact hret false _ _ 95 ls d_Disk_isRight_95 (hP.sub [0, 1] rfl) (hD.sub [0, 1] (by decide) rfl) hS (by unfold rightN; first | (symm; apply decide_eq_true; refine ⟨c_35, c_47, by omega, by omega, ?_, of_decide_eq_true c_87⟩; first | (rw [← c_78]; exact decide_eq_true c_68) | (rw [← c_78]; exact decide_eq_false (fun q => q c_68))) | (symm; apply decide_eq_false; intro q; obtain ⟨q1, q2, q3, q4, q5, q6⟩ := q; first | exact c_35 q1 | exact c_47 q2 | exact of_decide_eq_false c_87 q6 | omega | (apply c_78; rw [← q5]; first | exact (decide_eq_true c_68).symm | exact (decide_eq_false (fun q => q c_68)).symm)))
      · skip
        refine lv_iload hx hb d_Disk_isRight_56 (lv_at hl 0 rfl) ?_
        refine lv_bipush (v := nI 26) hx hb d_Disk_isRight_58 (by decide) ?_
        refine n_icmp_gt (tgt := 94) hx hb d_Disk_isRight_60 (by decide) (by omega) (by omega) (fun c_60 => ?_) (fun c_60 => ?_)
        · skip
          refine lv_iconst (v := bI false) hx hb d_Disk_isRight_94 (by decide) ?_
          exact hret false _ _ 95 ls d_Disk_isRight_95 (hP.sub [0, 1] rfl) (hD.sub [0, 1] (by decide) rfl) hS (by unfold rightN; first | (symm; apply decide_eq_true; refine ⟨c_35, c_47, by omega, by omega, ?_, of_decide_eq_true c_87⟩; first | (rw [← c_78]; exact decide_eq_true c_68) | (rw [← c_78]; exact decide_eq_false (fun q => q c_68))) | (symm; apply decide_eq_false; intro q; obtain ⟨q1, q2, q3, q4, q5, q6⟩ := q; first | exact c_35 q1 | exact c_47 q2 | exact of_decide_eq_false c_87 q6 | omega | (apply c_78; rw [← q5]; first | exact (decide_eq_true c_68).symm | exact (decide_eq_false (fun q => q c_68)).symm)))
        · skip
          refine lv_iload hx hb d_Disk_isRight_63 (lv_at hl 1 rfl) ?_
          refine lv_bipush (v := nI 64) hx hb d_Disk_isRight_65 (by decide) ?_
          refine n_iand hx hb d_Disk_isRight_67 ?_
          refine n_if_eq (tgt := 75) hx hb d_Disk_isRight_68 (by decide) (Nat.lt_of_le_of_lt Nat.and_le_right (by decide)) (fun c_68 => ?_) (fun c_68 => ?_)
          · skip
            refine lv_iconst (v := bI false) hx hb d_Disk_isRight_75 (by decide) ?_
            refine lv_iload hx hb d_Disk_isRight_76 (lv_at hl 7 rfl) ?_
            refine n_icmp_neB (tgt := 94) hx hb d_Disk_isRight_78 (by decide) (fun c_78 => ?_) (fun c_78 => ?_)
            · skip
              refine lv_iconst (v := bI false) hx hb d_Disk_isRight_94 (by decide) ?_
              exact hret false _ _ 95 ls d_Disk_isRight_95 (hP.sub [0, 1] rfl) (hD.sub [0, 1] (by decide) rfl) hS (by unfold rightN; first | (symm; apply decide_eq_true; refine ⟨c_35, c_47, by omega, by omega, ?_, of_decide_eq_true c_87⟩; first | (rw [← c_78]; exact decide_eq_true c_68) | (rw [← c_78]; exact decide_eq_false (fun q => q c_68))) | (symm; apply decide_eq_false; intro q; obtain ⟨q1, q2, q3, q4, q5, q6⟩ := q; first | exact c_35 q1 | exact c_47 q2 | exact of_decide_eq_false c_87 q6 | omega | (apply c_78; rw [← q5]; first | exact (decide_eq_true c_68).symm | exact (decide_eq_false (fun q => q c_68)).symm)))
            · skip
              refine lv_aload_n hx hb d_Disk_isRight_81 rfl (lv_at hl 3 rfl) ?_
              refine lv_iload hx hb d_Disk_isRight_82 (lv_at hl 2 rfl) ?_
              refine kj_i (wr := []) (va_runV (As := [.int (nI (((h * 96) + no) * 32))]) (rest := []) SS (c_Disk_hasItsSum l dC dI cI H.size h0 h1 d (((h * 96) + no) * 32) (by omega) hdb) (k_cwV 1 hts u_208 u_210 u_3 u_36 u_211 rfl rfl (by decide +kernel) ⟨Nat.le_of_ble_eq_true rfl, Nat.le_of_ble_eq_true rfl⟩) (kp_V hN hK [0] rfl hP hD [0, 1] rfl (by decide) (ci := 3) rfl 0 rfl) rfl rfl hl.1 rfl (lv_room (Nat.le_of_ble_eq_true rfl)) d_Disk_isRight_84 ⟨Nat.le_of_ble_eq_true rfl, Nat.le_of_ble_eq_true rfl⟩) hP hD hS hA [0, 1] [] rfl rfl (by decide) (by decide) (fun H locs hP hD hS => ?_)
              have hP : va_P (dC, dI) CL_ [(h0, .inr (3, [.ref h1])), (h1, .inl (cI, 6144, .inl (nA d)))] H := hP
              have hD : va_D A [(h0, .inr (3, [.ref h1])), (h1, .inl (cI, 6144, .inl (nA d)))] := hD
              refine n_if_eqB (tgt := 94) hx hb d_Disk_isRight_87 (by decide) (fun c_87 => ?_) (fun c_87 => ?_)
              · skip
                refine lv_iconst (v := bI false) hx hb d_Disk_isRight_94 (by decide) ?_
                exact hret false _ _ 95 ls d_Disk_isRight_95 (hP.sub [0, 1] rfl) (hD.sub [0, 1] (by decide) rfl) hS (by unfold rightN; first | (symm; apply decide_eq_true; refine ⟨c_35, c_47, by omega, by omega, ?_, of_decide_eq_true c_87⟩; first | (rw [← c_78]; exact decide_eq_true c_68) | (rw [← c_78]; exact decide_eq_false (fun q => q c_68))) | (symm; apply decide_eq_false; intro q; obtain ⟨q1, q2, q3, q4, q5, q6⟩ := q; first | exact c_35 q1 | exact c_47 q2 | exact of_decide_eq_false c_87 q6 | omega | (apply c_78; rw [← q5]; first | exact (decide_eq_true c_68).symm | exact (decide_eq_false (fun q => q c_68)).symm)))
              · skip
                refine lv_iconst (v := bI true) hx hb d_Disk_isRight_90 (by decide) ?_
                refine lv_goto (tgt := 95) hx hb d_Disk_isRight_91 (by decide) ?_
                exact hret true _ _ 95 ls d_Disk_isRight_95 (hP.sub [0, 1] rfl) (hD.sub [0, 1] (by decide) rfl) hS (by unfold rightN; first | (symm; apply decide_eq_true; refine ⟨c_35, c_47, by omega, by omega, ?_, of_decide_eq_true c_87⟩; first | (rw [← c_78]; exact decide_eq_true c_68) | (rw [← c_78]; exact decide_eq_false (fun q => q c_68))) | (symm; apply decide_eq_false; intro q; obtain ⟨q1, q2, q3, q4, q5, q6⟩ := q; first | exact c_35 q1 | exact c_47 q2 | exact of_decide_eq_false c_87 q6 | omega | (apply c_78; rw [← q5]; first | exact (decide_eq_true c_68).symm | exact (decide_eq_false (fun q => q c_68)).symm)))
          · skip
            refine lv_iconst (v := bI true) hx hb d_Disk_isRight_71 (by decide) ?_
            refine lv_goto (tgt := 76) hx hb d_Disk_isRight_72 (by decide) ?_
            refine lv_iload hx hb d_Disk_isRight_76 (lv_at hl 7 rfl) ?_
            refine n_icmp_neB (tgt := 94) hx hb d_Disk_isRight_78 (by decide) (fun c_78 => ?_) (fun c_78 => ?_)
            · skip
              refine lv_iconst (v := bI false) hx hb d_Disk_isRight_94 (by decide) ?_
              exact hret false _ _ 95 ls d_Disk_isRight_95 (hP.sub [0, 1] rfl) (hD.sub [0, 1] (by decide) rfl) hS (by unfold rightN; first | (symm; apply decide_eq_true; refine ⟨c_35, c_47, by omega, by omega, ?_, of_decide_eq_true c_87⟩; first | (rw [← c_78]; exact decide_eq_true c_68) | (rw [← c_78]; exact decide_eq_false (fun q => q c_68))) | (symm; apply decide_eq_false; intro q; obtain ⟨q1, q2, q3, q4, q5, q6⟩ := q; first | exact c_35 q1 | exact c_47 q2 | exact of_decide_eq_false c_87 q6 | omega | (apply c_78; rw [← q5]; first | exact (decide_eq_true c_68).symm | exact (decide_eq_false (fun q => q c_68)).symm)))
            · skip
              refine lv_aload_n hx hb d_Disk_isRight_81 rfl (lv_at hl 3 rfl) ?_
              refine lv_iload hx hb d_Disk_isRight_82 (lv_at hl 2 rfl) ?_
              refine kj_i (wr := []) (va_runV (As := [.int (nI (((h * 96) + no) * 32))]) (rest := []) SS (c_Disk_hasItsSum l dC dI cI H.size h0 h1 d (((h * 96) + no) * 32) (by omega) hdb) (k_cwV 1 hts u_208 u_210 u_3 u_36 u_211 rfl rfl (by decide +kernel) ⟨Nat.le_of_ble_eq_true rfl, Nat.le_of_ble_eq_true rfl⟩) (kp_V hN hK [0] rfl hP hD [0, 1] rfl (by decide) (ci := 3) rfl 0 rfl) rfl rfl hl.1 rfl (lv_room (Nat.le_of_ble_eq_true rfl)) d_Disk_isRight_84 ⟨Nat.le_of_ble_eq_true rfl, Nat.le_of_ble_eq_true rfl⟩) hP hD hS hA [0, 1] [] rfl rfl (by decide) (by decide) (fun H locs hP hD hS => ?_)
              have hP : va_P (dC, dI) CL_ [(h0, .inr (3, [.ref h1])), (h1, .inl (cI, 6144, .inl (nA d)))] H := hP
              have hD : va_D A [(h0, .inr (3, [.ref h1])), (h1, .inl (cI, 6144, .inl (nA d)))] := hD
              refine n_if_eqB (tgt := 94) hx hb d_Disk_isRight_87 (by decide) (fun c_87 => ?_) (fun c_87 => ?_)
              · skip
                refine lv_iconst (v := bI false) hx hb d_Disk_isRight_94 (by decide) ?_
                exact hret false _ _ 95 ls d_Disk_isRight_95 (hP.sub [0, 1] rfl) (hD.sub [0, 1] (by decide) rfl) hS (by unfold rightN; first | (symm; apply decide_eq_true; refine ⟨c_35, c_47, by omega, by omega, ?_, of_decide_eq_true c_87⟩; first | (rw [← c_78]; exact decide_eq_true c_68) | (rw [← c_78]; exact decide_eq_false (fun q => q c_68))) | (symm; apply decide_eq_false; intro q; obtain ⟨q1, q2, q3, q4, q5, q6⟩ := q; first | exact c_35 q1 | exact c_47 q2 | exact of_decide_eq_false c_87 q6 | omega | (apply c_78; rw [← q5]; first | exact (decide_eq_true c_68).symm | exact (decide_eq_false (fun q => q c_68)).symm)))
              · skip
                refine lv_iconst (v := bI true) hx hb d_Disk_isRight_90 (by decide) ?_
                refine lv_goto (tgt := 95) hx hb d_Disk_isRight_91 (by decide) ?_
                exact hret true _ _ 95 ls d_Disk_isRight_95 (hP.sub [0, 1] rfl) (hD.sub [0, 1] (by decide) rfl) hS (by unfold rightN; first | (symm; apply decide_eq_true; refine ⟨c_35, c_47, by omega, by omega, ?_, of_decide_eq_true c_87⟩; first | (rw [← c_78]; exact decide_eq_true c_68) | (rw [← c_78]; exact decide_eq_false (fun q => q c_68))) | (symm; apply decide_eq_false; intro q; obtain ⟨q1, q2, q3, q4, q5, q6⟩ := q; first | exact c_35 q1 | exact c_47 q2 | exact of_decide_eq_false c_87 q6 | omega | (apply c_78; rw [← q5]; first | exact (decide_eq_true c_68).symm | exact (decide_eq_false (fun q => q c_68)).symm)))
