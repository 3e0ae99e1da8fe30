abbrev rm_Entry_clear : Room := { frames := 1, cells := 0, slots := 0, locals := 21 }
set_option maxHeartbeats 4000000 in
set_option maxRecDepth 100000 in
theorem c_Entry_clear (l : Launch) (dC : Nat → ClassId) (dI : Nat → Nat → Nat) (cI : ClassId) (sz : Nat) (h0 : Nat) (h1 : Nat) (h2 : Nat) (d : Nat → Nat) (u : Nat)  : KV l y_Entry_clear w_Entry_clear rm_Entry_clear (dC, dI) CL_ [(cI, .int)] sz [.ref h0] [(h0, .inr (1, [.ref h1])), (h1, .inr (0, [.ref h2, .int (nI u)])), (h2, .inl (cI, 337, .inl (nA d)))] [(h0, .inr (1, [.ref h1])), (h1, .inr (0, [.ref h2, .int (nI (0 + 1))])), (h2, .inl (cI, 337, .inl (nA (updN d 0 0))))] := by
  refine k_start_v (cc := b_Entry_clear) (maxL := 1) (by decide) (Nat.le_of_ble_eq_true rfl) ?_
  intro p e s m args below meth c A QQ ls SS hK hP hD hA hl hN hret
  obtain ⟨hx, hb, hml, hown, hts⟩ := id SS
  have hl : lv_has ls 1 [(0, .ref h0)] := hl
  have hS : va_S A s.heap s.heap [] := va_S.rf
  refine lv_aload_n hx hb d_Entry_clear_0 rfl (lv_at hl 0 rfl) ?_
  refine va_get (D := (dC, dI)) (ci := 1) (v := .ref h1) (C := R_Entry) (T := F_Entry) (N := 1) hx hb hts in_Entry hown hK hP 0 rfl rfl 0 (by decide) (hts _ u_128) (fun _ h9 => h9) rfl d_Entry_clear_1 ?_
  refine kj_v (wr := [(h0, .inr (1, [.ref h1]))]) (va_runV (As := []) (rest := []) SS (c_Row_clear l dC dI cI s.heap.size h1 h2 337 d u ) (k_cwV 0 hts u_286 u_193 u_194 u_38 u_195 rfl rfl (by decide +kernel) ⟨Nat.le_of_ble_eq_true rfl, Nat.le_of_ble_eq_true rfl⟩) (kp_V hN hK [0] rfl hP hD [1, 2] rfl (by decide) (ci := 0) rfl 0 rfl) rfl rfl hl.1 rfl (lv_room (Nat.le_of_ble_eq_true rfl)) d_Entry_clear_4 ⟨Nat.le_of_ble_eq_true rfl, Nat.le_of_ble_eq_true rfl⟩) hP hD hS hA [1, 2] [0] rfl rfl (by decide) (by decide) (fun H locs hP hD hS => ?_)
  have hP : va_P (dC, dI) CL_ [(h0, .inr (1, [.ref h1])), (h1, .inr (0, [.ref h2, .int (nI 0)])), (h2, .inl (cI, 337, .inl (nA d)))] H := hP
  have hD : va_D A [(h0, .inr (1, [.ref h1])), (h1, .inr (0, [.ref h2, .int (nI 0)])), (h2, .inl (cI, 337, .inl (nA d)))] := hD
  refine lv_aload_n hx hb d_Entry_clear_7 rfl (lv_at hl 0 rfl) ?_
  refine va_get (D := (dC, dI)) (ci := 1) (v := .ref h1) (C := R_Entry) (T := F_Entry) (N := 1) hx hb hts in_Entry hown hK hP 0 rfl rfl 0 (by decide) (hts _ u_128) (fun _ h9 => h9) rfl d_Entry_clear_8 ?_
  refine lv_iconst (v := nI 0) hx hb d_Entry_clear_11 (by decide) ?_
  refine kj_v (wr := [(h0, .inr (1, [.ref h1]))]) (va_runV (As := [.int (nI 0)]) (rest := []) SS (c_Row_add l dC dI cI H.size h1 h2 337 d 0 0 (by omega) (by omega) (by omega)) (k_cwV 1 hts u_124 u_125 u_126 u_38 u_127 rfl rfl (by decide +kernel) ⟨Nat.le_of_ble_eq_true rfl, Nat.le_of_ble_eq_true rfl⟩) (kp_V hN hK [0] rfl hP hD [1, 2] rfl (by decide) (ci := 0) rfl 0 rfl) rfl rfl hl.1 rfl (lv_room (Nat.le_of_ble_eq_true rfl)) d_Entry_clear_12 ⟨Nat.le_of_ble_eq_true rfl, Nat.le_of_ble_eq_true rfl⟩) hP hD hS hA [1, 2] [0] rfl rfl (by decide) (by decide) (fun H locs hP hD hS => ?_)
  have hP : va_P (dC, dI) CL_ [(h0, .inr (1, [.ref h1])), (h1, .inr (0, [.ref h2, .int (nI (0 + 1))])), (h2, .inl (cI, 337, .inl (nA (updN d 0 0))))] H := hP
  have hD : va_D A [(h0, .inr (1, [.ref h1])), (h1, .inr (0, [.ref h2, .int (nI (0 + 1))])), (h2, .inl (cI, 337, .inl (nA (updN d 0 0))))] := hD
  exact hret _ _ 15 ls d_Entry_clear_15 (hP.sub [0, 1, 2] rfl) (hD.sub [0, 1, 2] (by decide) rfl) hS
abbrev rm_Entry_bytes : Room := { frames := 0, cells := 0, slots := 0, locals := 0 }
set_option maxHeartbeats 4000000 in
set_option maxRecDepth 100000 in
theorem c_Entry_bytes (l : Launch) (dC : Nat → ClassId) (dI : Nat → Nat → Nat) (cI : ClassId) (sz : Nat) (h0 : Nat) (h1 : Nat) (h2 : Nat) (d : Nat → Nat) (u : Nat)  : KR l y_Entry_bytes w_Entry_bytes rm_Entry_bytes (dC, dI) CL_ [(cI, .int)] sz [.ref h0] [(h0, .inr (1, [.ref h1])), (h1, .inr (0, [.ref h2, .int (nI u)])), (h2, .inl (cI, 337, .inl (nA d)))] [(h0, .inr (1, [.ref h1])), (h1, .inr (0, [.ref h2, .int (nI u)])), (h2, .inl (cI, 337, .inl (nA d)))] h1 := by
  refine k_start_r (cc := b_Entry_bytes) (maxL := 1) (by decide) (Nat.le_of_ble_eq_true rfl) (Or.inl ⟨_, rfl⟩) ?_
  intro p e s m args below meth c A QQ ls SS hK hP hD hA hl hN hret
  obtain ⟨hx, hb, hml, hown, hts⟩ := id SS
  have hl : lv_has ls 1 [(0, .ref h0)] := hl
  have hS : va_S A s.heap s.heap [] := va_S.rf
  refine lv_aload_n hx hb d_Entry_bytes_0 rfl (lv_at hl 0 rfl) ?_
  refine va_get (D := (dC, dI)) (ci := 1) (v := .ref h1) (C := R_Entry) (T := F_Entry) (N := 1) hx hb hts in_Entry hown hK hP 0 rfl rfl 0 (by decide) (hts _ u_128) (fun _ h9 => h9) rfl d_Entry_bytes_1 ?_
  exact hret _ _ 4 ls d_Entry_bytes_4 (hP.sub [0, 1, 2] rfl) (hD.sub [0, 1, 2] (by decide) rfl) hS
abbrev rm_Entry_changes : Room := { frames := 1, cells := 0, slots := 0, locals := 21 }
set_option maxHeartbeats 4000000 in
set_option maxRecDepth 100000 in
theorem c_Entry_changes (l : Launch) (dC : Nat → ClassId) (dI : Nat → Nat → Nat) (cI : ClassId) (sz : Nat) (h0 : Nat) (h1 : Nat) (h2 : Nat) (d : Nat → Nat) (u : Nat) (h1u : 1 ≤ u) (hun : u ≤ 337) : KI l y_Entry_changes w_Entry_changes rm_Entry_changes (dC, dI) CL_ [(cI, .int)] sz [.ref h0] [(h0, .inr (1, [.ref h1])), (h1, .inr (0, [.ref h2, .int (nI u)])), (h2, .inl (cI, 337, .inl (nA d)))] [(h0, .inr (1, [.ref h1])), (h1, .inr (0, [.ref h2, .int (nI u)])), (h2, .inl (cI, 337, .inl (nA d)))] (nI (d 0)) := by
  refine k_start_i (cc := b_Entry_changes) (maxL := 1) (by decide) (Nat.le_of_ble_eq_true rfl) ?_
  intro p e s m args below meth c A QQ ls SS hK hP hD hA hl hN hret
  obtain ⟨hx, hb, hml, hown, hts⟩ := id SS
  have hl : lv_has ls 1 [(0, .ref h0)] := hl
  have hS : va_S A s.heap s.heap [] := va_S.rf
  refine lv_aload_n hx hb d_Entry_changes_0 rfl (lv_at hl 0 rfl) ?_
  refine va_get (D := (dC, dI)) (ci := 1) (v := .ref h1) (C := R_Entry) (T := F_Entry) (N := 1) hx hb hts in_Entry hown hK hP 0 rfl rfl 0 (by decide) (hts _ u_128) (fun _ h9 => h9) rfl d_Entry_changes_1 ?_
  refine lv_iconst (v := nI 0) hx hb d_Entry_changes_4 (by decide) ?_
  refine kj_i (wr := [(h0, .inr (1, [.ref h1]))]) (va_runV (As := [.int (nI 0)]) (rest := []) SS (c_Row_at l dC dI cI s.heap.size h1 h2 337 d u 0 (by omega) (by omega) (by omega)) (k_cwV 1 hts u_401 u_236 u_237 u_38 u_238 rfl rfl (by decide +kernel) ⟨Nat.le_of_ble_eq_true rfl, Nat.le_of_ble_eq_true rfl⟩) (kp_V hN hK [0] rfl hP hD [1, 2] rfl (by decide) (ci := 0) rfl 0 rfl) rfl rfl hl.1 rfl (lv_room (Nat.le_of_ble_eq_true rfl)) d_Entry_changes_5 ⟨Nat.le_of_ble_eq_true rfl, Nat.le_of_ble_eq_true rfl⟩) hP hD hS hA [1, 2] [0] rfl rfl (by decide) (by decide) (fun H locs hP hD hS => ?_)
  have hP : va_P (dC, dI) CL_ [(h0, .inr (1, [.ref h1])), (h1, .inr (0, [.ref h2, .int (nI u)])), (h2, .inl (cI, 337, .inl (nA d)))] H := hP
  have hD : va_D A [(h0, .inr (1, [.ref h1])), (h1, .inr (0, [.ref h2, .int (nI u)])), (h2, .inl (cI, 337, .inl (nA d)))] := hD
  exact hret (nI (rowAt d u 0)) _ _ 8 ls d_Entry_changes_8 (hP.sub [0, 1, 2] rfl) (hD.sub [0, 1, 2] (by decide) rfl) hS (by rw [rowAt, if_pos (by omega)])
abbrev rm_Entry_isFull : Room := { frames := 2, cells := 0, slots := 0, locals := 41 }
set_option maxHeartbeats 4000000 in
set_option maxRecDepth 100000 in
theorem c_Entry_isFull (l : Launch) (dC : Nat → ClassId) (dI : Nat → Nat → Nat) (cI : ClassId) (sz : Nat) (h0 : Nat) (h1 : Nat) (h2 : Nat) (d : Nat → Nat) (u : Nat) (h1u : 1 ≤ u) (hun : u ≤ 337) (h0b : d 0 < 256) : KI l y_Entry_isFull w_Entry_isFull rm_Entry_isFull (dC, dI) CL_ [(cI, .int)] sz [.ref h0] [(h0, .inr (1, [.ref h1])), (h1, .inr (0, [.ref h2, .int (nI u)])), (h2, .inl (cI, 337, .inl (nA d)))] [(h0, .inr (1, [.ref h1])), (h1, .inr (0, [.ref h2, .int (nI u)])), (h2, .inl (cI, 337, .inl (nA d)))] (bI (decide (8 ≤ d 0))) := by
  refine k_start_z (cc := b_Entry_isFull) (maxL := 1) (by decide) (Nat.le_of_ble_eq_true rfl) ?_
  intro p e s m args below meth c A QQ ls SS hK hP hD hA hl hN hret
  obtain ⟨hx, hb, hml, hown, hts⟩ := id SS
  have hl : lv_has ls 1 [(0, .ref h0)] := hl
  have hS : va_S A s.heap s.heap [] := va_S.rf
  refine lv_aload_n hx hb d_Entry_isFull_0 rfl (lv_at hl 0 rfl) ?_
  refine kj_i (wr := []) (va_runV (As := []) (rest := []) SS (c_Entry_changes l dC dI cI s.heap.size h0 h1 h2 d u (by omega) (by omega)) (k_cwV 0 hts u_397 u_398 u_399 u_40 u_400 rfl rfl (by decide +kernel) ⟨Nat.le_of_ble_eq_true rfl, Nat.le_of_ble_eq_true rfl⟩) (kp_V hN hK [0] rfl hP hD [0, 1, 2] rfl (by decide) (ci := 1) rfl 0 rfl) rfl rfl hl.1 rfl (lv_room (Nat.le_of_ble_eq_true rfl)) d_Entry_isFull_1 ⟨Nat.le_of_ble_eq_true rfl, Nat.le_of_ble_eq_true rfl⟩) hP hD hS hA [0, 1, 2] [] rfl rfl (by decide) (by decide) (fun H locs hP hD hS => ?_)
  have hP : va_P (dC, dI) CL_ [(h0, .inr (1, [.ref h1])), (h1, .inr (0, [.ref h2, .int (nI u)])), (h2, .inl (cI, 337, .inl (nA d)))] H := hP
  have hD : va_D A [(h0, .inr (1, [.ref h1])), (h1, .inr (0, [.ref h2, .int (nI u)])), (h2, .inl (cI, 337, .inl (nA d)))] := hD
  refine lv_bipush (v := nI 8) hx hb d_Entry_isFull_4 (by decide) ?_
  refine n_icmp_lt (tgt := 13) hx hb d_Entry_isFull_6 (by decide) (by omega) (by omega) (fun c_6 => ?_) (fun c_6 => ?_)
  · skip
    refine lv_iconst (v := bI false) hx hb d_Entry_isFull_13 (by decide) ?_
    exact hret false _ _ 14 ls d_Entry_isFull_14 (hP.sub [0, 1, 2] rfl) (hD.sub [0, 1, 2] (by decide) rfl) hS (by first | exact (decide_eq_true (by omega)).symm | exact (decide_eq_false (by omega)).symm)
  · skip
    refine lv_iconst (v := bI true) hx hb d_Entry_isFull_9 (by decide) ?_
    refine lv_goto (tgt := 14) hx hb d_Entry_isFull_10 (by decide) ?_
    exact hret true _ _ 14 ls d_Entry_isFull_14 (hP.sub [0, 1, 2] rfl) (hD.sub [0, 1, 2] (by decide) rfl) hS (by first | exact (decide_eq_true (by omega)).symm | exact (decide_eq_false (by omega)).symm)
abbrev rm_Entry_blocks : Room := { frames := 2, cells := 0, slots := 0, locals := 41 }
set_option maxHeartbeats 4000000 in
set_option maxRecDepth 100000 in
theorem c_Entry_blocks (l : Launch) (dC : Nat → ClassId) (dI : Nat → Nat → Nat) (cI : ClassId) (sz : Nat) (h0 : Nat) (h1 : Nat) (h2 : Nat) (d : Nat → Nat) (u : Nat) (h1u : 1 ≤ u) (hun : u ≤ 337) (h0b : d 0 < 256) : KI l y_Entry_blocks w_Entry_blocks rm_Entry_blocks (dC, dI) CL_ [(cI, .int)] sz [.ref h0] [(h0, .inr (1, [.ref h1])), (h1, .inr (0, [.ref h2, .int (nI u)])), (h2, .inl (cI, 337, .inl (nA d)))] [(h0, .inr (1, [.ref h1])), (h1, .inr (0, [.ref h2, .int (nI u)])), (h2, .inl (cI, 337, .inl (nA d)))] (nI (entBlocks (d 0) u)) := by
  refine k_start_i (cc := b_Entry_blocks) (maxL := 1) (by decide) (Nat.le_of_ble_eq_true rfl) ?_
  intro p e s m args below meth c A QQ ls SS hK hP hD hA hl hN hret
  obtain ⟨hx, hb, hml, hown, hts⟩ := id SS
  have hl : lv_has ls 1 [(0, .ref h0)] := hl
  have hS : va_S A s.heap s.heap [] := va_S.rf
  refine lv_aload_n hx hb d_Entry_blocks_0 rfl (lv_at hl 0 rfl) ?_
  refine kj_i (wr := []) (va_runV (As := []) (rest := []) SS (c_Entry_changes l dC dI cI s.heap.size h0 h1 h2 d u (by omega) (by omega)) (k_cwV 0 hts u_397 u_398 u_399 u_40 u_400 rfl rfl (by decide +kernel) ⟨Nat.le_of_ble_eq_true rfl, Nat.le_of_ble_eq_true rfl⟩) (kp_V hN hK [0] rfl hP hD [0, 1, 2] rfl (by decide) (ci := 1) rfl 0 rfl) rfl rfl hl.1 rfl (lv_room (Nat.le_of_ble_eq_true rfl)) d_Entry_blocks_1 ⟨Nat.le_of_ble_eq_true rfl, Nat.le_of_ble_eq_true rfl⟩) hP hD hS hA [0, 1, 2] [] rfl rfl (by decide) (by decide) (fun H locs hP hD hS => ?_)
  have hP : va_P (dC, dI) CL_ [(h0, .inr (1, [.ref h1])), (h1, .inr (0, [.ref h2, .int (nI u)])), (h2, .inl (cI, 337, .inl (nA d)))] H := hP
  have hD : va_D A [(h0, .inr (1, [.ref h1])), (h1, .inr (0, [.ref h2, .int (nI u)])), (h2, .inl (cI, 337, .inl (nA d)))] := hD
  refine n_if_ne (tgt := 11) hx hb d_Entry_blocks_4 (by decide) (by omega) (fun c_4 => ?_) (fun c_4 => ?_)
  · skip
    refine lv_aload_n hx hb d_Entry_blocks_11 rfl (lv_at hl 0 rfl) ?_
    refine va_get (D := (dC, dI)) (ci := 1) (v := .ref h1) (C := R_Entry) (T := F_Entry) (N := 1) hx hb hts in_Entry hown hK hP 0 rfl rfl 0 (by decide) (hts _ u_128) (fun _ h9 => h9) rfl d_Entry_blocks_12 ?_
    refine kj_i (wr := [(h0, .inr (1, [.ref h1]))]) (va_runV (As := []) (rest := []) SS (c_Row_length l dC dI cI H.size h1 h2 337 d u ) (k_cwV 0 hts u_446 u_240 u_241 u_38 u_242 rfl rfl (by decide +kernel) ⟨Nat.le_of_ble_eq_true rfl, Nat.le_of_ble_eq_true rfl⟩) (kp_V hN hK [0] rfl hP hD [1, 2] rfl (by decide) (ci := 0) rfl 0 rfl) rfl rfl hl.1 rfl (lv_room (Nat.le_of_ble_eq_true rfl)) d_Entry_blocks_15 ⟨Nat.le_of_ble_eq_true rfl, Nat.le_of_ble_eq_true rfl⟩) hP hD hS hA [1, 2] [0] rfl rfl (by decide) (by decide) (fun H locs hP hD hS => ?_)
    have hP : va_P (dC, dI) CL_ [(h0, .inr (1, [.ref h1])), (h1, .inr (0, [.ref h2, .int (nI u)])), (h2, .inl (cI, 337, .inl (nA d)))] H := hP
    have hD : va_D A [(h0, .inr (1, [.ref h1])), (h1, .inr (0, [.ref h2, .int (nI u)])), (h2, .inl (cI, 337, .inl (nA d)))] := hD
    refine lv_bipush (v := nI 26) hx hb d_Entry_blocks_18 (by decide) ?_
    refine n_iadd hx hb d_Entry_blocks_20 ?_
    refine lv_iconst (v := nI 1) hx hb d_Entry_blocks_21 (by decide) ?_
    refine n_isub hx hb d_Entry_blocks_22 (by omega) ?_
    refine lv_bipush (v := nI 26) hx hb d_Entry_blocks_23 (by decide) ?_
    refine n_idiv hx hb d_Entry_blocks_25 (by omega) (by omega) (by omega) ?_
    exact hret (nI (((u + 26) - 1) / 26)) _ _ 26 ls d_Entry_blocks_26 (hP.sub [0, 1, 2] rfl) (hD.sub [0, 1, 2] (by decide) rfl) hS (by first | (rw [entBlocks, if_pos (by omega)]) | (rw [entBlocks, if_neg (by omega)]))
  · skip
    refine lv_iconst (v := nI 0) hx hb d_Entry_blocks_7 (by decide) ?_
    refine lv_goto (tgt := 26) hx hb d_Entry_blocks_8 (by decide) ?_
    exact hret (nI 0) _ _ 26 ls d_Entry_blocks_26 (hP.sub [0, 1, 2] rfl) (hD.sub [0, 1, 2] (by decide) rfl) hS (by first | (rw [entBlocks, if_pos (by omega)]) | (rw [entBlocks, if_neg (by omega)]))
abbrev rm_Entry_addDropped : Room := { frames := 2, cells := 0, slots := 0, locals := 41 }
set_option maxHeartbeats 4000000 in
set_option maxRecDepth 100000 in
theorem c_Entry_addDropped (l : Launch) (dC : Nat → ClassId) (dI : Nat → Nat → Nat) (cI : ClassId) (sz : Nat) (h0 : Nat) (h1 : Nat) (h2 : Nat) (d : Nat → Nat) (u : Nat) (key : Nat) (h1u : 1 ≤ u) (hun : u + 2 ≤ 337) (h0b : d 0 < 255) (hkey : key < 256) : KV l y_Entry_addDropped w_Entry_addDropped rm_Entry_addDropped (dC, dI) CL_ [(cI, .int)] sz [.ref h0, .int (nI key)] [(h0, .inr (1, [.ref h1])), (h1, .inr (0, [.ref h2, .int (nI u)])), (h2, .inl (cI, 337, .inl (nA d)))] [(h0, .inr (1, [.ref h1])), (h1, .inr (0, [.ref h2, .int (nI (u + 1 + 1))])), (h2, .inl (cI, 337, .inl (nA (updN (updN (updN d 0 (d 0 + 1)) u key) (u + 1) 255))))] := by
  refine k_start_v (cc := b_Entry_addDropped) (maxL := 2) (by decide) (Nat.le_of_ble_eq_true rfl) ?_
  intro p e s m args below meth c A QQ ls SS hK hP hD hA hl hN hret
  obtain ⟨hx, hb, hml, hown, hts⟩ := id SS
  have hl : lv_has ls 2 [(0, .ref h0), (1, .int (nI key))] := hl
  have hS : va_S A s.heap s.heap [] := va_S.rf
  refine lv_aload_n hx hb d_Entry_addDropped_0 rfl (lv_at hl 0 rfl) ?_
  refine va_get (D := (dC, dI)) (ci := 1) (v := .ref h1) (C := R_Entry) (T := F_Entry) (N := 1) hx hb hts in_Entry hown hK hP 0 rfl rfl 0 (by decide) (hts _ u_128) (fun _ h9 => h9) rfl d_Entry_addDropped_1 ?_
  refine lv_iconst (v := nI 0) hx hb d_Entry_addDropped_4 (by decide) ?_
  refine lv_aload_n hx hb d_Entry_addDropped_5 rfl (lv_at hl 0 rfl) ?_
  refine kj_i (wr := []) (va_runV (As := []) (rest := [.int (nI 0), .ref h1]) SS (c_Entry_changes l dC dI cI s.heap.size h0 h1 h2 d u (by omega) (by omega)) (k_cwV 0 hts u_397 u_398 u_399 u_40 u_400 rfl rfl (by decide +kernel) ⟨Nat.le_of_ble_eq_true rfl, Nat.le_of_ble_eq_true rfl⟩) (kp_V hN hK [0] rfl hP hD [0, 1, 2] rfl (by decide) (ci := 1) rfl 0 rfl) rfl rfl hl.1 rfl (lv_room (Nat.le_of_ble_eq_true rfl)) d_Entry_addDropped_6 ⟨Nat.le_of_ble_eq_true rfl, Nat.le_of_ble_eq_true rfl⟩) hP hD hS hA [0, 1, 2] [] rfl rfl (by decide) (by decide) (fun H locs hP hD hS => ?_)
  have hP : va_P (dC, dI) CL_ [(h0, .inr (1, [.ref h1])), (h1, .inr (0, [.ref h2, .int (nI u)])), (h2, .inl (cI, 337, .inl (nA d)))] H := hP
  have hD : va_D A [(h0, .inr (1, [.ref h1])), (h1, .inr (0, [.ref h2, .int (nI u)])), (h2, .inl (cI, 337, .inl (nA d)))] := hD
  refine lv_iconst (v := nI 1) hx hb d_Entry_addDropped_9 (by decide) ?_
  refine n_iadd hx hb d_Entry_addDropped_10 ?_
  refine kj_v (wr := [(h0, .inr (1, [.ref h1]))]) (va_runV (As := [.int (nI 0), .int (nI ((d 0) + 1))]) (rest := []) SS (c_Row_change l dC dI cI H.size h1 h2 337 d u 0 ((d 0) + 1) (by omega) (by omega) (by omega) (by omega)) (k_cwV 2 hts u_407 u_408 u_409 u_38 u_410 rfl rfl (by decide +kernel) ⟨Nat.le_of_ble_eq_true rfl, Nat.le_of_ble_eq_true rfl⟩) (kp_V hN hK [0] rfl hP hD [1, 2] rfl (by decide) (ci := 0) rfl 0 rfl) rfl rfl hl.1 rfl (lv_room (Nat.le_of_ble_eq_true rfl)) d_Entry_addDropped_11 ⟨Nat.le_of_ble_eq_true rfl, Nat.le_of_ble_eq_true rfl⟩) hP hD hS hA [1, 2] [0] rfl rfl (by decide) (by decide) (fun H locs hP hD hS => ?_)
  have hP : va_P (dC, dI) CL_ [(h0, .inr (1, [.ref h1])), (h1, .inr (0, [.ref h2, .int (nI u)])), (h2, .inl (cI, 337, .inl (nA (updN d 0 ((d 0) + 1)))))] H := hP
  have hD : va_D A [(h0, .inr (1, [.ref h1])), (h1, .inr (0, [.ref h2, .int (nI u)])), (h2, .inl (cI, 337, .inl (nA (updN d 0 ((d 0) + 1)))))] := hD
  refine lv_aload_n hx hb d_Entry_addDropped_14 rfl (lv_at hl 0 rfl) ?_
  refine va_get (D := (dC, dI)) (ci := 1) (v := .ref h1) (C := R_Entry) (T := F_Entry) (N := 1) hx hb hts in_Entry hown hK hP 0 rfl rfl 0 (by decide) (hts _ u_128) (fun _ h9 => h9) rfl d_Entry_addDropped_15 ?_
  refine lv_iload_n hx hb d_Entry_addDropped_18 rfl (lv_at hl 1 rfl) ?_
  refine kj_v (wr := [(h0, .inr (1, [.ref h1]))]) (va_runV (As := [.int (nI key)]) (rest := []) SS (c_Row_add l dC dI cI H.size h1 h2 337 (updN d 0 ((d 0) + 1)) u key (by omega) (by omega) (by omega)) (k_cwV 1 hts u_124 u_125 u_126 u_38 u_127 rfl rfl (by decide +kernel) ⟨Nat.le_of_ble_eq_true rfl, Nat.le_of_ble_eq_true rfl⟩) (kp_V hN hK [0] rfl hP hD [1, 2] rfl (by decide) (ci := 0) rfl 0 rfl) rfl rfl hl.1 rfl (lv_room (Nat.le_of_ble_eq_true rfl)) d_Entry_addDropped_19 ⟨Nat.le_of_ble_eq_true rfl, Nat.le_of_ble_eq_true rfl⟩) hP hD hS hA [1, 2] [0] rfl rfl (by decide) (by decide) (fun H locs hP hD hS => ?_)
  have hP : va_P (dC, dI) CL_ [(h0, .inr (1, [.ref h1])), (h1, .inr (0, [.ref h2, .int (nI (u + 1))])), (h2, .inl (cI, 337, .inl (nA (updN (updN d 0 ((d 0) + 1)) u key))))] H := hP
  have hD : va_D A [(h0, .inr (1, [.ref h1])), (h1, .inr (0, [.ref h2, .int (nI (u + 1))])), (h2, .inl (cI, 337, .inl (nA (updN (updN d 0 ((d 0) + 1)) u key))))] := hD
  refine lv_aload_n hx hb d_Entry_addDropped_22 rfl (lv_at hl 0 rfl) ?_
  refine va_get (D := (dC, dI)) (ci := 1) (v := .ref h1) (C := R_Entry) (T := F_Entry) (N := 1) hx hb hts in_Entry hown hK hP 0 rfl rfl 0 (by decide) (hts _ u_128) (fun _ h9 => h9) rfl d_Entry_addDropped_23 ?_
  refine lv_sipush (v := nI 255) hx hb d_Entry_addDropped_26 (by decide) ?_
  refine kj_v (wr := [(h0, .inr (1, [.ref h1]))]) (va_runV (As := [.int (nI 255)]) (rest := []) SS (c_Row_add l dC dI cI H.size h1 h2 337 (updN (updN d 0 ((d 0) + 1)) u key) (u + 1) 255 (by omega) (by omega) (by omega)) (k_cwV 1 hts u_124 u_125 u_126 u_38 u_127 rfl rfl (by decide +kernel) ⟨Nat.le_of_ble_eq_true rfl, Nat.le_of_ble_eq_true rfl⟩) (kp_V hN hK [0] rfl hP hD [1, 2] rfl (by decide) (ci := 0) rfl 0 rfl) rfl rfl hl.1 rfl (lv_room (Nat.le_of_ble_eq_true rfl)) d_Entry_addDropped_29 ⟨Nat.le_of_ble_eq_true rfl, Nat.le_of_ble_eq_true rfl⟩) hP hD hS hA [1, 2] [0] rfl rfl (by decide) (by decide) (fun H locs hP hD hS => ?_)
  have hP : va_P (dC, dI) CL_ [(h0, .inr (1, [.ref h1])), (h1, .inr (0, [.ref h2, .int (nI ((u + 1) + 1))])), (h2, .inl (cI, 337, .inl (nA (updN (updN (updN d 0 ((d 0) + 1)) u key) (u + 1) 255))))] H := hP
  have hD : va_D A [(h0, .inr (1, [.ref h1])), (h1, .inr (0, [.ref h2, .int (nI ((u + 1) + 1))])), (h2, .inl (cI, 337, .inl (nA (updN (updN (updN d 0 ((d 0) + 1)) u key) (u + 1) 255))))] := hD
  exact hret _ _ 32 ls d_Entry_addDropped_32 (hP.sub [0, 1, 2] rfl) (hD.sub [0, 1, 2] (by decide) rfl) hS
abbrev rm_Entry_addValue : Room := { frames := 2, cells := 0, slots := 0, locals := 41 }
set_option maxHeartbeats 4000000 in
set_option maxRecDepth 100000 in
theorem c_Entry_addValue (l : Launch) (dC : Nat → ClassId) (dI : Nat → Nat → Nat) (cI : ClassId) (sz : Nat) (h0 : Nat) (h1 : Nat) (h2 : Nat) (d : Nat → Nat) (u : Nat) (g0 : Nat) (g1 : Nat) (gn : Nat) (gd : Nat → Nat) (gu : Nat) (key : Nat) (start : Nat) (many : Nat) (h1u : 1 ≤ u) (hun : u + 2 + many ≤ 337) (h0b : d 0 < 255) (hkey : key < 256) (hmany : many < 256) (hgu : gu ≤ gn) (hgn : gn < 2 ^ 30) (hst : start < 2 ^ 30) (hgb : ∀ j, gd j < 256) : KV l y_Entry_addValue w_Entry_addValue rm_Entry_addValue (dC, dI) CL_ [(cI, .int)] sz [.ref h0, .int (nI key), .ref g0, .int (nI start), .int (nI many)] [(h0, .inr (1, [.ref h1])), (h1, .inr (0, [.ref h2, .int (nI u)])), (h2, .inl (cI, 337, .inl (nA d))), (g0, .inr (0, [.ref g1, .int (nI gu)])), (g1, .inl (cI, gn, .inl (nA gd)))] [(h0, .inr (1, [.ref h1])), (h1, .inr (0, [.ref h2, .int (nI (u + 1 + 1 + many))])), (h2, .inl (cI, 337, .inl (nA (fillN (updN (updN (updN d 0 (d 0 + 1)) u key) (u + 1) many) (u + 1 + 1) (fun i => rowAt gd gu (start + i)) many)))), (g0, .inr (0, [.ref g1, .int (nI gu)])), (g1, .inl (cI, gn, .inl (nA gd)))] := by
  refine k_start_v (cc := b_Entry_addValue) (maxL := 6) (by decide) (Nat.le_of_ble_eq_true rfl) ?_
  intro p e s m args below meth c A QQ ls SS hK hP hD hA hl hN hret
  obtain ⟨hx, hb, hml, hown, hts⟩ := id SS
  have hl : lv_has ls 6 [(0, .ref h0), (1, .int (nI key)), (2, .ref g0), (3, .int (nI start)), (4, .int (nI many))] := hl
  have hS : va_S A s.heap s.heap [] := va_S.rf
  refine lv_aload_n hx hb d_Entry_addValue_0 rfl (lv_at hl 0 rfl) ?_
  refine va_get (D := (dC, dI)) (ci := 1) (v := .ref h1) (C := R_Entry) (T := F_Entry) (N := 1) hx hb hts in_Entry hown hK hP 0 rfl rfl 0 (by decide) (hts _ u_128) (fun _ h9 => h9) rfl d_Entry_addValue_1 ?_
  refine lv_iconst (v := nI 0) hx hb d_Entry_addValue_4 (by decide) ?_
  refine lv_aload_n hx hb d_Entry_addValue_5 rfl (lv_at hl 0 rfl) ?_
  refine kj_i (wr := [(g0, .inr (0, [.ref g1, .int (nI gu)])), (g1, .inl (cI, gn, .inl (nA gd)))]) (va_runV (As := []) (rest := [.int (nI 0), .ref h1]) SS (c_Entry_changes l dC dI cI s.heap.size h0 h1 h2 d u (by omega) (by omega)) (k_cwV 0 hts u_397 u_398 u_399 u_40 u_400 rfl rfl (by decide +kernel) ⟨Nat.le_of_ble_eq_true rfl, Nat.le_of_ble_eq_true rfl⟩) (kp_V hN hK [0] rfl hP hD [0, 1, 2] rfl (by decide) (ci := 1) rfl 0 rfl) rfl rfl hl.1 rfl (lv_room (Nat.le_of_ble_eq_true rfl)) d_Entry_addValue_6 ⟨Nat.le_of_ble_eq_true rfl, Nat.le_of_ble_eq_true rfl⟩) hP hD hS hA [0, 1, 2] [3, 4] rfl rfl (by decide) (by decide) (fun H locs hP hD hS => ?_)
  have hP : va_P (dC, dI) CL_ [(g0, .inr (0, [.ref g1, .int (nI gu)])), (g1, .inl (cI, gn, .inl (nA gd))), (h0, .inr (1, [.ref h1])), (h1, .inr (0, [.ref h2, .int (nI u)])), (h2, .inl (cI, 337, .inl (nA d)))] H := hP
  have hD : va_D A [(g0, .inr (0, [.ref g1, .int (nI gu)])), (g1, .inl (cI, gn, .inl (nA gd))), (h0, .inr (1, [.ref h1])), (h1, .inr (0, [.ref h2, .int (nI u)])), (h2, .inl (cI, 337, .inl (nA d)))] := hD
  refine lv_iconst (v := nI 1) hx hb d_Entry_addValue_9 (by decide) ?_
  refine n_iadd hx hb d_Entry_addValue_10 ?_
  refine kj_v (wr := [(g0, .inr (0, [.ref g1, .int (nI gu)])), (g1, .inl (cI, gn, .inl (nA gd))), (h0, .inr (1, [.ref h1]))]) (va_runV (As := [.int (nI 0), .int (nI ((d 0) + 1))]) (rest := []) SS (c_Row_change l dC dI cI H.size h1 h2 337 d u 0 ((d 0) + 1) (by omega) (by omega) (by omega) (by omega)) (k_cwV 2 hts u_407 u_408 u_409 u_38 u_410 rfl rfl (by decide +kernel) ⟨Nat.le_of_ble_eq_true rfl, Nat.le_of_ble_eq_true rfl⟩) (kp_V hN hK [0] rfl hP hD [3, 4] rfl (by decide) (ci := 0) rfl 0 rfl) rfl rfl hl.1 rfl (lv_room (Nat.le_of_ble_eq_true rfl)) d_Entry_addValue_11 ⟨Nat.le_of_ble_eq_true rfl, Nat.le_of_ble_eq_true rfl⟩) hP hD hS hA [3, 4] [0, 1, 2] rfl rfl (by decide) (by decide) (fun H locs hP hD hS => ?_)
  have hP : va_P (dC, dI) CL_ [(g0, .inr (0, [.ref g1, .int (nI gu)])), (g1, .inl (cI, gn, .inl (nA gd))), (h0, .inr (1, [.ref h1])), (h1, .inr (0, [.ref h2, .int (nI u)])), (h2, .inl (cI, 337, .inl (nA (updN d 0 ((d 0) + 1)))))] H := hP
  have hD : va_D A [(g0, .inr (0, [.ref g1, .int (nI gu)])), (g1, .inl (cI, gn, .inl (nA gd))), (h0, .inr (1, [.ref h1])), (h1, .inr (0, [.ref h2, .int (nI u)])), (h2, .inl (cI, 337, .inl (nA (updN d 0 ((d 0) + 1)))))] := hD
  refine lv_aload_n hx hb d_Entry_addValue_14 rfl (lv_at hl 0 rfl) ?_
  refine va_get (D := (dC, dI)) (ci := 1) (v := .ref h1) (C := R_Entry) (T := F_Entry) (N := 1) hx hb hts in_Entry hown hK hP 2 rfl rfl 0 (by decide) (hts _ u_128) (fun _ h9 => h9) rfl d_Entry_addValue_15 ?_
  refine lv_iload_n hx hb d_Entry_addValue_18 rfl (lv_at hl 1 rfl) ?_
  refine kj_v (wr := [(g0, .inr (0, [.ref g1, .int (nI gu)])), (g1, .inl (cI, gn, .inl (nA gd))), (h0, .inr (1, [.ref h1]))]) (va_runV (As := [.int (nI key)]) (rest := []) SS (c_Row_add l dC dI cI H.size h1 h2 337 (updN d 0 ((d 0) + 1)) u key (by omega) (by omega) (by omega)) (k_cwV 1 hts u_124 u_125 u_126 u_38 u_127 rfl rfl (by decide +kernel) ⟨Nat.le_of_ble_eq_true rfl, Nat.le_of_ble_eq_true rfl⟩) (kp_V hN hK [0] rfl hP hD [3, 4] rfl (by decide) (ci := 0) rfl 0 rfl) rfl rfl hl.1 rfl (lv_room (Nat.le_of_ble_eq_true rfl)) d_Entry_addValue_19 ⟨Nat.le_of_ble_eq_true rfl, Nat.le_of_ble_eq_true rfl⟩) hP hD hS hA [3, 4] [0, 1, 2] rfl rfl (by decide) (by decide) (fun H locs hP hD hS => ?_)
  have hP : va_P (dC, dI) CL_ [(g0, .inr (0, [.ref g1, .int (nI gu)])), (g1, .inl (cI, gn, .inl (nA gd))), (h0, .inr (1, [.ref h1])), (h1, .inr (0, [.ref h2, .int (nI (u + 1))])), (h2, .inl (cI, 337, .inl (nA (updN (updN d 0 ((d 0) + 1)) u key))))] H := hP
  have hD : va_D A [(g0, .inr (0, [.ref g1, .int (nI gu)])), (g1, .inl (cI, gn, .inl (nA gd))), (h0, .inr (1, [.ref h1])), (h1, .inr (0, [.ref h2, .int (nI (u + 1))])), (h2, .inl (cI, 337, .inl (nA (updN (updN d 0 ((d 0) + 1)) u key))))] := hD
  refine lv_aload_n hx hb d_Entry_addValue_22 rfl (lv_at hl 0 rfl) ?_
  refine va_get (D := (dC, dI)) (ci := 1) (v := .ref h1) (C := R_Entry) (T := F_Entry) (N := 1) hx hb hts in_Entry hown hK hP 2 rfl rfl 0 (by decide) (hts _ u_128) (fun _ h9 => h9) rfl d_Entry_addValue_23 ?_
  refine lv_iload hx hb d_Entry_addValue_26 (lv_at hl 4 rfl) ?_
  refine kj_v (wr := [(g0, .inr (0, [.ref g1, .int (nI gu)])), (g1, .inl (cI, gn, .inl (nA gd))), (h0, .inr (1, [.ref h1]))]) (va_runV (As := [.int (nI many)]) (rest := []) SS (c_Row_add l dC dI cI H.size h1 h2 337 (updN (updN d 0 ((d 0) + 1)) u key) (u + 1) many (by omega) (by omega) (by omega)) (k_cwV 1 hts u_124 u_125 u_126 u_38 u_127 rfl rfl (by decide +kernel) ⟨Nat.le_of_ble_eq_true rfl, Nat.le_of_ble_eq_true rfl⟩) (kp_V hN hK [0] rfl hP hD [3, 4] rfl (by decide) (ci := 0) rfl 0 rfl) rfl rfl hl.1 rfl (lv_room (Nat.le_of_ble_eq_true rfl)) d_Entry_addValue_28 ⟨Nat.le_of_ble_eq_true rfl, Nat.le_of_ble_eq_true rfl⟩) hP hD hS hA [3, 4] [0, 1, 2] rfl rfl (by decide) (by decide) (fun H locs hP hD hS => ?_)
  have hP : va_P (dC, dI) CL_ [(g0, .inr (0, [.ref g1, .int (nI gu)])), (g1, .inl (cI, gn, .inl (nA gd))), (h0, .inr (1, [.ref h1])), (h1, .inr (0, [.ref h2, .int (nI ((u + 1) + 1))])), (h2, .inl (cI, 337, .inl (nA (updN (updN (updN d 0 ((d 0) + 1)) u key) (u + 1) many))))] H := hP
  have hD : va_D A [(g0, .inr (0, [.ref g1, .int (nI gu)])), (g1, .inl (cI, gn, .inl (nA gd))), (h0, .inr (1, [.ref h1])), (h1, .inr (0, [.ref h2, .int (nI ((u + 1) + 1))])), (h2, .inl (cI, 337, .inl (nA (updN (updN (updN d 0 ((d 0) + 1)) u key) (u + 1) many))))] := hD
  refine lv_iconst (v := nI 0) hx hb d_Entry_addValue_31 (by decide) ?_
  refine lv_istore (lv' := [(5, .int (nI 0)), (0, .ref h0), (1, .int (nI key)), (2, .ref g0), (3, .int (nI start)), (4, .int (nI many))]) hx hb d_Entry_addValue_32 hl (by decide) rfl (fun ls hl => ?_)
  have loop_34 : ∀ (n_ : Nat) (i : Nat), (i ≤ many) → (many + 1 ≤ i + n_) → ∀ (H : Heap) (locs : List Loc) (ls : Array Slot), va_P (dC, dI) CL_ [(h0, .inr (1, [.ref h1])), (h1, .inr (0, [.ref h2, .int (nI (u + 1 + 1 + i))])), (h2, .inl (cI, 337, .inl (nA (fillN (updN (updN (updN d 0 (d 0 + 1)) u key) (u + 1) many) (u + 1 + 1) (fun i => rowAt gd gu (start + i)) i)))), (g0, .inr (0, [.ref g1, .int (nI gu)])), (g1, .inl (cI, gn, .inl (nA gd)))] H → va_D A [(h0, .inr (1, [.ref h1])), (h1, .inr (0, [.ref h2, .int (nI (u + 1 + 1 + i))])), (h2, .inl (cI, 337, .inl (nA (fillN (updN (updN (updN d 0 (d 0 + 1)) u key) (u + 1) many) (u + 1 + 1) (fun i => rowAt gd gu (start + i)) i)))), (g0, .inr (0, [.ref g1, .int (nI gu)])), (g1, .inl (cI, gn, .inl (nA gd)))] → va_S A s.heap H locs → lv_has ls 6 [(0, .ref h0), (1, .int (nI key)), (2, .ref g0), (3, .int (nI start)), (4, .int (nI many)), (5, .int (nI i))] → W p l e rm_Entry_addValue s m args below meth c H locs 0 0 QQ (F0 m 34 ls []) := by
    intro n_
    induction n_ with
    | zero =>
      intro i hi hf
      exact absurd hf (by omega)
    | succ n_ ih =>
      intro i hi hf H locs ls hP hD hS hl
      refine lv_iload hx hb d_Entry_addValue_34 (lv_at hl 5 rfl) ?_
      refine lv_iload hx hb d_Entry_addValue_36 (lv_at hl 4 rfl) ?_
      refine n_icmp_ge (tgt := 62) hx hb d_Entry_addValue_38 (by decide) (by omega) (by omega) (fun c_38 => ?_) (fun c_38 => ?_)
      · skip
        have hq : i = many := by omega
        rw [hq] at hP hD
        exact hret _ _ 62 ls d_Entry_addValue_62 (hP.sub [0, 1, 2, 3, 4] rfl) (hD.sub [0, 1, 2, 3, 4] (by decide) rfl) hS
      · skip
        refine lv_aload_n hx hb d_Entry_addValue_41 rfl (lv_at hl 0 rfl) ?_
        refine va_get (D := (dC, dI)) (ci := 1) (v := .ref h1) (C := R_Entry) (T := F_Entry) (N := 1) hx hb hts in_Entry hown hK hP 0 rfl rfl 0 (by decide) (hts _ u_128) (fun _ h9 => h9) rfl d_Entry_addValue_42 ?_
        refine lv_aload_n hx hb d_Entry_addValue_45 rfl (lv_at hl 2 rfl) ?_
        refine lv_iload_n hx hb d_Entry_addValue_46 rfl (lv_at hl 3 rfl) ?_
        refine lv_iload hx hb d_Entry_addValue_47 (lv_at hl 5 rfl) ?_
        refine n_iadd hx hb d_Entry_addValue_49 ?_
        refine kj_i (wr := [(h0, .inr (1, [.ref h1])), (h1, .inr (0, [.ref h2, .int (nI (u + 1 + 1 + i))])), (h2, .inl (cI, 337, .inl (nA (fillN (updN (updN (updN d 0 (d 0 + 1)) u key) (u + 1) many) (u + 1 + 1) (fun i => rowAt gd gu (start + i)) i))))]) (va_runV (As := [.int (nI (start + i))]) (rest := [.ref h1]) SS (c_Row_at l dC dI cI H.size g0 g1 gn gd gu (start + i) (by omega) (by omega) (by omega)) (k_cwV 1 hts u_401 u_236 u_237 u_38 u_238 rfl rfl (by decide +kernel) ⟨Nat.le_of_ble_eq_true rfl, Nat.le_of_ble_eq_true rfl⟩) (kp_V hN hK [0] rfl hP hD [3, 4] rfl (by decide) (ci := 0) rfl 0 rfl) rfl rfl hl.1 rfl (lv_room (Nat.le_of_ble_eq_true rfl)) d_Entry_addValue_50 ⟨Nat.le_of_ble_eq_true rfl, Nat.le_of_ble_eq_true rfl⟩) hP hD hS hA [3, 4] [0, 1, 2] rfl rfl (by decide) (by decide) (fun H locs hP hD hS => ?_)
        have hP : va_P (dC, dI) CL_ [(h0, .inr (1, [.ref h1])), (h1, .inr (0, [.ref h2, .int (nI (u + 1 + 1 + i))])), (h2, .inl (cI, 337, .inl (nA (fillN (updN (updN (updN d 0 (d 0 + 1)) u key) (u + 1) many) (u + 1 + 1) (fun i => rowAt gd gu (start + i)) i)))), (g0, .inr (0, [.ref g1, .int (nI gu)])), (g1, .inl (cI, gn, .inl (nA gd)))] H := hP
        have hD : va_D A [(h0, .inr (1, [.ref h1])), (h1, .inr (0, [.ref h2, .int (nI (u + 1 + 1 + i))])), (h2, .inl (cI, 337, .inl (nA (fillN (updN (updN (updN d 0 (d 0 + 1)) u key) (u + 1) many) (u + 1 + 1) (fun i => rowAt gd gu (start + i)) i)))), (g0, .inr (0, [.ref g1, .int (nI gu)])), (g1, .inl (cI, gn, .inl (nA gd)))] := hD
        refine kj_v (wr := [(h0, .inr (1, [.ref h1])), (g0, .inr (0, [.ref g1, .int (nI gu)])), (g1, .inl (cI, gn, .inl (nA gd)))]) (va_runV (As := [.int (nI (rowAt gd gu (start + i)))]) (rest := []) SS (c_Row_add l dC dI cI H.size h1 h2 337 (fillN (updN (updN (updN d 0 (d 0 + 1)) u key) (u + 1) many) (u + 1 + 1) (fun i => rowAt gd gu (start + i)) i) (u + 1 + 1 + i) (rowAt gd gu (start + i)) (by omega) (by omega) (rowAt_b hgb)) (k_cwV 1 hts u_124 u_125 u_126 u_38 u_127 rfl rfl (by decide +kernel) ⟨Nat.le_of_ble_eq_true rfl, Nat.le_of_ble_eq_true rfl⟩) (kp_V hN hK [0] rfl hP hD [1, 2] rfl (by decide) (ci := 0) rfl 0 rfl) rfl rfl hl.1 rfl (lv_room (Nat.le_of_ble_eq_true rfl)) d_Entry_addValue_53 ⟨Nat.le_of_ble_eq_true rfl, Nat.le_of_ble_eq_true rfl⟩) hP hD hS hA [1, 2] [0, 3, 4] rfl rfl (by decide) (by decide) (fun H locs hP hD hS => ?_)
        have hP : va_P (dC, dI) CL_ [(h0, .inr (1, [.ref h1])), (g0, .inr (0, [.ref g1, .int (nI gu)])), (g1, .inl (cI, gn, .inl (nA gd))), (h1, .inr (0, [.ref h2, .int (nI ((u + 1 + 1 + i) + 1))])), (h2, .inl (cI, 337, .inl (nA (updN (fillN (updN (updN (updN d 0 (d 0 + 1)) u key) (u + 1) many) (u + 1 + 1) (fun i => rowAt gd gu (start + i)) i) (u + 1 + 1 + i) (rowAt gd gu (start + i))))))] H := hP
        have hD : va_D A [(h0, .inr (1, [.ref h1])), (g0, .inr (0, [.ref g1, .int (nI gu)])), (g1, .inl (cI, gn, .inl (nA gd))), (h1, .inr (0, [.ref h2, .int (nI ((u + 1 + 1 + i) + 1))])), (h2, .inl (cI, 337, .inl (nA (updN (fillN (updN (updN (updN d 0 (d 0 + 1)) u key) (u + 1) many) (u + 1 + 1) (fun i => rowAt gd gu (start + i)) i) (u + 1 + 1 + i) (rowAt gd gu (start + i))))))] := hD
        refine lv_iinc (v := nI (i + 1)) (lv' := [(5, .int (nI (i + 1))), (0, .ref h0), (1, .int (nI key)), (2, .ref g0), (3, .int (nI start)), (4, .int (nI many))]) hx hb d_Entry_addValue_56 hl (k := 5) rfl (inc1 i) (by decide) rfl (fun ls hl => ?_)
        refine lv_goto (tgt := 34) hx hb d_Entry_addValue_59 (by decide) ?_
        have e9 : updN (fillN (updN (updN (updN d 0 (d 0 + 1)) u key) (u + 1) many) (u + 1 + 1) (fun i => rowAt gd gu (start + i)) i) (u + 1 + 1 + i) (rowAt gd gu (start + i)) = fillN (updN (updN (updN d 0 (d 0 + 1)) u key) (u + 1) many) (u + 1 + 1) (fun i => rowAt gd gu (start + i)) (i + 1) := fillN_s _ _ _ _
        rw [e9] at hP hD
        exact ih (i + 1) (by omega) (by omega) _ _ _ (hP.sub [0, 3, 4, 1, 2] rfl) (hD.sub [0, 3, 4, 1, 2] (by decide) rfl) hS (lv_sub hl [1, 2, 3, 4, 5, 0] rfl)
  rw [← fillN_0 (updN (updN (updN d 0 (d 0 + 1)) u key) (u + 1) many) (u + 1 + 1) (fun i => rowAt gd gu (start + i))] at hP hD
  exact loop_34 (many + 1) 0 (by omega) (by omega) _ _ _ (hP.sub [2, 3, 4, 0, 1] rfl) (hD.sub [2, 3, 4, 0, 1] (by decide) rfl) hS (lv_sub hl [1, 2, 3, 4, 5, 0] rfl)
