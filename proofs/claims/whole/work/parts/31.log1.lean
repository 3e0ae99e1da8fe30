abbrev rm_Log_half : Room := { frames := 0, cells := 0, slots := 0, locals := 0 }
set_option maxHeartbeats 4000000 in
set_option maxRecDepth 100000 in
theorem c_Log_half (l : Launch) (dC : Nat → ClassId) (dI : Nat → Nat → Nat) (cI : ClassId) (sz : Nat) (h0 : Nat) (h1 : Nat) (h3 : Nat) (h4 : Nat) (hf : Nat) (ep : Nat) (bl : Nat) (en : Nat)  : KI l y_Log_half w_Log_half rm_Log_half (dC, dI) CL_ [(cI, .int)] sz [.ref h0] [(h0, .inr (5, [.ref h1, .ref h3, .ref h4, .int (nI hf), .int (nI ep), .int (nI bl), .int (nI en)]))] [(h0, .inr (5, [.ref h1, .ref h3, .ref h4, .int (nI hf), .int (nI ep), .int (nI bl), .int (nI en)]))] (nI hf) := by
  refine k_start_i (cc := b_Log_half) (maxL := 1) (by decide) (Nat.le_of_ble_eq_true rfl) ?_
  intro p e s m args below meth c A QQ ls SS hK hP hD hA hl hN hret
  obtain ⟨hx, hb, hml, hown, hts⟩ := id SS
  have hl : lv_has ls 1 [(0, .ref h0)] := hl
  have hS : va_S A s.heap s.heap [] := va_S.rf
  refine lv_aload_n hx hb d_Log_half_0 rfl (lv_at hl 0 rfl) ?_
  refine va_get (D := (dC, dI)) (ci := 5) (v := .int (nI hf)) (C := R_Log) (T := F_Log) (N := 7) hx hb hts in_Log hown hK hP 0 rfl rfl 3 (by decide) (hts _ u_95) (fun _ h9 => h9) rfl d_Log_half_1 ?_
  exact hret (nI hf) _ _ 4 ls d_Log_half_4 (hP.sub [0] rfl) (hD.sub [0] (by decide) rfl) hS rfl
abbrev rm_Log_epoch : Room := { frames := 0, cells := 0, slots := 0, locals := 0 }
set_option maxHeartbeats 4000000 in
set_option maxRecDepth 100000 in
theorem c_Log_epoch (l : Launch) (dC : Nat → ClassId) (dI : Nat → Nat → Nat) (cI : ClassId) (sz : Nat) (h0 : Nat) (h1 : Nat) (h3 : Nat) (h4 : Nat) (hf : Nat) (ep : Nat) (bl : Nat) (en : Nat)  : KI l y_Log_epoch w_Log_epoch rm_Log_epoch (dC, dI) CL_ [(cI, .int)] sz [.ref h0] [(h0, .inr (5, [.ref h1, .ref h3, .ref h4, .int (nI hf), .int (nI ep), .int (nI bl), .int (nI en)]))] [(h0, .inr (5, [.ref h1, .ref h3, .ref h4, .int (nI hf), .int (nI ep), .int (nI bl), .int (nI en)]))] (nI ep) := by
  refine k_start_i (cc := b_Log_epoch) (maxL := 1) (by decide) (Nat.le_of_ble_eq_true rfl) ?_
  intro p e s m args below meth c A QQ ls SS hK hP hD hA hl hN hret
  obtain ⟨hx, hb, hml, hown, hts⟩ := id SS
  have hl : lv_has ls 1 [(0, .ref h0)] := hl
  have hS : va_S A s.heap s.heap [] := va_S.rf
  refine lv_aload_n hx hb d_Log_epoch_0 rfl (lv_at hl 0 rfl) ?_
  refine va_get (D := (dC, dI)) (ci := 5) (v := .int (nI ep)) (C := R_Log) (T := F_Log) (N := 7) hx hb hts in_Log hown hK hP 0 rfl rfl 4 (by decide) (hts _ u_96) (fun _ h9 => h9) rfl d_Log_epoch_1 ?_
  exact hret (nI ep) _ _ 4 ls d_Log_epoch_4 (hP.sub [0] rfl) (hD.sub [0] (by decide) rfl) hS rfl
abbrev rm_Log_blocks : Room := { frames := 0, cells := 0, slots := 0, locals := 0 }
set_option maxHeartbeats 4000000 in
set_option maxRecDepth 100000 in
theorem c_Log_blocks (l : Launch) (dC : Nat → ClassId) (dI : Nat → Nat → Nat) (cI : ClassId) (sz : Nat) (h0 : Nat) (h1 : Nat) (h3 : Nat) (h4 : Nat) (hf : Nat) (ep : Nat) (bl : Nat) (en : Nat)  : KI l y_Log_blocks w_Log_blocks rm_Log_blocks (dC, dI) CL_ [(cI, .int)] sz [.ref h0] [(h0, .inr (5, [.ref h1, .ref h3, .ref h4, .int (nI hf), .int (nI ep), .int (nI bl), .int (nI en)]))] [(h0, .inr (5, [.ref h1, .ref h3, .ref h4, .int (nI hf), .int (nI ep), .int (nI bl), .int (nI en)]))] (nI bl) := by
  refine k_start_i (cc := b_Log_blocks) (maxL := 1) (by decide) (Nat.le_of_ble_eq_true rfl) ?_
  intro p e s m args below meth c A QQ ls SS hK hP hD hA hl hN hret
  obtain ⟨hx, hb, hml, hown, hts⟩ := id SS
  have hl : lv_has ls 1 [(0, .ref h0)] := hl
  have hS : va_S A s.heap s.heap [] := va_S.rf
  refine lv_aload_n hx hb d_Log_blocks_0 rfl (lv_at hl 0 rfl) ?_
  refine va_get (D := (dC, dI)) (ci := 5) (v := .int (nI bl)) (C := R_Log) (T := F_Log) (N := 7) hx hb hts in_Log hown hK hP 0 rfl rfl 5 (by decide) (hts _ u_97) (fun _ h9 => h9) rfl d_Log_blocks_1 ?_
  exact hret (nI bl) _ _ 4 ls d_Log_blocks_4 (hP.sub [0] rfl) (hD.sub [0] (by decide) rfl) hS rfl
abbrev rm_Log_entries : Room := { frames := 0, cells := 0, slots := 0, locals := 0 }
set_option maxHeartbeats 4000000 in
set_option maxRecDepth 100000 in
theorem c_Log_entries (l : Launch) (dC : Nat → ClassId) (dI : Nat → Nat → Nat) (cI : ClassId) (sz : Nat) (h0 : Nat) (h1 : Nat) (h3 : Nat) (h4 : Nat) (hf : Nat) (ep : Nat) (bl : Nat) (en : Nat)  : KI l y_Log_entries w_Log_entries rm_Log_entries (dC, dI) CL_ [(cI, .int)] sz [.ref h0] [(h0, .inr (5, [.ref h1, .ref h3, .ref h4, .int (nI hf), .int (nI ep), .int (nI bl), .int (nI en)]))] [(h0, .inr (5, [.ref h1, .ref h3, .ref h4, .int (nI hf), .int (nI ep), .int (nI bl), .int (nI en)]))] (nI en) := by
  refine k_start_i (cc := b_Log_entries) (maxL := 1) (by decide) (Nat.le_of_ble_eq_true rfl) ?_
  intro p e s m args below meth c A QQ ls SS hK hP hD hA hl hN hret
  obtain ⟨hx, hb, hml, hown, hts⟩ := id SS
  have hl : lv_has ls 1 [(0, .ref h0)] := hl
  have hS : va_S A s.heap s.heap [] := va_S.rf
  refine lv_aload_n hx hb d_Log_entries_0 rfl (lv_at hl 0 rfl) ?_
  refine va_get (D := (dC, dI)) (ci := 5) (v := .int (nI en)) (C := R_Log) (T := F_Log) (N := 7) hx hb hts in_Log hown hK hP 0 rfl rfl 6 (by decide) (hts _ u_98) (fun _ h9 => h9) rfl d_Log_entries_1 ?_
  exact hret (nI en) _ _ 4 ls d_Log_entries_4 (hP.sub [0] rfl) (hD.sub [0] (by decide) rfl) hS rfl
abbrev rm_Log_bytes : Room := { frames := 0, cells := 0, slots := 0, locals := 0 }
set_option maxHeartbeats 4000000 in
set_option maxRecDepth 100000 in
theorem c_Log_bytes (l : Launch) (dC : Nat → ClassId) (dI : Nat → Nat → Nat) (cI : ClassId) (sz : Nat) (h0 : Nat) (h1 : Nat) (h3 : Nat) (h4 : Nat) (hf : Nat) (ep : Nat) (bl : Nat) (en : Nat)  : KR l y_Log_bytes w_Log_bytes rm_Log_bytes (dC, dI) CL_ [(cI, .int)] sz [.ref h0] [(h0, .inr (5, [.ref h1, .ref h3, .ref h4, .int (nI hf), .int (nI ep), .int (nI bl), .int (nI en)]))] [(h0, .inr (5, [.ref h1, .ref h3, .ref h4, .int (nI hf), .int (nI ep), .int (nI bl), .int (nI en)]))] h1 := by
  refine k_start_r (cc := b_Log_bytes) (maxL := 1) (by decide) (Nat.le_of_ble_eq_true rfl) (Or.inl ⟨_, rfl⟩) ?_
  intro p e s m args below meth c A QQ ls SS hK hP hD hA hl hN hret
  obtain ⟨hx, hb, hml, hown, hts⟩ := id SS
  have hl : lv_has ls 1 [(0, .ref h0)] := hl
  have hS : va_S A s.heap s.heap [] := va_S.rf
  refine lv_aload_n hx hb d_Log_bytes_0 rfl (lv_at hl 0 rfl) ?_
  refine va_get (D := (dC, dI)) (ci := 5) (v := .ref h1) (C := R_Log) (T := F_Log) (N := 7) hx hb hts in_Log hown hK hP 0 rfl rfl 0 (by decide) (hts _ u_92) (fun _ h9 => h9) rfl d_Log_bytes_1 ?_
  exact hret _ _ 4 ls d_Log_bytes_4 (hP.sub [0] rfl) (hD.sub [0] (by decide) rfl) hS
abbrev rm_isKey : Room := { frames := 0, cells := 0, slots := 0, locals := 0 }
set_option maxHeartbeats 4000000 in
set_option maxRecDepth 100000 in
theorem c_isKey (l : Launch) (dC : Nat → ClassId) (dI : Nat → Nat → Nat) (cI : ClassId) (sz : Nat) (k : Nat) (hk : k < 2 ^ 31) : KI l y_Top_isKey w_Top_isKey rm_isKey (dC, dI) CL_ [(cI, .int)] sz [.int (nI k)] [] [] (bI (decide (k < 200))) := by
  refine k_start_z (cc := b_Top_isKey) (maxL := 1) (by decide) (Nat.le_of_ble_eq_true rfl) ?_
  intro p e s m args below meth c A QQ ls SS hK hP hD hA hl hN hret
  obtain ⟨hx, hb, hml, hown, hts⟩ := id SS
  have hl : lv_has ls 1 [(0, .int (nI k))] := hl
  have hS : va_S A s.heap s.heap [] := va_S.rf
  refine lv_iload_n hx hb d_Top_isKey_0 rfl (lv_at hl 0 rfl) ?_
  refine n_if_lt (tgt := 15) hx hb d_Top_isKey_1 (by decide) (by omega) ?_
  refine lv_iload_n hx hb d_Top_isKey_4 rfl (lv_at hl 0 rfl) ?_
  refine lv_sipush (v := nI 200) hx hb d_Top_isKey_5 (by decide) ?_
  refine n_icmp_ge (tgt := 15) hx hb d_Top_isKey_8 (by decide) (by omega) (by omega) (fun c_8 => ?_) (fun c_8 => ?_)
  · skip
    refine lv_iconst (v := bI false) hx hb d_Top_isKey_15 (by decide) ?_
    exact hret false _ _ 16 ls d_Top_isKey_16 (hP.sub [] rfl) (hD.sub [] (by decide) rfl) hS (by first | exact (decide_eq_true (by omega)).symm | exact (decide_eq_false (by omega)).symm)
  · skip
    refine lv_iconst (v := bI true) hx hb d_Top_isKey_11 (by decide) ?_
    refine lv_goto (tgt := 16) hx hb d_Top_isKey_12 (by decide) ?_
    exact hret true _ _ 16 ls d_Top_isKey_16 (hP.sub [] rfl) (hD.sub [] (by decide) rfl) hS (by first | exact (decide_eq_true (by omega)).symm | exact (decide_eq_false (by omega)).symm)
abbrev rm_Log_sizeOf : Room := { frames := 1, cells := 0, slots := 0, locals := 20 }
set_option maxHeartbeats 4000000 in
set_option maxRecDepth 100000 in
theorem c_Log_sizeOf (l : Launch) (dC : Nat → ClassId) (dI : Nat → Nat → Nat) (cI : ClassId) (sz : Nat) (h0 : Nat) (h1 : Nat) (h3 : Nat) (h4 : Nat) (hf : Nat) (ep : Nat) (bl : Nat) (en : Nat) (z : Nat → Option Nat) (k : Nat) (hk : k < 200) : KI l y_Log_sizeOf w_Log_sizeOf rm_Log_sizeOf (dC, dI) CL_ [(cI, .int)] sz [.ref h0, .int (nI k)] [(h0, .inr (5, [.ref h1, .ref h3, .ref h4, .int (nI hf), .int (nI ep), .int (nI bl), .int (nI en)])), (h4, .inl (cI, 200, .inl (oA z)))] [(h0, .inr (5, [.ref h1, .ref h3, .ref h4, .int (nI hf), .int (nI ep), .int (nI bl), .int (nI en)])), (h4, .inl (cI, 200, .inl (oA z)))] (oI (z k)) := by
  refine k_start_i (cc := b_Log_sizeOf) (maxL := 2) (by decide) (Nat.le_of_ble_eq_true rfl) ?_
  intro p e s m args below meth c A QQ ls SS hK hP hD hA hl hN hret
  obtain ⟨hx, hb, hml, hown, hts⟩ := id SS
  have hl : lv_has ls 2 [(0, .ref h0), (1, .int (nI k))] := hl
  have hS : va_S A s.heap s.heap [] := va_S.rf
  refine lv_iload_n hx hb d_Log_sizeOf_0 rfl (lv_at hl 1 rfl) ?_
  refine kj_i (wr := [(h0, .inr (5, [.ref h1, .ref h3, .ref h4, .int (nI hf), .int (nI ep), .int (nI bl), .int (nI en)])), (h4, .inl (cI, 200, .inl (oA z)))]) (va_runSN (As := [.int (nI k)]) (rest := []) SS (c_isKey l dC dI cI s.heap.size k (by omega)) (k_cwN 1 hts hN (List.mem_of_getElem? (i := 6) rfl) u_244 u_35 u_245 rfl rfl (by decide +kernel) ⟨Nat.le_of_ble_eq_true rfl, Nat.le_of_ble_eq_true rfl⟩) (kp_S hN hK [0] rfl hP hD [] rfl (by decide)) rfl rfl hl.1 rfl (lv_room (Nat.le_of_ble_eq_true rfl)) d_Log_sizeOf_1 ⟨Nat.le_of_ble_eq_true rfl, Nat.le_of_ble_eq_true rfl⟩) hP hD hS hA [] [0, 1] rfl rfl (by decide) (by decide) (fun H locs hP hD hS => ?_)
  have hP : va_P (dC, dI) CL_ [(h0, .inr (5, [.ref h1, .ref h3, .ref h4, .int (nI hf), .int (nI ep), .int (nI bl), .int (nI en)])), (h4, .inl (cI, 200, .inl (oA z)))] H := hP
  have hD : va_D A [(h0, .inr (5, [.ref h1, .ref h3, .ref h4, .int (nI hf), .int (nI ep), .int (nI bl), .int (nI en)])), (h4, .inl (cI, 200, .inl (oA z)))] := hD
  refine n_if_eqB (tgt := 16) hx hb d_Log_sizeOf_4 (by decide) (fun c_4 => ?_) (fun c_4 => ?_)
  · exact absurd hk (of_decide_eq_false c_4)
  · skip
    refine lv_aload_n hx hb d_Log_sizeOf_7 rfl (lv_at hl 0 rfl) ?_
    refine va_get (D := (dC, dI)) (ci := 5) (v := .ref h4) (C := R_Log) (T := F_Log) (N := 7) hx hb hts in_Log hown hK hP 0 rfl rfl 2 (by decide) (hts _ u_94) (fun _ h9 => h9) rfl d_Log_sizeOf_8 ?_
    refine lv_iload_n hx hb d_Log_sizeOf_11 rfl (lv_at hl 1 rfl) ?_
    refine n_iald (v := oI (z k)) hx hb hK hP 1 0 rfl rfl rfl (by omega) (by omega) d_Log_sizeOf_12 ?_
    refine lv_goto (tgt := 17) hx hb d_Log_sizeOf_13 (by decide) ?_
    exact hret (oI (z k)) _ _ 17 ls d_Log_sizeOf_17 (hP.sub [0, 1] rfl) (hD.sub [0, 1] (by decide) rfl) hS rfl
abbrev rm_Log_startOf : Room := { frames := 1, cells := 0, slots := 0, locals := 20 }
set_option maxHeartbeats 4000000 in
set_option maxRecDepth 100000 in
theorem c_Log_startOf (l : Launch) (dC : Nat → ClassId) (dI : Nat → Nat → Nat) (cI : ClassId) (sz : Nat) (h0 : Nat) (h1 : Nat) (h3 : Nat) (h4 : Nat) (hf : Nat) (ep : Nat) (bl : Nat) (en : Nat) (st : Nat → Nat) (k : Nat) (hk : k < 200) : KI l y_Log_startOf w_Log_startOf rm_Log_startOf (dC, dI) CL_ [(cI, .int)] sz [.ref h0, .int (nI k)] [(h0, .inr (5, [.ref h1, .ref h3, .ref h4, .int (nI hf), .int (nI ep), .int (nI bl), .int (nI en)])), (h3, .inl (cI, 200, .inl (nA st)))] [(h0, .inr (5, [.ref h1, .ref h3, .ref h4, .int (nI hf), .int (nI ep), .int (nI bl), .int (nI en)])), (h3, .inl (cI, 200, .inl (nA st)))] (nI (st k)) := by
  refine k_start_i (cc := b_Log_startOf) (maxL := 2) (by decide) (Nat.le_of_ble_eq_true rfl) ?_
  intro p e s m args below meth c A QQ ls SS hK hP hD hA hl hN hret
  obtain ⟨hx, hb, hml, hown, hts⟩ := id SS
  have hl : lv_has ls 2 [(0, .ref h0), (1, .int (nI k))] := hl
  have hS : va_S A s.heap s.heap [] := va_S.rf
  refine lv_iload_n hx hb d_Log_startOf_0 rfl (lv_at hl 1 rfl) ?_
  refine kj_i (wr := [(h0, .inr (5, [.ref h1, .ref h3, .ref h4, .int (nI hf), .int (nI ep), .int (nI bl), .int (nI en)])), (h3, .inl (cI, 200, .inl (nA st)))]) (va_runSN (As := [.int (nI k)]) (rest := []) SS (c_isKey l dC dI cI s.heap.size k (by omega)) (k_cwN 1 hts hN (List.mem_of_getElem? (i := 6) rfl) u_244 u_35 u_245 rfl rfl (by decide +kernel) ⟨Nat.le_of_ble_eq_true rfl, Nat.le_of_ble_eq_true rfl⟩) (kp_S hN hK [0] rfl hP hD [] rfl (by decide)) rfl rfl hl.1 rfl (lv_room (Nat.le_of_ble_eq_true rfl)) d_Log_startOf_1 ⟨Nat.le_of_ble_eq_true rfl, Nat.le_of_ble_eq_true rfl⟩) hP hD hS hA [] [0, 1] rfl rfl (by decide) (by decide) (fun H locs hP hD hS => ?_)
  have hP : va_P (dC, dI) CL_ [(h0, .inr (5, [.ref h1, .ref h3, .ref h4, .int (nI hf), .int (nI ep), .int (nI bl), .int (nI en)])), (h3, .inl (cI, 200, .inl (nA st)))] H := hP
  have hD : va_D A [(h0, .inr (5, [.ref h1, .ref h3, .ref h4, .int (nI hf), .int (nI ep), .int (nI bl), .int (nI en)])), (h3, .inl (cI, 200, .inl (nA st)))] := hD
  refine n_if_eqB (tgt := 16) hx hb d_Log_startOf_4 (by decide) (fun c_4 => ?_) (fun c_4 => ?_)
  · exact absurd hk (of_decide_eq_false c_4)
  · skip
    refine lv_aload_n hx hb d_Log_startOf_7 rfl (lv_at hl 0 rfl) ?_
    refine va_get (D := (dC, dI)) (ci := 5) (v := .ref h3) (C := R_Log) (T := F_Log) (N := 7) hx hb hts in_Log hown hK hP 0 rfl rfl 1 (by decide) (hts _ u_93) (fun _ h9 => h9) rfl d_Log_startOf_8 ?_
    refine lv_iload_n hx hb d_Log_startOf_11 rfl (lv_at hl 1 rfl) ?_
    refine n_iald (v := nI (st k)) hx hb hK hP 1 0 rfl rfl rfl (by omega) (by omega) d_Log_startOf_12 ?_
    refine lv_goto (tgt := 17) hx hb d_Log_startOf_13 (by decide) ?_
    exact hret (nI (st k)) _ _ 17 ls d_Log_startOf_17 (hP.sub [0, 1] rfl) (hD.sub [0, 1] (by decide) rfl) hS rfl
abbrev rm_Log_keys : Room := { frames := 0, cells := 0, slots := 0, locals := 0 }
set_option maxHeartbeats 4000000 in
set_option maxRecDepth 100000 in
theorem c_Log_keys (l : Launch) (dC : Nat → ClassId) (dI : Nat → Nat → Nat) (cI : ClassId) (sz : Nat) (h0 : Nat) (h1 : Nat) (h3 : Nat) (h4 : Nat) (hf : Nat) (ep : Nat) (bl : Nat) (en : Nat) (z : Nat → Option Nat) (hz : ∀ k, oSm (z k)) : KI l y_Log_keys w_Log_keys rm_Log_keys (dC, dI) CL_ [(cI, .int)] sz [.ref h0] [(h0, .inr (5, [.ref h1, .ref h3, .ref h4, .int (nI hf), .int (nI ep), .int (nI bl), .int (nI en)])), (h4, .inl (cI, 200, .inl (oA z)))] [(h0, .inr (5, [.ref h1, .ref h3, .ref h4, .int (nI hf), .int (nI ep), .int (nI bl), .int (nI en)])), (h4, .inl (cI, 200, .inl (oA z)))] (nI (cntN z 200)) := by
  refine k_start_i (cc := b_Log_keys) (maxL := 3) (by decide) (Nat.le_of_ble_eq_true rfl) ?_
  intro p e s m args below meth c A QQ ls SS hK hP hD hA hl hN hret
  obtain ⟨hx, hb, hml, hown, hts⟩ := id SS
  have hl : lv_has ls 3 [(0, .ref h0)] := hl
  have hS : va_S A s.heap s.heap [] := va_S.rf
  refine lv_iconst (v := nI 0) hx hb d_Log_keys_0 (by decide) ?_
  refine lv_istore_n (lv' := [(1, .int (nI 0)), (0, .ref h0)]) hx hb d_Log_keys_1 rfl hl (by decide) rfl (fun ls hl => ?_)
  refine lv_iconst (v := nI 0) hx hb d_Log_keys_2 (by decide) ?_
  refine lv_istore_n (lv' := [(2, .int (nI 0)), (1, .int (nI 0)), (0, .ref h0)]) hx hb d_Log_keys_3 rfl hl (by decide) rfl (fun ls hl => ?_)
  have loop_4 : ∀ (n_ : Nat) (i : Nat), (i ≤ 200) → (201 ≤ i + n_) → ∀ (H : Heap) (locs : List Loc) (ls : Array Slot), va_P (dC, dI) CL_ [(h0, .inr (5, [.ref h1, .ref h3, .ref h4, .int (nI hf), .int (nI ep), .int (nI bl), .int (nI en)])), (h4, .inl (cI, 200, .inl (oA z)))] H → va_D A [(h0, .inr (5, [.ref h1, .ref h3, .ref h4, .int (nI hf), .int (nI ep), .int (nI bl), .int (nI en)])), (h4, .inl (cI, 200, .inl (oA z)))] → va_S A s.heap H locs → lv_has ls 3 [(0, .ref h0), (1, .int (nI (cntN z i))), (2, .int (nI i))] → W p l e rm_Log_keys s m args below meth c H locs 0 0 QQ (F0 m 4 ls []) := by
    intro n_
    induction n_ with
    | zero =>
      intro i hi hf2
      exact absurd hf2 (by omega)
    | succ n_ ih =>
      intro i hi hf2 H locs ls hP hD hS hl
      refine lv_iload_n hx hb d_Log_keys_4 rfl (lv_at hl 2 rfl) ?_
      refine lv_sipush (v := nI 200) hx hb d_Log_keys_5 (by decide) ?_
      refine n_icmp_ge (tgt := 30) hx hb d_Log_keys_8 (by decide) (by omega) (by omega) (fun c_8 => ?_) (fun c_8 => ?_)
      · skip
        have hq : i = 200 := by omega
        refine lv_iload_n hx hb d_Log_keys_30 rfl (lv_at hl 1 rfl) ?_
        exact hret (nI (cntN z i)) _ _ 31 ls d_Log_keys_31 (hP.sub [0, 1] rfl) (hD.sub [0, 1] (by decide) rfl) hS (by rw [hq])
      · skip
        refine lv_aload_n hx hb d_Log_keys_11 rfl (lv_at hl 0 rfl) ?_
        refine va_get (D := (dC, dI)) (ci := 5) (v := .ref h4) (C := R_Log) (T := F_Log) (N := 7) hx hb hts in_Log hown hK hP 0 rfl rfl 2 (by decide) (hts _ u_94) (fun _ h9 => h9) rfl d_Log_keys_12 ?_
        refine lv_iload_n hx hb d_Log_keys_15 rfl (lv_at hl 2 rfl) ?_
        refine n_iald (v := oI (z i)) hx hb hK hP 1 0 rfl rfl rfl (by omega) (by omega) d_Log_keys_16 ?_
        refine lv_iconst (v := (-1)) hx hb d_Log_keys_17 (by decide) ?_
        refine n_icmp_eqO (tgt := 24) hx hb d_Log_keys_18 (by decide) (hz i) (fun c_18 => ?_) (fun c_18 => ?_)
        · skip
          refine lv_iinc (v := nI (i + 1)) (lv' := [(2, .int (nI (i + 1))), (0, .ref h0), (1, .int (nI (cntN z i)))]) hx hb d_Log_keys_24 hl (k := 2) rfl (inc1 i) (by decide) rfl (fun ls hl => ?_)
          refine lv_goto (tgt := 4) hx hb d_Log_keys_27 (by decide) ?_
          first | (have e9 : cntN z i = cntN z (i + 1) := (by rw [cntN, if_pos c_18, Nat.add_zero]); rw [e9] at hl) | (have e9 : cntN z i + 1 = cntN z (i + 1) := (by rw [cntN, if_neg c_18]); rw [e9] at hl)
          exact ih (i + 1) (by omega) (by omega) _ _ _ (hP.sub [0, 1] rfl) (hD.sub [0, 1] (by decide) rfl) hS (lv_sub hl [1, 2, 0] rfl)
        · skip
          refine lv_iinc (v := nI ((cntN z i) + 1)) (lv' := [(1, .int (nI ((cntN z i) + 1))), (0, .ref h0), (2, .int (nI i))]) hx hb d_Log_keys_21 hl (k := 1) rfl (inc1 (cntN z i)) (by decide) rfl (fun ls hl => ?_)
          refine lv_iinc (v := nI (i + 1)) (lv' := [(2, .int (nI (i + 1))), (1, .int (nI ((cntN z i) + 1))), (0, .ref h0)]) hx hb d_Log_keys_24 hl (k := 2) rfl (inc1 i) (by decide) rfl (fun ls hl => ?_)
          refine lv_goto (tgt := 4) hx hb d_Log_keys_27 (by decide) ?_
          first | (have e9 : cntN z i = cntN z (i + 1) := (by rw [cntN, if_pos c_18, Nat.add_zero]); rw [e9] at hl) | (have e9 : cntN z i + 1 = cntN z (i + 1) := (by rw [cntN, if_neg c_18]); rw [e9] at hl)
          exact ih (i + 1) (by omega) (by omega) _ _ _ (hP.sub [0, 1] rfl) (hD.sub [0, 1] (by decide) rfl) hS (lv_sub hl [2, 1, 0] rfl)
  exact loop_4 201 0 (by omega) (by omega) _ _ _ (hP.sub [0, 1] rfl) (hD.sub [0, 1] (by decide) rfl) hS (lv_sub hl [2, 1, 0] rfl)
abbrev rm_Log_clear : Room := { frames := 1, cells := 0, slots := 0, locals := 20 }
set_option maxHeartbeats 4000000 in
set_option maxRecDepth 100000 in
theorem c_Log_clear (l : Launch) (dC : Nat → ClassId) (dI : Nat → Nat → Nat) (cI : ClassId) (sz : Nat) (h0 : Nat) (h1 : Nat) (h3 : Nat) (h4 : Nat) (hf : Nat) (ep : Nat) (bl : Nat) (en : Nat) (h2 : Nat) (rb : Nat → Nat) (u : Nat) (z : Nat → Option Nat)  : KV l y_Log_clear w_Log_clear rm_Log_clear (dC, dI) CL_ [(cI, .int)] sz [.ref h0] [(h0, .inr (5, [.ref h1, .ref h3, .ref h4, .int (nI hf), .int (nI ep), .int (nI bl), .int (nI en)])), (h1, .inr (0, [.ref h2, .int (nI u)])), (h2, .inl (cI, 2470, .inl (nA rb))), (h4, .inl (cI, 200, .inl (oA z)))] [(h0, .inr (5, [.ref h1, .ref h3, .ref h4, .int (nI hf), .int (nI ep), .int (nI 0), .int (nI 0)])), (h1, .inr (0, [.ref h2, .int (nI 0)])), (h2, .inl (cI, 2470, .inl (nA rb))), (h4, .inl (cI, 200, .inl (oA (noneO z 200))))] := by
  refine k_start_v (cc := b_Log_clear) (maxL := 2) (by decide) (Nat.le_of_ble_eq_true rfl) ?_
  intro p e s m args below meth c A QQ ls SS hK hP hD hA hl hN hret
  obtain ⟨hx, hb, hml, hown, hts⟩ := id SS
  have hl : lv_has ls 2 [(0, .ref h0)] := hl
  have hS : va_S A s.heap s.heap [] := va_S.rf
  refine lv_aload_n hx hb d_Log_clear_0 rfl (lv_at hl 0 rfl) ?_
  refine va_get (D := (dC, dI)) (ci := 5) (v := .ref h1) (C := R_Log) (T := F_Log) (N := 7) hx hb hts in_Log hown hK hP 0 rfl rfl 0 (by decide) (hts _ u_92) (fun _ h9 => h9) rfl d_Log_clear_1 ?_
  refine kj_v (wr := [(h0, .inr (5, [.ref h1, .ref h3, .ref h4, .int (nI hf), .int (nI ep), .int (nI bl), .int (nI en)])), (h4, .inl (cI, 200, .inl (oA z)))]) (va_runV (As := []) (rest := []) SS (c_Row_clear l dC dI cI s.heap.size h1 h2 2470 rb u ) (k_cwV 0 hts u_192 u_193 u_194 u_38 u_195 rfl rfl (by decide +kernel) ⟨Nat.le_of_ble_eq_true rfl, Nat.le_of_ble_eq_true rfl⟩) (kp_V hN hK [0] rfl hP hD [1, 2] rfl (by decide) (ci := 0) rfl 0 rfl) rfl rfl hl.1 rfl (lv_room (Nat.le_of_ble_eq_true rfl)) d_Log_clear_4 ⟨Nat.le_of_ble_eq_true rfl, Nat.le_of_ble_eq_true rfl⟩) hP hD hS hA [1, 2] [0, 3] rfl rfl (by decide) (by decide) (fun H locs hP hD hS => ?_)
  have hP : va_P (dC, dI) CL_ [(h0, .inr (5, [.ref h1, .ref h3, .ref h4, .int (nI hf), .int (nI ep), .int (nI bl), .int (nI en)])), (h4, .inl (cI, 200, .inl (oA z))), (h1, .inr (0, [.ref h2, .int (nI 0)])), (h2, .inl (cI, 2470, .inl (nA rb)))] H := hP
  have hD : va_D A [(h0, .inr (5, [.ref h1, .ref h3, .ref h4, .int (nI hf), .int (nI ep), .int (nI bl), .int (nI en)])), (h4, .inl (cI, 200, .inl (oA z))), (h1, .inr (0, [.ref h2, .int (nI 0)])), (h2, .inl (cI, 2470, .inl (nA rb)))] := hD
  refine lv_aload_n hx hb d_Log_clear_7 rfl (lv_at hl 0 rfl) ?_
  refine lv_iconst (v := nI 0) hx hb d_Log_clear_8 (by decide) ?_
  refine va_put (D := (dC, dI)) (ci := 5) (v := .int (nI 0)) (ty := .int) (C := R_Log) (T := F_Log) (N := 7) hx hb hts in_Log ty_Log tok_Log nm_Log hown hK hP hD hS 0 rfl rfl 5 (by decide) (hts _ u_97) (fun _ h9 => h9) rfl (by decide +kernel) rfl rfl (Nat.le_of_ble_eq_true rfl) d_Log_clear_9 (fun H locs hP hD hS => ?_)
  have hP : va_P (dC, dI) CL_ [(h0, .inr (5, [.ref h1, .ref h3, .ref h4, .int (nI hf), .int (nI ep), .int (nI 0), .int (nI en)])), (h4, .inl (cI, 200, .inl (oA z))), (h1, .inr (0, [.ref h2, .int (nI 0)])), (h2, .inl (cI, 2470, .inl (nA rb)))] H := hP
  have hD : va_D A [(h0, .inr (5, [.ref h1, .ref h3, .ref h4, .int (nI hf), .int (nI ep), .int (nI 0), .int (nI en)])), (h4, .inl (cI, 200, .inl (oA z))), (h1, .inr (0, [.ref h2, .int (nI 0)])), (h2, .inl (cI, 2470, .inl (nA rb)))] := hD
  refine lv_aload_n hx hb d_Log_clear_12 rfl (lv_at hl 0 rfl) ?_
  refine lv_iconst (v := nI 0) hx hb d_Log_clear_13 (by decide) ?_
  refine va_put (D := (dC, dI)) (ci := 5) (v := .int (nI 0)) (ty := .int) (C := R_Log) (T := F_Log) (N := 7) hx hb hts in_Log ty_Log tok_Log nm_Log hown hK hP hD hS 0 rfl rfl 6 (by decide) (hts _ u_98) (fun _ h9 => h9) rfl (by decide +kernel) rfl rfl (Nat.le_of_ble_eq_true rfl) d_Log_clear_14 (fun H locs hP hD hS => ?_)
  have hP : va_P (dC, dI) CL_ [(h0, .inr (5, [.ref h1, .ref h3, .ref h4, .int (nI hf), .int (nI ep), .int (nI 0), .int (nI 0)])), (h4, .inl (cI, 200, .inl (oA z))), (h1, .inr (0, [.ref h2, .int (nI 0)])), (h2, .inl (cI, 2470, .inl (nA rb)))] H := hP
  have hD : va_D A [(h0, .inr (5, [.ref h1, .ref h3, .ref h4, .int (nI hf), .int (nI ep), .int (nI 0), .int (nI 0)])), (h4, .inl (cI, 200, .inl (oA z))), (h1, .inr (0, [.ref h2, .int (nI 0)])), (h2, .inl (cI, 2470, .inl (nA rb)))] := hD
  refine lv_iconst (v := nI 0) hx hb d_Log_clear_17 (by decide) ?_
  refine lv_istore_n (lv' := [(1, .int (nI 0)), (0, .ref h0)]) hx hb d_Log_clear_18 rfl hl (by decide) rfl (fun ls hl => ?_)
  have loop_19 : ∀ (n_ : Nat) (i : Nat), (i ≤ 200) → (201 ≤ i + n_) → ∀ (H : Heap) (locs : List Loc) (ls : Array Slot), va_P (dC, dI) CL_ [(h0, .inr (5, [.ref h1, .ref h3, .ref h4, .int (nI hf), .int (nI ep), .int (nI 0), .int (nI 0)])), (h1, .inr (0, [.ref h2, .int (nI 0)])), (h2, .inl (cI, 2470, .inl (nA rb))), (h4, .inl (cI, 200, .inl (oA (noneO z i))))] H → va_D A [(h0, .inr (5, [.ref h1, .ref h3, .ref h4, .int (nI hf), .int (nI ep), .int (nI 0), .int (nI 0)])), (h1, .inr (0, [.ref h2, .int (nI 0)])), (h2, .inl (cI, 2470, .inl (nA rb))), (h4, .inl (cI, 200, .inl (oA (noneO z i))))] → va_S A s.heap H locs → lv_has ls 2 [(0, .ref h0), (1, .int (nI i))] → W p l e rm_Log_clear s m args below meth c H locs 0 0 QQ (F0 m 19 ls []) := by
    intro n_
    induction n_ with
    | zero =>
      intro i hi hf2
      exact absurd hf2 (by omega)
    | succ n_ ih =>
      intro i hi hf2 H locs ls hP hD hS hl
      refine lv_iload_n hx hb d_Log_clear_19 rfl (lv_at hl 1 rfl) ?_
      refine lv_sipush (v := nI 200) hx hb d_Log_clear_20 (by decide) ?_
      refine n_icmp_ge (tgt := 39) hx hb d_Log_clear_23 (by decide) (by omega) (by omega) (fun c_23 => ?_) (fun c_23 => ?_)
      · skip
        have hq : i = 200 := by omega
        rw [hq] at hP hD
        exact hret _ _ 39 ls d_Log_clear_39 (hP.sub [0, 1, 2, 3] rfl) (hD.sub [0, 1, 2, 3] (by decide) rfl) hS
      · skip
        refine lv_aload_n hx hb d_Log_clear_26 rfl (lv_at hl 0 rfl) ?_
        refine va_get (D := (dC, dI)) (ci := 5) (v := .ref h4) (C := R_Log) (T := F_Log) (N := 7) hx hb hts in_Log hown hK hP 0 rfl rfl 2 (by decide) (hts _ u_94) (fun _ h9 => h9) rfl d_Log_clear_27 ?_
        refine lv_iload_n hx hb d_Log_clear_30 rfl (lv_at hl 1 rfl) ?_
        refine lv_iconst (v := (-1)) hx hb d_Log_clear_31 (by decide) ?_
        refine n_iast (f' := oA (updO (noneO z i) i none)) hx hb hK hP hD hS 3 0 rfl rfl (oA_upd _ _ none) (by omega) (by omega) d_Log_clear_32 (fun H locs hP hD hS => ?_)
        have hP : va_P (dC, dI) CL_ [(h0, .inr (5, [.ref h1, .ref h3, .ref h4, .int (nI hf), .int (nI ep), .int (nI 0), .int (nI 0)])), (h1, .inr (0, [.ref h2, .int (nI 0)])), (h2, .inl (cI, 2470, .inl (nA rb))), (h4, .inl (cI, 200, .inl (oA (updO (noneO z i) i none))))] H := hP
        have hD : va_D A [(h0, .inr (5, [.ref h1, .ref h3, .ref h4, .int (nI hf), .int (nI ep), .int (nI 0), .int (nI 0)])), (h1, .inr (0, [.ref h2, .int (nI 0)])), (h2, .inl (cI, 2470, .inl (nA rb))), (h4, .inl (cI, 200, .inl (oA (updO (noneO z i) i none))))] := hD
        refine lv_iinc (v := nI (i + 1)) (lv' := [(1, .int (nI (i + 1))), (0, .ref h0)]) hx hb d_Log_clear_33 hl (k := 1) rfl (inc1 i) (by decide) rfl (fun ls hl => ?_)
        refine lv_goto (tgt := 19) hx hb d_Log_clear_36 (by decide) ?_
        rw [noneO_s z i] at hP hD
        exact ih (i + 1) (by omega) (by omega) _ _ _ (hP.sub [0, 1, 2, 3] rfl) (hD.sub [0, 1, 2, 3] (by decide) rfl) hS (lv_sub hl [1, 0] rfl)
  rw [← noneO_0 z] at hP hD
  exact loop_19 201 0 (by omega) (by omega) _ _ _ (hP.sub [0, 2, 3, 1] rfl) (hD.sub [0, 2, 3, 1] (by decide) rfl) hS (lv_sub hl [1, 0] rfl)
abbrev rm_Log_addData : Room := { frames := 1, cells := 0, slots := 0, locals := 21 }
set_option maxHeartbeats 4000000 in
set_option maxRecDepth 100000 in
theorem c_Log_addData (l : Launch) (dC : Nat → ClassId) (dI : Nat → Nat → Nat) (cI : ClassId) (sz : Nat) (h0 : Nat) (h1 : Nat) (h3 : Nat) (h4 : Nat) (hf : Nat) (ep : Nat) (bl : Nat) (en : Nat) (h2 : Nat) (rb : Nat → Nat) (u : Nat) (d0 : Nat) (d1 : Nat) (d : Nat → Nat) (o : Nat) (ho : o + 32 ≤ 6144) (hm26 : d (o + 2) % 64 ≤ 26) (hu2 : u + d (o + 2) % 64 ≤ 2470) (hdb : ∀ j, d j < 256) : KV l y_Log_addData w_Log_addData rm_Log_addData (dC, dI) CL_ [(cI, .int)] sz [.ref h0, .ref d0, .int (nI o)] [(h0, .inr (5, [.ref h1, .ref h3, .ref h4, .int (nI hf), .int (nI ep), .int (nI bl), .int (nI en)])), (h1, .inr (0, [.ref h2, .int (nI u)])), (h2, .inl (cI, 2470, .inl (nA rb))), (d0, .inr (3, [.ref d1])), (d1, .inl (cI, 6144, .inl (nA d)))] [(h0, .inr (5, [.ref h1, .ref h3, .ref h4, .int (nI hf), .int (nI ep), .int (nI bl), .int (nI en)])), (h1, .inr (0, [.ref h2, .int (nI (u + d (o + 2) % 64))])), (h2, .inl (cI, 2470, .inl (nA (fillN rb u (fun i => d (o + 6 + i)) (d (o + 2) % 64))))), (d0, .inr (3, [.ref d1])), (d1, .inl (cI, 6144, .inl (nA d)))] := by
  refine k_start_v (cc := b_Log_addData) (maxL := 5) (by decide) (Nat.le_of_ble_eq_true rfl) ?_
  intro p e s m args below meth c A QQ ls SS hK hP hD hA hl hN hret
  obtain ⟨hx, hb, hml, hown, hts⟩ := id SS
  have hl : lv_has ls 5 [(0, .ref h0), (1, .ref d0), (2, .int (nI o))] := hl
  have hS : va_S A s.heap s.heap [] := va_S.rf
  refine lv_aload_n hx hb d_Log_addData_0 rfl (lv_at hl 1 rfl) ?_
  refine lv_iload_n hx hb d_Log_addData_1 rfl (lv_at hl 2 rfl) ?_
  refine lv_iconst (v := nI 2) hx hb d_Log_addData_2 (by decide) ?_
  refine n_iadd hx hb d_Log_addData_3 ?_
  refine kj_i (wr := [(h0, .inr (5, [.ref h1, .ref h3, .ref h4, .int (nI hf), .int (nI ep), .int (nI bl), .int (nI en)])), (h1, .inr (0, [.ref h2, .int (nI u)])), (h2, .inl (cI, 2470, .inl (nA rb)))]) (va_runV (As := [.int (nI (o + 2))]) (rest := []) SS (c_Disk_byteAt l dC dI cI s.heap.size d0 d1 d (o + 2) (by omega)) (k_cwV 1 hts u_229 u_205 u_206 u_36 u_207 rfl rfl (by decide +kernel) ⟨Nat.le_of_ble_eq_true rfl, Nat.le_of_ble_eq_true rfl⟩) (kp_V hN hK [0] rfl hP hD [3, 4] rfl (by decide) (ci := 3) rfl 0 rfl) rfl rfl hl.1 rfl (lv_room (Nat.le_of_ble_eq_true rfl)) d_Log_addData_4 ⟨Nat.le_of_ble_eq_true rfl, Nat.le_of_ble_eq_true rfl⟩) hP hD hS hA [3, 4] [0, 1, 2] rfl rfl (by decide) (by decide) (fun H locs hP hD hS => ?_)
  have hP : va_P (dC, dI) CL_ [(h0, .inr (5, [.ref h1, .ref h3, .ref h4, .int (nI hf), .int (nI ep), .int (nI bl), .int (nI en)])), (h1, .inr (0, [.ref h2, .int (nI u)])), (h2, .inl (cI, 2470, .inl (nA rb))), (d0, .inr (3, [.ref d1])), (d1, .inl (cI, 6144, .inl (nA d)))] H := hP
  have hD : va_D A [(h0, .inr (5, [.ref h1, .ref h3, .ref h4, .int (nI hf), .int (nI ep), .int (nI bl), .int (nI en)])), (h1, .inr (0, [.ref h2, .int (nI u)])), (h2, .inl (cI, 2470, .inl (nA rb))), (d0, .inr (3, [.ref d1])), (d1, .inl (cI, 6144, .inl (nA d)))] := hD
  refine lv_bipush (v := nI 63) hx hb d_Log_addData_7 (by decide) ?_
  refine n_iandm6 hx hb d_Log_addData_9 ?_
  refine lv_istore_n (lv' := [(3, .int (nI ((d (o + 2)) % 64))), (0, .ref h0), (1, .ref d0), (2, .int (nI o))]) hx hb d_Log_addData_10 rfl hl (by decide) rfl (fun ls hl => ?_)
  refine lv_iconst (v := nI 0) hx hb d_Log_addData_11 (by decide) ?_
  refine lv_istore (lv' := [(4, .int (nI 0)), (3, .int (nI ((d (o + 2)) % 64))), (0, .ref h0), (1, .ref d0), (2, .int (nI o))]) hx hb d_Log_addData_12 hl (by decide) rfl (fun ls hl => ?_)
  have loop_14 : ∀ (n_ : Nat) (i : Nat), (i ≤ d (o + 2) % 64) → (d (o + 2) % 64 + 1 ≤ i + n_) → ∀ (H : Heap) (locs : List Loc) (ls : Array Slot), va_P (dC, dI) CL_ [(h0, .inr (5, [.ref h1, .ref h3, .ref h4, .int (nI hf), .int (nI ep), .int (nI bl), .int (nI en)])), (h1, .inr (0, [.ref h2, .int (nI (u + i))])), (h2, .inl (cI, 2470, .inl (nA (fillN rb u (fun i => d (o + 6 + i)) i)))), (d0, .inr (3, [.ref d1])), (d1, .inl (cI, 6144, .inl (nA d)))] H → va_D A [(h0, .inr (5, [.ref h1, .ref h3, .ref h4, .int (nI hf), .int (nI ep), .int (nI bl), .int (nI en)])), (h1, .inr (0, [.ref h2, .int (nI (u + i))])), (h2, .inl (cI, 2470, .inl (nA (fillN rb u (fun i => d (o + 6 + i)) i)))), (d0, .inr (3, [.ref d1])), (d1, .inl (cI, 6144, .inl (nA d)))] → va_S A s.heap H locs → lv_has ls 5 [(0, .ref h0), (1, .ref d0), (2, .int (nI o)), (3, .int (nI (d (o + 2) % 64))), (4, .int (nI i))] → W p l e rm_Log_addData s m args below meth c H locs 0 0 QQ (F0 m 14 ls []) := by
    intro n_
    induction n_ with
    | zero =>
      intro i hi hf2
      exact absurd hf2 (by omega)
    | succ n_ ih =>
      intro i hi hf2 H locs ls hP hD hS hl
      refine lv_iload hx hb d_Log_addData_14 (lv_at hl 4 rfl) ?_
      refine lv_iload_n hx hb d_Log_addData_16 rfl (lv_at hl 3 rfl) ?_
      refine n_icmp_ge (tgt := 44) hx hb d_Log_addData_17 (by decide) (by omega) (by omega) (fun c_17 => ?_) (fun c_17 => ?_)
      · skip
        have hq : i = d (o + 2) % 64 := by omega
        rw [hq] at hP hD
        exact hret _ _ 44 ls d_Log_addData_44 (hP.sub [0, 1, 2, 3, 4] rfl) (hD.sub [0, 1, 2, 3, 4] (by decide) rfl) hS
      · skip
        refine lv_aload_n hx hb d_Log_addData_20 rfl (lv_at hl 0 rfl) ?_
        refine va_get (D := (dC, dI)) (ci := 5) (v := .ref h1) (C := R_Log) (T := F_Log) (N := 7) hx hb hts in_Log hown hK hP 0 rfl rfl 0 (by decide) (hts _ u_92) (fun _ h9 => h9) rfl d_Log_addData_21 ?_
        refine lv_aload_n hx hb d_Log_addData_24 rfl (lv_at hl 1 rfl) ?_
        refine lv_iload_n hx hb d_Log_addData_25 rfl (lv_at hl 2 rfl) ?_
        refine lv_bipush (v := nI 6) hx hb d_Log_addData_26 (by decide) ?_
        refine n_iadd hx hb d_Log_addData_28 ?_
        refine lv_iload hx hb d_Log_addData_29 (lv_at hl 4 rfl) ?_
        refine n_iadd hx hb d_Log_addData_31 ?_
        refine kj_i (wr := [(h0, .inr (5, [.ref h1, .ref h3, .ref h4, .int (nI hf), .int (nI ep), .int (nI bl), .int (nI en)])), (h1, .inr (0, [.ref h2, .int (nI (u + i))])), (h2, .inl (cI, 2470, .inl (nA (fillN rb u (fun i => d (o + 6 + i)) i))))]) (va_runV (As := [.int (nI ((o + 6) + i))]) (rest := [.ref h1]) SS (c_Disk_byteAt l dC dI cI H.size d0 d1 d ((o + 6) + i) (by omega)) (k_cwV 1 hts u_229 u_205 u_206 u_36 u_207 rfl rfl (by decide +kernel) ⟨Nat.le_of_ble_eq_true rfl, Nat.le_of_ble_eq_true rfl⟩) (kp_V hN hK [0] rfl hP hD [3, 4] rfl (by decide) (ci := 3) rfl 0 rfl) rfl rfl hl.1 rfl (lv_room (Nat.le_of_ble_eq_true rfl)) d_Log_addData_32 ⟨Nat.le_of_ble_eq_true rfl, Nat.le_of_ble_eq_true rfl⟩) hP hD hS hA [3, 4] [0, 1, 2] rfl rfl (by decide) (by decide) (fun H locs hP hD hS => ?_)
        have hP : va_P (dC, dI) CL_ [(h0, .inr (5, [.ref h1, .ref h3, .ref h4, .int (nI hf), .int (nI ep), .int (nI bl), .int (nI en)])), (h1, .inr (0, [.ref h2, .int (nI (u + i))])), (h2, .inl (cI, 2470, .inl (nA (fillN rb u (fun i => d (o + 6 + i)) i)))), (d0, .inr (3, [.ref d1])), (d1, .inl (cI, 6144, .inl (nA d)))] H := hP
        have hD : va_D A [(h0, .inr (5, [.ref h1, .ref h3, .ref h4, .int (nI hf), .int (nI ep), .int (nI bl), .int (nI en)])), (h1, .inr (0, [.ref h2, .int (nI (u + i))])), (h2, .inl (cI, 2470, .inl (nA (fillN rb u (fun i => d (o + 6 + i)) i)))), (d0, .inr (3, [.ref d1])), (d1, .inl (cI, 6144, .inl (nA d)))] := hD
        refine kj_v (wr := [(h0, .inr (5, [.ref h1, .ref h3, .ref h4, .int (nI hf), .int (nI ep), .int (nI bl), .int (nI en)])), (d0, .inr (3, [.ref d1])), (d1, .inl (cI, 6144, .inl (nA d)))]) (va_runV (As := [.int (nI (d ((o + 6) + i)))]) (rest := []) SS (c_Row_add l dC dI cI H.size h1 h2 2470 (fillN rb u (fun i => d (o + 6 + i)) i) (u + i) (d ((o + 6) + i)) (by omega) (by omega) (hdb _)) (k_cwV 1 hts u_230 u_125 u_126 u_38 u_127 rfl rfl (by decide +kernel) ⟨Nat.le_of_ble_eq_true rfl, Nat.le_of_ble_eq_true rfl⟩) (kp_V hN hK [0] rfl hP hD [1, 2] rfl (by decide) (ci := 0) rfl 0 rfl) rfl rfl hl.1 rfl (lv_room (Nat.le_of_ble_eq_true rfl)) d_Log_addData_35 ⟨Nat.le_of_ble_eq_true rfl, Nat.le_of_ble_eq_true rfl⟩) hP hD hS hA [1, 2] [0, 3, 4] rfl rfl (by decide) (by decide) (fun H locs hP hD hS => ?_)
        have hP : va_P (dC, dI) CL_ [(h0, .inr (5, [.ref h1, .ref h3, .ref h4, .int (nI hf), .int (nI ep), .int (nI bl), .int (nI en)])), (d0, .inr (3, [.ref d1])), (d1, .inl (cI, 6144, .inl (nA d))), (h1, .inr (0, [.ref h2, .int (nI ((u + i) + 1))])), (h2, .inl (cI, 2470, .inl (nA (updN (fillN rb u (fun i => d (o + 6 + i)) i) (u + i) (d ((o + 6) + i))))))] H := hP
        have hD : va_D A [(h0, .inr (5, [.ref h1, .ref h3, .ref h4, .int (nI hf), .int (nI ep), .int (nI bl), .int (nI en)])), (d0, .inr (3, [.ref d1])), (d1, .inl (cI, 6144, .inl (nA d))), (h1, .inr (0, [.ref h2, .int (nI ((u + i) + 1))])), (h2, .inl (cI, 2470, .inl (nA (updN (fillN rb u (fun i => d (o + 6 + i)) i) (u + i) (d ((o + 6) + i))))))] := hD
        refine lv_iinc (v := nI (i + 1)) (lv' := [(4, .int (nI (i + 1))), (0, .ref h0), (1, .ref d0), (2, .int (nI o)), (3, .int (nI (d (o + 2) % 64)))]) hx hb d_Log_addData_38 hl (k := 4) rfl (inc1 i) (by decide) rfl (fun ls hl => ?_)
        refine lv_goto (tgt := 14) hx hb d_Log_addData_41 (by decide) ?_
        have e9 : updN (fillN rb u (fun i => d (o + 6 + i)) i) (u + i) (d (o + 6 + i)) = fillN rb u (fun i => d (o + 6 + i)) (i + 1) := fillN_s _ _ _ _
        rw [e9] at hP hD
        exact ih (i + 1) (by omega) (by omega) _ _ _ (hP.sub [0, 3, 4, 1, 2] rfl) (hD.sub [0, 3, 4, 1, 2] (by decide) rfl) hS (lv_sub hl [1, 2, 3, 4, 0] rfl)
  rw [← fillN_0 rb u (fun i => d (o + 6 + i))] at hP hD
  exact loop_14 (d (o + 2) % 64 + 1) 0 (by omega) (by omega) _ _ _ (hP.sub [0, 1, 2, 3, 4] rfl) (hD.sub [0, 1, 2, 3, 4] (by decide) rfl) hS (lv_sub hl [2, 3, 4, 1, 0] rfl)
