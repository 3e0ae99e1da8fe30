abbrev rm_Log_findLiveHalf : Room := { frames := 3, cells := 0, slots := 0, locals := 67 }
set_option maxHeartbeats 4000000 in
set_option maxRecDepth 100000 in
theorem c_Log_findLiveHalf (l : Launch) (dC : Nat → ClassId) (dI : Nat → Nat → Nat) (cI : ClassId) (sz : Nat) (h0 : Nat) (h1 : Nat) (h3 : Nat) (h4 : Nat) (hf : Nat) (ep : Nat) (bl : Nat) (en : Nat) (d0 : Nat) (d1 : Nat) (d : Nat → Nat) (hdb : ∀ j, d j < 256) : KV l y_Log_findLiveHalf w_Log_findLiveHalf rm_Log_findLiveHalf (dC, dI) CL_ [(cI, .int)] sz [.ref h0, .ref d0] [(h0, .inr (5, [.ref h1, .ref h3, .ref h4, .int (nI hf), .int (nI ep), .int (nI bl), .int (nI en)])), (d0, .inr (3, [.ref d1])), (d1, .inl (cI, 6144, .inl (nA d)))] [(h0, .inr (5, [.ref h1, .ref h3, .ref h4, .int (nI (liveH d)), .int (nI (liveE d)), .int (nI bl), .int (nI en)])), (d0, .inr (3, [.ref d1])), (d1, .inl (cI, 6144, .inl (nA d)))] := by
  refine k_start_v (cc := b_Log_findLiveHalf) (maxL := 6) (by decide) (Nat.le_of_ble_eq_true rfl) ?_
  intro p e s m args below meth c A QQ ls SS hK hP hD hA hl hN hret
  obtain ⟨hx, hb, hml, hown, hts⟩ := id SS
  have hl : lv_has ls 6 [(0, .ref h0), (1, .ref d0)] := hl
  have hS : va_S A s.heap s.heap [] := va_S.rf
  have hp0 := pairN_b hdb (0 * 32)
  have hp1 := pairN_b hdb (96 * 32)
  refine lv_aload_n hx hb d_Log_findLiveHalf_0 rfl (lv_at hl 1 rfl) ?_
  refine lv_iconst (v := nI 0) hx hb d_Log_findLiveHalf_1 (by decide) ?_
  refine kj_i (wr := [(h0, .inr (5, [.ref h1, .ref h3, .ref h4, .int (nI hf), .int (nI ep), .int (nI bl), .int (nI en)]))]) (va_runV (As := [.int (nI 0)]) (rest := []) SS (c_Disk_isHead l dC dI cI s.heap.size d0 d1 d 0 (by omega) hdb) (k_cwV 1 hts u_200 u_201 u_202 u_36 u_203 rfl rfl (by decide +kernel) ⟨Nat.le_of_ble_eq_true rfl, Nat.le_of_ble_eq_true rfl⟩) (kp_V hN hK [0] rfl hP hD [1, 2] rfl (by decide) (ci := 3) rfl 0 rfl) rfl rfl hl.1 rfl (lv_room (Nat.le_of_ble_eq_true rfl)) d_Log_findLiveHalf_2 ⟨Nat.le_of_ble_eq_true rfl, Nat.le_of_ble_eq_true rfl⟩) hP hD hS hA [1, 2] [0] rfl rfl (by decide) (by decide) (fun H locs hP hD hS => ?_)
  have hP : va_P (dC, dI) CL_ [(h0, .inr (5, [.ref h1, .ref h3, .ref h4, .int (nI hf), .int (nI ep), .int (nI bl), .int (nI en)])), (d0, .inr (3, [.ref d1])), (d1, .inl (cI, 6144, .inl (nA d)))] H := hP
  have hD : va_D A [(h0, .inr (5, [.ref h1, .ref h3, .ref h4, .int (nI hf), .int (nI ep), .int (nI bl), .int (nI en)])), (d0, .inr (3, [.ref d1])), (d1, .inl (cI, 6144, .inl (nA d)))] := hD
  refine lv_istore_n (lv' := [(2, .int (bI (isHeadN d (0 * 32)))), (0, .ref h0), (1, .ref d0)]) hx hb d_Log_findLiveHalf_5 rfl hl (by decide) rfl (fun ls hl => ?_)
  refine lv_aload_n hx hb d_Log_findLiveHalf_6 rfl (lv_at hl 2 rfl) ?_
  refine lv_bipush (v := nI 96) hx hb d_Log_findLiveHalf_7 (by decide) ?_
  refine kj_i (wr := [(h0, .inr (5, [.ref h1, .ref h3, .ref h4, .int (nI hf), .int (nI ep), .int (nI bl), .int (nI en)]))]) (va_runV (As := [.int (nI 96)]) (rest := []) SS (c_Disk_isHead l dC dI cI H.size d0 d1 d 96 (by omega) hdb) (k_cwV 1 hts u_200 u_201 u_202 u_36 u_203 rfl rfl (by decide +kernel) ⟨Nat.le_of_ble_eq_true rfl, Nat.le_of_ble_eq_true rfl⟩) (kp_V hN hK [0] rfl hP hD [1, 2] rfl (by decide) (ci := 3) rfl 0 rfl) rfl rfl hl.1 rfl (lv_room (Nat.le_of_ble_eq_true rfl)) d_Log_findLiveHalf_9 ⟨Nat.le_of_ble_eq_true rfl, Nat.le_of_ble_eq_true rfl⟩) hP hD hS hA [1, 2] [0] rfl rfl (by decide) (by decide) (fun H locs hP hD hS => ?_)
  have hP : va_P (dC, dI) CL_ [(h0, .inr (5, [.ref h1, .ref h3, .ref h4, .int (nI hf), .int (nI ep), .int (nI bl), .int (nI en)])), (d0, .inr (3, [.ref d1])), (d1, .inl (cI, 6144, .inl (nA d)))] H := hP
  have hD : va_D A [(h0, .inr (5, [.ref h1, .ref h3, .ref h4, .int (nI hf), .int (nI ep), .int (nI bl), .int (nI en)])), (d0, .inr (3, [.ref d1])), (d1, .inl (cI, 6144, .inl (nA d)))] := hD
  refine lv_istore_n (lv' := [(3, .int (bI (isHeadN d (96 * 32)))), (2, .int (bI (isHeadN d (0 * 32)))), (0, .ref h0), (1, .ref d0)]) hx hb d_Log_findLiveHalf_12 rfl hl (by decide) rfl (fun ls hl => ?_)
  refine lv_iload_n hx hb d_Log_findLiveHalf_13 rfl (lv_at hl 1 rfl) ?_
  refine n_if_eqB (tgt := 25) hx hb d_Log_findLiveHalf_14 (by decide) (fun c_14 => ?_) (fun c_14 => ?_)
  · skip
    refine lv_iconst (v := nI 0) hx hb d_Log_findLiveHalf_25 (by decide) ?_
    refine lv_istore (lv' := [(4, .int (nI 0)), (3, .int (bI (isHeadN d (96 * 32)))), (2, .int (bI (isHeadN d (0 * 32)))), (0, .ref h0), (1, .ref d0)]) hx hb d_Log_findLiveHalf_26 hl (by decide) rfl (fun ls hl => ?_)
    refine lv_iload_n hx hb d_Log_findLiveHalf_28 rfl (lv_at hl 1 rfl) ?_
    refine n_if_eqB (tgt := 41) hx hb d_Log_findLiveHalf_29 (by decide) (fun c_29 => ?_) (fun c_29 => ?_)
    · skip
      refine lv_iconst (v := nI 0) hx hb d_Log_findLiveHalf_41 (by decide) ?_
      refine lv_istore (lv' := [(5, .int (nI 0)), (4, .int (nI 0)), (3, .int (bI (isHeadN d (96 * 32)))), (2, .int (bI (isHeadN d (0 * 32)))), (0, .ref h0), (1, .ref d0)]) hx hb d_Log_findLiveHalf_42 hl (by decide) rfl (fun ls hl => ?_)
      refine lv_aload_n hx hb d_Log_findLiveHalf_44 rfl (lv_at hl 4 rfl) ?_
      refine lv_iload_n hx hb d_Log_findLiveHalf_45 rfl (lv_at hl 2 rfl) ?_
      refine n_if_eqB (tgt := 64) hx hb d_Log_findLiveHalf_46 (by decide) (fun c_46 => ?_) (fun c_46 => ?_)
      · skip
        refine lv_iconst (v := nI 0) hx hb d_Log_findLiveHalf_64 (by decide) ?_
        refine va_put (D := (dC, dI)) (ci := 5) (v := .int (nI 0)) (ty := .int) (C := R_Log) (T := F_Log) (N := 7) hx hb hts in_Log ty_Log tok_Log nm_Log hown hK hP hD hS 0 rfl rfl 3 (by decide) (hts _ u_95) (fun _ h9 => h9) rfl (by decide +kernel) rfl rfl (Nat.le_of_ble_eq_true rfl) d_Log_findLiveHalf_65 (fun H locs hP hD hS => ?_)
        have hP : va_P (dC, dI) CL_ [(h0, .inr (5, [.ref h1, .ref h3, .ref h4, .int (nI 0), .int (nI ep), .int (nI bl), .int (nI en)])), (d0, .inr (3, [.ref d1])), (d1, .inl (cI, 6144, .inl (nA d)))] H := hP
        have hD : va_D A [(h0, .inr (5, [.ref h1, .ref h3, .ref h4, .int (nI 0), .int (nI ep), .int (nI bl), .int (nI en)])), (d0, .inr (3, [.ref d1])), (d1, .inl (cI, 6144, .inl (nA d)))] := hD
        refine lv_aload_n hx hb d_Log_findLiveHalf_68 rfl (lv_at hl 4 rfl) ?_
        refine lv_aload_n hx hb d_Log_findLiveHalf_69 rfl (lv_at hl 4 rfl) ?_
        refine va_get (D := (dC, dI)) (ci := 5) (v := .int (nI 0)) (C := R_Log) (T := F_Log) (N := 7) hx hb hts in_Log hown hK hP 0 rfl rfl 3 (by decide) (hts _ u_95) (fun _ h9 => h9) rfl d_Log_findLiveHalf_70 ?_
        refine lv_iconst (v := nI 1) hx hb d_Log_findLiveHalf_73 (by decide) ?_
        refine n_icmp_ne (tgt := 82) hx hb d_Log_findLiveHalf_74 (by decide) (by decide) (by decide) (fun c_74 => ?_) (fun c_74 => ?_)
        · skip
          refine lv_iload hx hb d_Log_findLiveHalf_82 (lv_at hl 1 rfl) ?_
          refine va_put (D := (dC, dI)) (ci := 5) (v := .int (nI 0)) (ty := .int) (C := R_Log) (T := F_Log) (N := 7) hx hb hts in_Log ty_Log tok_Log nm_Log hown hK hP hD hS 0 rfl rfl 4 (by decide) (hts _ u_96) (fun _ h9 => h9) rfl (by decide +kernel) rfl rfl (Nat.le_of_ble_eq_true rfl) d_Log_findLiveHalf_84 (fun H locs hP hD hS => ?_)
          have hP : va_P (dC, dI) CL_ [(h0, .inr (5, [.ref h1, .ref h3, .ref h4, .int (nI 0), .int (nI 0), .int (nI bl), .int (nI en)])), (d0, .inr (3, [.ref d1])), (d1, .inl (cI, 6144, .inl (nA d)))] H := hP
          have hD : va_D A [(h0, .inr (5, [.ref h1, .ref h3, .ref h4, .int (nI 0), .int (nI 0), .int (nI bl), .int (nI en)])), (d0, .inr (3, [.ref d1])), (d1, .inl (cI, 6144, .inl (nA d)))] := hD
          have g14 := c_14
          have g29 := c_29
          simp only [Nat.zero_mul, Nat.reduceMul] at g14 g29
          have e9_1 : liveH d = 0 := by first | (simp [liveH, liveE, lowE, uppE, g14, g29]; done) | (have g57 := c_57; simp only [Nat.zero_mul, Nat.reduceMul] at g57; first | (simp [liveH, liveE, lowE, uppE, g14, g29, g57]; done) | (simp [liveH, liveE, lowE, uppE, g14, g29, Nat.not_lt.mpr g57]; done))
          rw [e9_1] at hret
          have e9_2 : liveE d = 0 := by first | (simp [liveH, liveE, lowE, uppE, g14, g29]; done) | (have g57 := c_57; simp only [Nat.zero_mul, Nat.reduceMul] at g57; first | (simp [liveH, liveE, lowE, uppE, g14, g29, g57]; done) | (simp [liveH, liveE, lowE, uppE, g14, g29, Nat.not_lt.mpr g57]; done))
          rw [e9_2] at hret
          exact hret _ _ 87 ls d_Log_findLiveHalf_87 (hP.sub [0, 1, 2] rfl) (hD.sub [0, 1, 2] (by decide) rfl) hS
        · exact absurd c_74 (by decide)
      · exact absurd c_29 (by rw [c_46]; decide)
    · skip
      refine lv_aload_n hx hb d_Log_findLiveHalf_32 rfl (lv_at hl 4 rfl) ?_
      refine lv_bipush (v := nI 96) hx hb d_Log_findLiveHalf_33 (by decide) ?_
      refine kj_i (wr := [(h0, .inr (5, [.ref h1, .ref h3, .ref h4, .int (nI hf), .int (nI ep), .int (nI bl), .int (nI en)]))]) (va_runV (As := [.int (nI 96)]) (rest := []) SS (c_Disk_epochOf l dC dI cI H.size d0 d1 d 96 (by omega) hdb) (k_cwV 1 hts u_213 u_214 u_215 u_36 u_216 rfl rfl (by decide +kernel) ⟨Nat.le_of_ble_eq_true rfl, Nat.le_of_ble_eq_true rfl⟩) (kp_V hN hK [0] rfl hP hD [1, 2] rfl (by decide) (ci := 3) rfl 0 rfl) rfl rfl hl.1 rfl (lv_room (Nat.le_of_ble_eq_true rfl)) d_Log_findLiveHalf_35 ⟨Nat.le_of_ble_eq_true rfl, Nat.le_of_ble_eq_true rfl⟩) hP hD hS hA [1, 2] [0] rfl rfl (by decide) (by decide) (fun H locs hP hD hS => ?_)
      have hP : va_P (dC, dI) CL_ [(h0, .inr (5, [.ref h1, .ref h3, .ref h4, .int (nI hf), .int (nI ep), .int (nI bl), .int (nI en)])), (d0, .inr (3, [.ref d1])), (d1, .inl (cI, 6144, .inl (nA d)))] H := hP
      have hD : va_D A [(h0, .inr (5, [.ref h1, .ref h3, .ref h4, .int (nI hf), .int (nI ep), .int (nI bl), .int (nI en)])), (d0, .inr (3, [.ref d1])), (d1, .inl (cI, 6144, .inl (nA d)))] := hD
      refine lv_goto (tgt := 42) hx hb d_Log_findLiveHalf_38 (by decide) ?_
      refine lv_istore (lv' := [(5, .int (nI (pairN d (96 * 32)))), (4, .int (nI 0)), (3, .int (bI (isHeadN d (96 * 32)))), (2, .int (bI (isHeadN d (0 * 32)))), (0, .ref h0), (1, .ref d0)]) hx hb d_Log_findLiveHalf_42 hl (by decide) rfl (fun ls hl => ?_)
      refine lv_aload_n hx hb d_Log_findLiveHalf_44 rfl (lv_at hl 4 rfl) ?_
      refine lv_iload_n hx hb d_Log_findLiveHalf_45 rfl (lv_at hl 2 rfl) ?_
      refine n_if_eqB (tgt := 64) hx hb d_Log_findLiveHalf_46 (by decide) (fun c_46 => ?_) (fun c_46 => ?_)
      · exact absurd c_29 (by rw [c_46]; decide)
      · skip
        refine lv_iload_n hx hb d_Log_findLiveHalf_49 rfl (lv_at hl 3 rfl) ?_
        refine n_if_eqB (tgt := 60) hx hb d_Log_findLiveHalf_50 (by decide) (fun c_50 => ?_) (fun c_50 => ?_)
        · skip
          refine lv_iconst (v := nI 1) hx hb d_Log_findLiveHalf_60 (by decide) ?_
          refine lv_goto (tgt := 65) hx hb d_Log_findLiveHalf_61 (by decide) ?_
          refine va_put (D := (dC, dI)) (ci := 5) (v := .int (nI 1)) (ty := .int) (C := R_Log) (T := F_Log) (N := 7) hx hb hts in_Log ty_Log tok_Log nm_Log hown hK hP hD hS 0 rfl rfl 3 (by decide) (hts _ u_95) (fun _ h9 => h9) rfl (by decide +kernel) rfl rfl (Nat.le_of_ble_eq_true rfl) d_Log_findLiveHalf_65 (fun H locs hP hD hS => ?_)
          have hP : va_P (dC, dI) CL_ [(h0, .inr (5, [.ref h1, .ref h3, .ref h4, .int (nI 1), .int (nI ep), .int (nI bl), .int (nI en)])), (d0, .inr (3, [.ref d1])), (d1, .inl (cI, 6144, .inl (nA d)))] H := hP
          have hD : va_D A [(h0, .inr (5, [.ref h1, .ref h3, .ref h4, .int (nI 1), .int (nI ep), .int (nI bl), .int (nI en)])), (d0, .inr (3, [.ref d1])), (d1, .inl (cI, 6144, .inl (nA d)))] := hD
          refine lv_aload_n hx hb d_Log_findLiveHalf_68 rfl (lv_at hl 4 rfl) ?_
          refine lv_aload_n hx hb d_Log_findLiveHalf_69 rfl (lv_at hl 4 rfl) ?_
          refine va_get (D := (dC, dI)) (ci := 5) (v := .int (nI 1)) (C := R_Log) (T := F_Log) (N := 7) hx hb hts in_Log hown hK hP 0 rfl rfl 3 (by decide) (hts _ u_95) (fun _ h9 => h9) rfl d_Log_findLiveHalf_70 ?_
          refine lv_iconst (v := nI 1) hx hb d_Log_findLiveHalf_73 (by decide) ?_
          refine n_icmp_ne (tgt := 82) hx hb d_Log_findLiveHalf_74 (by decide) (by decide) (by decide) (fun c_74 => ?_) (fun c_74 => ?_)
          · exact absurd c_74 (by decide)
          · skip
            refine lv_iload hx hb d_Log_findLiveHalf_77 (lv_at hl 0 rfl) ?_
            refine lv_goto (tgt := 84) hx hb d_Log_findLiveHalf_79 (by decide) ?_
            refine va_put (D := (dC, dI)) (ci := 5) (v := .int (nI (pairN d (96 * 32)))) (ty := .int) (C := R_Log) (T := F_Log) (N := 7) hx hb hts in_Log ty_Log tok_Log nm_Log hown hK hP hD hS 0 rfl rfl 4 (by decide) (hts _ u_96) (fun _ h9 => h9) rfl (by decide +kernel) rfl rfl (Nat.le_of_ble_eq_true rfl) d_Log_findLiveHalf_84 (fun H locs hP hD hS => ?_)
            have hP : va_P (dC, dI) CL_ [(h0, .inr (5, [.ref h1, .ref h3, .ref h4, .int (nI 1), .int (nI (pairN d (96 * 32))), .int (nI bl), .int (nI en)])), (d0, .inr (3, [.ref d1])), (d1, .inl (cI, 6144, .inl (nA d)))] H := hP
            have hD : va_D A [(h0, .inr (5, [.ref h1, .ref h3, .ref h4, .int (nI 1), .int (nI (pairN d (96 * 32))), .int (nI bl), .int (nI en)])), (d0, .inr (3, [.ref d1])), (d1, .inl (cI, 6144, .inl (nA d)))] := hD
            have g14 := c_14
            have g29 := c_29
            simp only [Nat.zero_mul, Nat.reduceMul] at g14 g29
            have e9_3 : liveH d = 1 := by first | (simp [liveH, liveE, lowE, uppE, g14, g29]; done) | (have g57 := c_57; simp only [Nat.zero_mul, Nat.reduceMul] at g57; first | (simp [liveH, liveE, lowE, uppE, g14, g29, g57]; done) | (simp [liveH, liveE, lowE, uppE, g14, g29, Nat.not_lt.mpr g57]; done))
            rw [e9_3] at hret
            have e9_4 : liveE d = pairN d (96 * 32) := by first | (simp [liveH, liveE, lowE, uppE, g14, g29]; done) | (have g57 := c_57; simp only [Nat.zero_mul, Nat.reduceMul] at g57; first | (simp [liveH, liveE, lowE, uppE, g14, g29, g57]; done) | (simp [liveH, liveE, lowE, uppE, g14, g29, Nat.not_lt.mpr g57]; done))
            rw [e9_4] at hret
            exact hret _ _ 87 ls d_Log_findLiveHalf_87 (hP.sub [0, 1, 2] rfl) (hD.sub [0, 1, 2] (by decide) rfl) hS
        · exact absurd c_14 (by rw [c_50]; decide)
  · skip
    refine lv_aload_n hx hb d_Log_findLiveHalf_17 rfl (lv_at hl 3 rfl) ?_
    refine lv_iconst (v := nI 0) hx hb d_Log_findLiveHalf_18 (by decide) ?_
    refine kj_i (wr := [(h0, .inr (5, [.ref h1, .ref h3, .ref h4, .int (nI hf), .int (nI ep), .int (nI bl), .int (nI en)]))]) (va_runV (As := [.int (nI 0)]) (rest := []) SS (c_Disk_epochOf l dC dI cI H.size d0 d1 d 0 (by omega) hdb) (k_cwV 1 hts u_213 u_214 u_215 u_36 u_216 rfl rfl (by decide +kernel) ⟨Nat.le_of_ble_eq_true rfl, Nat.le_of_ble_eq_true rfl⟩) (kp_V hN hK [0] rfl hP hD [1, 2] rfl (by decide) (ci := 3) rfl 0 rfl) rfl rfl hl.1 rfl (lv_room (Nat.le_of_ble_eq_true rfl)) d_Log_findLiveHalf_19 ⟨Nat.le_of_ble_eq_true rfl, Nat.le_of_ble_eq_true rfl⟩) hP hD hS hA [1, 2] [0] rfl rfl (by decide) (by decide) (fun H locs hP hD hS => ?_)
    have hP : va_P (dC, dI) CL_ [(h0, .inr (5, [.ref h1, .ref h3, .ref h4, .int (nI hf), .int (nI ep), .int (nI bl), .int (nI en)])), (d0, .inr (3, [.ref d1])), (d1, .inl (cI, 6144, .inl (nA d)))] H := hP
    have hD : va_D A [(h0, .inr (5, [.ref h1, .ref h3, .ref h4, .int (nI hf), .int (nI ep), .int (nI bl), .int (nI en)])), (d0, .inr (3, [.ref d1])), (d1, .inl (cI, 6144, .inl (nA d)))] := hD
    refine lv_goto (tgt := 26) hx hb d_Log_findLiveHalf_22 (by decide) ?_
    refine lv_istore (lv' := [(4, .int (nI (pairN d (0 * 32)))), (3, .int (bI (isHeadN d (96 * 32)))), (2, .int (bI (isHeadN d (0 * 32)))), (0, .ref h0), (1, .ref d0)]) hx hb d_Log_findLiveHalf_26 hl (by decide) rfl (fun ls hl => ?_)
    refine lv_iload_n hx hb d_Log_findLiveHalf_28 rfl (lv_at hl 1 rfl) ?_
    refine n_if_eqB (tgt := 41) hx hb d_Log_findLiveHalf_29 (by decide) (fun c_29 => ?_) (fun c_29 => ?_)
    · skip
      refine lv_iconst (v := nI 0) hx hb d_Log_findLiveHalf_41 (by decide) ?_
      refine lv_istore (lv' := [(5, .int (nI 0)), (4, .int (nI (pairN d (0 * 32)))), (3, .int (bI (isHeadN d (96 * 32)))), (2, .int (bI (isHeadN d (0 * 32)))), (0, .ref h0), (1, .ref d0)]) hx hb d_Log_findLiveHalf_42 hl (by decide) rfl (fun ls hl => ?_)
      refine lv_aload_n hx hb d_Log_findLiveHalf_44 rfl (lv_at hl 4 rfl) ?_
      refine lv_iload_n hx hb d_Log_findLiveHalf_45 rfl (lv_at hl 2 rfl) ?_
      refine n_if_eqB (tgt := 64) hx hb d_Log_findLiveHalf_46 (by decide) (fun c_46 => ?_) (fun c_46 => ?_)
      · skip
        refine lv_iconst (v := nI 0) hx hb d_Log_findLiveHalf_64 (by decide) ?_
        refine va_put (D := (dC, dI)) (ci := 5) (v := .int (nI 0)) (ty := .int) (C := R_Log) (T := F_Log) (N := 7) hx hb hts in_Log ty_Log tok_Log nm_Log hown hK hP hD hS 0 rfl rfl 3 (by decide) (hts _ u_95) (fun _ h9 => h9) rfl (by decide +kernel) rfl rfl (Nat.le_of_ble_eq_true rfl) d_Log_findLiveHalf_65 (fun H locs hP hD hS => ?_)
        have hP : va_P (dC, dI) CL_ [(h0, .inr (5, [.ref h1, .ref h3, .ref h4, .int (nI 0), .int (nI ep), .int (nI bl), .int (nI en)])), (d0, .inr (3, [.ref d1])), (d1, .inl (cI, 6144, .inl (nA d)))] H := hP
        have hD : va_D A [(h0, .inr (5, [.ref h1, .ref h3, .ref h4, .int (nI 0), .int (nI ep), .int (nI bl), .int (nI en)])), (d0, .inr (3, [.ref d1])), (d1, .inl (cI, 6144, .inl (nA d)))] := hD
        refine lv_aload_n hx hb d_Log_findLiveHalf_68 rfl (lv_at hl 4 rfl) ?_
        refine lv_aload_n hx hb d_Log_findLiveHalf_69 rfl (lv_at hl 4 rfl) ?_
        refine va_get (D := (dC, dI)) (ci := 5) (v := .int (nI 0)) (C := R_Log) (T := F_Log) (N := 7) hx hb hts in_Log hown hK hP 0 rfl rfl 3 (by decide) (hts _ u_95) (fun _ h9 => h9) rfl d_Log_findLiveHalf_70 ?_
        refine lv_iconst (v := nI 1) hx hb d_Log_findLiveHalf_73 (by decide) ?_
        refine n_icmp_ne (tgt := 82) hx hb d_Log_findLiveHalf_74 (by decide) (by decide) (by decide) (fun c_74 => ?_) (fun c_74 => ?_)
        · skip
          refine lv_iload hx hb d_Log_findLiveHalf_82 (lv_at hl 1 rfl) ?_
          refine va_put (D := (dC, dI)) (ci := 5) (v := .int (nI (pairN d (0 * 32)))) (ty := .int) (C := R_Log) (T := F_Log) (N := 7) hx hb hts in_Log ty_Log tok_Log nm_Log hown hK hP hD hS 0 rfl rfl 4 (by decide) (hts _ u_96) (fun _ h9 => h9) rfl (by decide +kernel) rfl rfl (Nat.le_of_ble_eq_true rfl) d_Log_findLiveHalf_84 (fun H locs hP hD hS => ?_)
          have hP : va_P (dC, dI) CL_ [(h0, .inr (5, [.ref h1, .ref h3, .ref h4, .int (nI 0), .int (nI (pairN d (0 * 32))), .int (nI bl), .int (nI en)])), (d0, .inr (3, [.ref d1])), (d1, .inl (cI, 6144, .inl (nA d)))] H := hP
          have hD : va_D A [(h0, .inr (5, [.ref h1, .ref h3, .ref h4, .int (nI 0), .int (nI (pairN d (0 * 32))), .int (nI bl), .int (nI en)])), (d0, .inr (3, [.ref d1])), (d1, .inl (cI, 6144, .inl (nA d)))] := hD
          have g14 := c_14
          have g29 := c_29
          simp only [Nat.zero_mul, Nat.reduceMul] at g14 g29
          have e9_5 : liveH d = 0 := by first | (simp [liveH, liveE, lowE, uppE, g14, g29]; done) | (have g57 := c_57; simp only [Nat.zero_mul, Nat.reduceMul] at g57; first | (simp [liveH, liveE, lowE, uppE, g14, g29, g57]; done) | (simp [liveH, liveE, lowE, uppE, g14, g29, Nat.not_lt.mpr g57]; done))
          rw [e9_5] at hret
          have e9_6 : liveE d = pairN d (0 * 32) := by first | (simp [liveH, liveE, lowE, uppE, g14, g29]; done) | (have g57 := c_57; simp only [Nat.zero_mul, Nat.reduceMul] at g57; first | (simp [liveH, liveE, lowE, uppE, g14, g29, g57]; done) | (simp [liveH, liveE, lowE, uppE, g14, g29, Nat.not_lt.mpr g57]; done))
          rw [e9_6] at hret
          exact hret _ _ 87 ls d_Log_findLiveHalf_87 (hP.sub [0, 1, 2] rfl) (hD.sub [0, 1, 2] (by decide) rfl) hS
        · exact absurd c_74 (by decide)
      · exact absurd c_29 (by rw [c_46]; decide)
    · skip
      refine lv_aload_n hx hb d_Log_findLiveHalf_32 rfl (lv_at hl 4 rfl) ?_
      refine lv_bipush (v := nI 96) hx hb d_Log_findLiveHalf_33 (by decide) ?_
      refine kj_i (wr := [(h0, .inr (5, [.ref h1, .ref h3, .ref h4, .int (nI hf), .int (nI ep), .int (nI bl), .int (nI en)]))]) (va_runV (As := [.int (nI 96)]) (rest := []) SS (c_Disk_epochOf l dC dI cI H.size d0 d1 d 96 (by omega) hdb) (k_cwV 1 hts u_213 u_214 u_215 u_36 u_216 rfl rfl (by decide +kernel) ⟨Nat.le_of_ble_eq_true rfl, Nat.le_of_ble_eq_true rfl⟩) (kp_V hN hK [0] rfl hP hD [1, 2] rfl (by decide) (ci := 3) rfl 0 rfl) rfl rfl hl.1 rfl (lv_room (Nat.le_of_ble_eq_true rfl)) d_Log_findLiveHalf_35 ⟨Nat.le_of_ble_eq_true rfl, Nat.le_of_ble_eq_true rfl⟩) hP hD hS hA [1, 2] [0] rfl rfl (by decide) (by decide) (fun H locs hP hD hS => ?_)
      have hP : va_P (dC, dI) CL_ [(h0, .inr (5, [.ref h1, .ref h3, .ref h4, .int (nI hf), .int (nI ep), .int (nI bl), .int (nI en)])), (d0, .inr (3, [.ref d1])), (d1, .inl (cI, 6144, .inl (nA d)))] H := hP
      have hD : va_D A [(h0, .inr (5, [.ref h1, .ref h3, .ref h4, .int (nI hf), .int (nI ep), .int (nI bl), .int (nI en)])), (d0, .inr (3, [.ref d1])), (d1, .inl (cI, 6144, .inl (nA d)))] := hD
      refine lv_goto (tgt := 42) hx hb d_Log_findLiveHalf_38 (by decide) ?_
      refine lv_istore (lv' := [(5, .int (nI (pairN d (96 * 32)))), (4, .int (nI (pairN d (0 * 32)))), (3, .int (bI (isHeadN d (96 * 32)))), (2, .int (bI (isHeadN d (0 * 32)))), (0, .ref h0), (1, .ref d0)]) hx hb d_Log_findLiveHalf_42 hl (by decide) rfl (fun ls hl => ?_)
      refine lv_aload_n hx hb d_Log_findLiveHalf_44 rfl (lv_at hl 4 rfl) ?_
      refine lv_iload_n hx hb d_Log_findLiveHalf_45 rfl (lv_at hl 2 rfl) ?_
      refine n_if_eqB (tgt := 64) hx hb d_Log_findLiveHalf_46 (by decide) (fun c_46 => ?_) (fun c_46 => ?_)
      · exact absurd c_29 (by rw [c_46]; decide)
      · skip
        refine lv_iload_n hx hb d_Log_findLiveHalf_49 rfl (lv_at hl 3 rfl) ?_
        refine n_if_eqB (tgt := 60) hx hb d_Log_findLiveHalf_50 (by decide) (fun c_50 => ?_) (fun c_50 => ?_)
        · exact absurd c_14 (by rw [c_50]; decide)
        · skip
          refine lv_iload hx hb d_Log_findLiveHalf_53 (lv_at hl 0 rfl) ?_
          refine lv_iload hx hb d_Log_findLiveHalf_55 (lv_at hl 1 rfl) ?_
          refine n_icmp_le (tgt := 64) hx hb d_Log_findLiveHalf_57 (by decide) (by omega) (by omega) (fun c_57 => ?_) (fun c_57 => ?_)
          · skip
            refine lv_iconst (v := nI 0) hx hb d_Log_findLiveHalf_64 (by decide) ?_
            refine va_put (D := (dC, dI)) (ci := 5) (v := .int (nI 0)) (ty := .int) (C := R_Log) (T := F_Log) (N := 7) hx hb hts in_Log ty_Log tok_Log nm_Log hown hK hP hD hS 0 rfl rfl 3 (by decide) (hts _ u_95) (fun _ h9 => h9) rfl (by decide +kernel) rfl rfl (Nat.le_of_ble_eq_true rfl) d_Log_findLiveHalf_65 (fun H locs hP hD hS => ?_)
            have hP : va_P (dC, dI) CL_ [(h0, .inr (5, [.ref h1, .ref h3, .ref h4, .int (nI 0), .int (nI ep), .int (nI bl), .int (nI en)])), (d0, .inr (3, [.ref d1])), (d1, .inl (cI, 6144, .inl (nA d)))] H := hP
            have hD : va_D A [(h0, .inr (5, [.ref h1, .ref h3, .ref h4, .int (nI 0), .int (nI ep), .int (nI bl), .int (nI en)])), (d0, .inr (3, [.ref d1])), (d1, .inl (cI, 6144, .inl (nA d)))] := hD
            refine lv_aload_n hx hb d_Log_findLiveHalf_68 rfl (lv_at hl 4 rfl) ?_
            refine lv_aload_n hx hb d_Log_findLiveHalf_69 rfl (lv_at hl 4 rfl) ?_
            refine va_get (D := (dC, dI)) (ci := 5) (v := .int (nI 0)) (C := R_Log) (T := F_Log) (N := 7) hx hb hts in_Log hown hK hP 0 rfl rfl 3 (by decide) (hts _ u_95) (fun _ h9 => h9) rfl d_Log_findLiveHalf_70 ?_
            refine lv_iconst (v := nI 1) hx hb d_Log_findLiveHalf_73 (by decide) ?_
            refine n_icmp_ne (tgt := 82) hx hb d_Log_findLiveHalf_74 (by decide) (by decide) (by decide) (fun c_74 => ?_) (fun c_74 => ?_)
            · skip
              refine lv_iload hx hb d_Log_findLiveHalf_82 (lv_at hl 1 rfl) ?_
              refine va_put (D := (dC, dI)) (ci := 5) (v := .int (nI (pairN d (0 * 32)))) (ty := .int) (C := R_Log) (T := F_Log) (N := 7) hx hb hts in_Log ty_Log tok_Log nm_Log hown hK hP hD hS 0 rfl rfl 4 (by decide) (hts _ u_96) (fun _ h9 => h9) rfl (by decide +kernel) rfl rfl (Nat.le_of_ble_eq_true rfl) d_Log_findLiveHalf_84 (fun H locs hP hD hS => ?_)
              have hP : va_P (dC, dI) CL_ [(h0, .inr (5, [.ref h1, .ref h3, .ref h4, .int (nI 0), .int (nI (pairN d (0 * 32))), .int (nI bl), .int (nI en)])), (d0, .inr (3, [.ref d1])), (d1, .inl (cI, 6144, .inl (nA d)))] H := hP
              have hD : va_D A [(h0, .inr (5, [.ref h1, .ref h3, .ref h4, .int (nI 0), .int (nI (pairN d (0 * 32))), .int (nI bl), .int (nI en)])), (d0, .inr (3, [.ref d1])), (d1, .inl (cI, 6144, .inl (nA d)))] := hD
              have g14 := c_14
              have g29 := c_29
              simp only [Nat.zero_mul, Nat.reduceMul] at g14 g29
              have e9_7 : liveH d = 0 := by first | (simp [liveH, liveE, lowE, uppE, g14, g29]; done) | (have g57 := c_57; simp only [Nat.zero_mul, Nat.reduceMul] at g57; first | (simp [liveH, liveE, lowE, uppE, g14, g29, g57]; done) | (simp [liveH, liveE, lowE, uppE, g14, g29, Nat.not_lt.mpr g57]; done))
              rw [e9_7] at hret
              have e9_8 : liveE d = pairN d (0 * 32) := by first | (simp [liveH, liveE, lowE, uppE, g14, g29]; done) | (have g57 := c_57; simp only [Nat.zero_mul, Nat.reduceMul] at g57; first | (simp [liveH, liveE, lowE, uppE, g14, g29, g57]; done) | (simp [liveH, liveE, lowE, uppE, g14, g29, Nat.not_lt.mpr g57]; done))
              rw [e9_8] at hret
              exact hret _ _ 87 ls d_Log_findLiveHalf_87 (hP.sub [0, 1, 2] rfl) (hD.sub [0, 1, 2] (by decide) rfl) hS
            · exact absurd c_74 (by decide)
          · skip
            refine lv_iconst (v := nI 1) hx hb d_Log_findLiveHalf_60 (by decide) ?_
            refine lv_goto (tgt := 65) hx hb d_Log_findLiveHalf_61 (by decide) ?_
            refine va_put (D := (dC, dI)) (ci := 5) (v := .int (nI 1)) (ty := .int) (C := R_Log) (T := F_Log) (N := 7) hx hb hts in_Log ty_Log tok_Log nm_Log hown hK hP hD hS 0 rfl rfl 3 (by decide) (hts _ u_95) (fun _ h9 => h9) rfl (by decide +kernel) rfl rfl (Nat.le_of_ble_eq_true rfl) d_Log_findLiveHalf_65 (fun H locs hP hD hS => ?_)
            have hP : va_P (dC, dI) CL_ [(h0, .inr (5, [.ref h1, .ref h3, .ref h4, .int (nI 1), .int (nI ep), .int (nI bl), .int (nI en)])), (d0, .inr (3, [.ref d1])), (d1, .inl (cI, 6144, .inl (nA d)))] H := hP
            have hD : va_D A [(h0, .inr (5, [.ref h1, .ref h3, .ref h4, .int (nI 1), .int (nI ep), .int (nI bl), .int (nI en)])), (d0, .inr (3, [.ref d1])), (d1, .inl (cI, 6144, .inl (nA d)))] := hD
            refine lv_aload_n hx hb d_Log_findLiveHalf_68 rfl (lv_at hl 4 rfl) ?_
            refine lv_aload_n hx hb d_Log_findLiveHalf_69 rfl (lv_at hl 4 rfl) ?_
            refine va_get (D := (dC, dI)) (ci := 5) (v := .int (nI 1)) (C := R_Log) (T := F_Log) (N := 7) hx hb hts in_Log hown hK hP 0 rfl rfl 3 (by decide) (hts _ u_95) (fun _ h9 => h9) rfl d_Log_findLiveHalf_70 ?_
            refine lv_iconst (v := nI 1) hx hb d_Log_findLiveHalf_73 (by decide) ?_
            refine n_icmp_ne (tgt := 82) hx hb d_Log_findLiveHalf_74 (by decide) (by decide) (by decide) (fun c_74 => ?_) (fun c_74 => ?_)
            · exact absurd c_74 (by decide)
            · skip
              refine lv_iload hx hb d_Log_findLiveHalf_77 (lv_at hl 0 rfl) ?_
              refine lv_goto (tgt := 84) hx hb d_Log_findLiveHalf_79 (by decide) ?_
              refine va_put (D := (dC, dI)) (ci := 5) (v := .int (nI (pairN d (96 * 32)))) (ty := .int) (C := R_Log) (T := F_Log) (N := 7) hx hb hts in_Log ty_Log tok_Log nm_Log hown hK hP hD hS 0 rfl rfl 4 (by decide) (hts _ u_96) (fun _ h9 => h9) rfl (by decide +kernel) rfl rfl (Nat.le_of_ble_eq_true rfl) d_Log_findLiveHalf_84 (fun H locs hP hD hS => ?_)
              have hP : va_P (dC, dI) CL_ [(h0, .inr (5, [.ref h1, .ref h3, .ref h4, .int (nI 1), .int (nI (pairN d (96 * 32))), .int (nI bl), .int (nI en)])), (d0, .inr (3, [.ref d1])), (d1, .inl (cI, 6144, .inl (nA d)))] H := hP
              have hD : va_D A [(h0, .inr (5, [.ref h1, .ref h3, .ref h4, .int (nI 1), .int (nI (pairN d (96 * 32))), .int (nI bl), .int (nI en)])), (d0, .inr (3, [.ref d1])), (d1, .inl (cI, 6144, .inl (nA d)))] := hD
              have g14 := c_14
              have g29 := c_29
              simp only [Nat.zero_mul, Nat.reduceMul] at g14 g29
              have e9_9 : liveH d = 1 := by first | (simp [liveH, liveE, lowE, uppE, g14, g29]; done) | (have g57 := c_57; simp only [Nat.zero_mul, Nat.reduceMul] at g57; first | (simp [liveH, liveE, lowE, uppE, g14, g29, g57]; done) | (simp [liveH, liveE, lowE, uppE, g14, g29, Nat.not_lt.mpr g57]; done))
              rw [e9_9] at hret
              have e9_10 : liveE d = pairN d (96 * 32) := by first | (simp [liveH, liveE, lowE, uppE, g14, g29]; done) | (have g57 := c_57; simp only [Nat.zero_mul, Nat.reduceMul] at g57; first | (simp [liveH, liveE, lowE, uppE, g14, g29, g57]; done) | (simp [liveH, liveE, lowE, uppE, g14, g29, Nat.not_lt.mpr g57]; done))
              rw [e9_10] at hret
              exact hret _ _ 87 ls d_Log_findLiveHalf_87 (hP.sub [0, 1, 2] rfl) (hD.sub [0, 1, 2] (by decide) rfl) hS
