abbrev rm_Log_isEntry : Room := { frames := 1, cells := 0, slots := 0, locals := 21 }
set_option maxHeartbeats 4000000 in
set_option maxRecDepth 100000 in
theorem c_Log_isEntry (l : Launch) (dC : Nat → ClassId) (dI : Nat → Nat → Nat) (cI : ClassId) (sz : Nat) (h0 : Nat) (h1 : Nat) (h3 : Nat) (h4 : Nat) (hf : Nat) (ep : Nat) (bl : Nat) (en : Nat) (h2 : Nat) (rb : Nat → Nat) (u : Nat) (start : Nat) (hu : u ≤ 2470) (hst : start ≤ 2470) (hrb : ∀ j, rb j < 256) : KI l y_Log_isEntry w_Log_isEntry rm_Log_isEntry (dC, dI) CL_ [(cI, .int)] sz [.ref h0, .int (nI start)] [(h0, .inr (5, [.ref h1, .ref h3, .ref h4, .int (nI hf), .int (nI ep), .int (nI bl), .int (nI en)])), (h1, .inr (0, [.ref h2, .int (nI u)])), (h2, .inl (cI, 2470, .inl (nA rb)))] [(h0, .inr (5, [.ref h1, .ref h3, .ref h4, .int (nI hf), .int (nI ep), .int (nI bl), .int (nI en)])), (h1, .inr (0, [.ref h2, .int (nI u)])), (h2, .inl (cI, 2470, .inl (nA rb)))] (bI (isEntN rb u start)) := by
  refine k_start_z (cc := b_Log_isEntry) (maxL := 6) (by decide) (Nat.le_of_ble_eq_true rfl) ?_
  intro p e s m args below meth c A QQ ls SS hK hP hD hA hl hN hret
  obtain ⟨hx, hb, hml, hown, hts⟩ := id SS
  have hl : lv_has ls 6 [(0, .ref h0), (1, .int (nI start))] := hl
  have hS : va_S A s.heap s.heap [] := va_S.rf
  have hbC := rowAt_b (u := u) (j := start) hrb
  refine lv_aload_n hx hb d_Log_isEntry_0 rfl (lv_at hl 0 rfl) ?_
  refine va_get (D := (dC, dI)) (ci := 5) (v := .ref h1) (C := R_Log) (T := F_Log) (N := 7) hx hb hts in_Log hown hK hP 0 rfl rfl 0 (by decide) (hts _ u_92) (fun _ h9 => h9) rfl d_Log_isEntry_1 ?_
  refine lv_iload_n hx hb d_Log_isEntry_4 rfl (lv_at hl 1 rfl) ?_
  refine kj_i (wr := [(h0, .inr (5, [.ref h1, .ref h3, .ref h4, .int (nI hf), .int (nI ep), .int (nI bl), .int (nI en)]))]) (va_runV (As := [.int (nI start)]) (rest := []) SS (c_Row_at l dC dI cI s.heap.size h1 h2 2470 rb u start (by omega) (by omega) (by omega)) (k_cwV 1 hts u_235 u_236 u_237 u_38 u_238 rfl rfl (by decide +kernel) ⟨Nat.le_of_ble_eq_true rfl, Nat.le_of_ble_eq_true rfl⟩) (kp_V hN hK [0] rfl hP hD [1, 2] rfl (by decide) (ci := 0) rfl 0 rfl) rfl rfl hl.1 rfl (lv_room (Nat.le_of_ble_eq_true rfl)) d_Log_isEntry_5 ⟨Nat.le_of_ble_eq_true rfl, Nat.le_of_ble_eq_true rfl⟩) hP hD hS hA [1, 2] [0] rfl rfl (by decide) (by decide) (fun H locs hP hD hS => ?_)
  have hP : va_P (dC, dI) CL_ [(h0, .inr (5, [.ref h1, .ref h3, .ref h4, .int (nI hf), .int (nI ep), .int (nI bl), .int (nI en)])), (h1, .inr (0, [.ref h2, .int (nI u)])), (h2, .inl (cI, 2470, .inl (nA rb)))] H := hP
  have hD : va_D A [(h0, .inr (5, [.ref h1, .ref h3, .ref h4, .int (nI hf), .int (nI ep), .int (nI bl), .int (nI en)])), (h1, .inr (0, [.ref h2, .int (nI u)])), (h2, .inl (cI, 2470, .inl (nA rb)))] := hD
  refine lv_istore_n (lv' := [(2, .int (nI (rowAt rb u start))), (0, .ref h0), (1, .int (nI start))]) hx hb d_Log_isEntry_8 rfl hl (by decide) rfl (fun ls hl => ?_)
  refine lv_iload_n hx hb d_Log_isEntry_9 rfl (lv_at hl 0 rfl) ?_
  refine lv_iconst (v := nI 1) hx hb d_Log_isEntry_10 (by decide) ?_
  refine n_icmp_lt (tgt := 20) hx hb d_Log_isEntry_11 (by decide) (by omega) (by omega) (fun c_11 => ?_) (fun c_11 => ?_)
  · skip
    refine lv_iconst (v := bI false) hx hb d_Log_isEntry_20 (by decide) ?_
    exact hret false _ _ 21 ls d_Log_isEntry_21 (hP.sub [0, 1, 2] rfl) (hD.sub [0, 1, 2] (by decide) rfl) hS ((decide_eq_false (fun q => by have q1 := q.1; have q2 := q.2.1; omega)).symm)
  · skip
    refine lv_iload_n hx hb d_Log_isEntry_14 rfl (lv_at hl 0 rfl) ?_
    refine lv_bipush (v := nI 8) hx hb d_Log_isEntry_15 (by decide) ?_
    refine n_icmp_le (tgt := 22) hx hb d_Log_isEntry_17 (by decide) (by omega) (by omega) (fun c_17 => ?_) (fun c_17 => ?_)
    · skip
      refine lv_iload_n hx hb d_Log_isEntry_22 rfl (lv_at hl 2 rfl) ?_
      refine lv_iconst (v := nI 1) hx hb d_Log_isEntry_23 (by decide) ?_
      refine n_iadd hx hb d_Log_isEntry_24 ?_
      refine lv_istore_n (lv' := [(3, .int (nI (start + 1))), (2, .int (nI (rowAt rb u start))), (0, .ref h0), (1, .int (nI start))]) hx hb d_Log_isEntry_25 rfl hl (by decide) rfl (fun ls hl => ?_)
      refine lv_iconst (v := nI 0) hx hb d_Log_isEntry_26 (by decide) ?_
      refine lv_istore (lv' := [(4, .int (nI 0)), (3, .int (nI (start + 1))), (2, .int (nI (rowAt rb u start))), (0, .ref h0), (1, .int (nI start))]) hx hb d_Log_isEntry_27 hl (by decide) rfl (fun ls hl => ?_)
      have loop_29 : ∀ (n_ : Nat) (i at' : Nat), (i ≤ (rowAt rb u start)) → ((rowAt rb u start) + 1 ≤ i + n_) → (at' ≤ start + 1 + i * 257) → (isEntN rb u start = decide (ieLoop rb u ((rowAt rb u start) - i) at' = some u)) → ∀ (H : Heap) (locs : List Loc) (ls : Array Slot), va_P (dC, dI) CL_ [(h0, .inr (5, [.ref h1, .ref h3, .ref h4, .int (nI hf), .int (nI ep), .int (nI bl), .int (nI en)])), (h1, .inr (0, [.ref h2, .int (nI u)])), (h2, .inl (cI, 2470, .inl (nA rb)))] H → va_D A [(h0, .inr (5, [.ref h1, .ref h3, .ref h4, .int (nI hf), .int (nI ep), .int (nI bl), .int (nI en)])), (h1, .inr (0, [.ref h2, .int (nI u)])), (h2, .inl (cI, 2470, .inl (nA rb)))] → va_S A s.heap H locs → lv_has ls 6 [(0, .ref h0), (1, .int (nI start)), (2, .int (nI (rowAt rb u start))), (3, .int (nI at')), (4, .int (nI i))] → W p l e rm_Log_isEntry s m args below meth c H locs 0 0 QQ (F0 m 29 ls []) := by
        intro n_
        induction n_ with
        | zero =>
          intro i at' hi hf2 hat hinv
          exact absurd hf2 (by omega)
        | succ n_ ih =>
          intro i at' hi hf2 hat hinv H locs ls hP hD hS hl
          have hb1 := rowAt_b (u := u) (j := at') hrb
          have hb2 := rowAt_b (u := u) (j := at' + 1) hrb
          refine lv_iload hx hb d_Log_isEntry_29 (lv_at hl 4 rfl) ?_
          refine lv_iload_n hx hb d_Log_isEntry_31 rfl (lv_at hl 2 rfl) ?_
          refine n_icmp_ge (tgt := 116) hx hb d_Log_isEntry_32 (by decide) (by omega) (by omega) (fun c_32 => ?_) (fun c_32 => ?_)
          · skip
            refine lv_iload_n hx hb d_Log_isEntry_116 rfl (lv_at hl 3 rfl) ?_
            refine lv_aload_n hx hb d_Log_isEntry_117 rfl (lv_at hl 0 rfl) ?_
            refine va_get (D := (dC, dI)) (ci := 5) (v := .ref h1) (C := R_Log) (T := F_Log) (N := 7) hx hb hts in_Log hown hK hP 0 rfl rfl 0 (by decide) (hts _ u_92) (fun _ h9 => h9) rfl d_Log_isEntry_118 ?_
            refine kj_i (wr := [(h0, .inr (5, [.ref h1, .ref h3, .ref h4, .int (nI hf), .int (nI ep), .int (nI bl), .int (nI en)]))]) (va_runV (As := []) (rest := [.int (nI at')]) SS (c_Row_length l dC dI cI H.size h1 h2 2470 rb u ) (k_cwV 0 hts u_239 u_240 u_241 u_38 u_242 rfl rfl (by decide +kernel) ⟨Nat.le_of_ble_eq_true rfl, Nat.le_of_ble_eq_true rfl⟩) (kp_V hN hK [0] rfl hP hD [1, 2] rfl (by decide) (ci := 0) rfl 0 rfl) rfl rfl hl.1 rfl (lv_room (Nat.le_of_ble_eq_true rfl)) d_Log_isEntry_121 ⟨Nat.le_of_ble_eq_true rfl, Nat.le_of_ble_eq_true rfl⟩) hP hD hS hA [1, 2] [0] rfl rfl (by decide) (by decide) (fun H locs hP hD hS => ?_)
            have hP : va_P (dC, dI) CL_ [(h0, .inr (5, [.ref h1, .ref h3, .ref h4, .int (nI hf), .int (nI ep), .int (nI bl), .int (nI en)])), (h1, .inr (0, [.ref h2, .int (nI u)])), (h2, .inl (cI, 2470, .inl (nA rb)))] H := hP
            have hD : va_D A [(h0, .inr (5, [.ref h1, .ref h3, .ref h4, .int (nI hf), .int (nI ep), .int (nI bl), .int (nI en)])), (h1, .inr (0, [.ref h2, .int (nI u)])), (h2, .inl (cI, 2470, .inl (nA rb)))] := hD
            refine n_icmp_ne (tgt := 131) hx hb d_Log_isEntry_124 (by decide) (by omega) (by omega) (fun c_124 => ?_) (fun c_124 => ?_)
            · skip
              refine lv_iconst (v := bI false) hx hb d_Log_isEntry_131 (by decide) ?_
              exact hret false _ _ 132 ls d_Log_isEntry_132 (hP.sub [0, 1, 2] rfl) (hD.sub [0, 1, 2] (by decide) rfl) hS (by rw [hinv, show (rowAt rb u start) - i = 0 by omega]; first | exact (decide_eq_true (congrArg some c_124)).symm | exact (decide_eq_false (fun q => c_124 (Option.some.inj q))).symm)
            · skip
              refine lv_iconst (v := bI true) hx hb d_Log_isEntry_127 (by decide) ?_
              refine lv_goto (tgt := 132) hx hb d_Log_isEntry_128 (by decide) ?_
              exact hret true _ _ 132 ls d_Log_isEntry_132 (hP.sub [0, 1, 2] rfl) (hD.sub [0, 1, 2] (by decide) rfl) hS (by rw [hinv, show (rowAt rb u start) - i = 0 by omega]; first | exact (decide_eq_true (congrArg some c_124)).symm | exact (decide_eq_false (fun q => c_124 (Option.some.inj q))).symm)
          · skip
            refine lv_aload_n hx hb d_Log_isEntry_35 rfl (lv_at hl 0 rfl) ?_
            refine va_get (D := (dC, dI)) (ci := 5) (v := .ref h1) (C := R_Log) (T := F_Log) (N := 7) hx hb hts in_Log hown hK hP 0 rfl rfl 0 (by decide) (hts _ u_92) (fun _ h9 => h9) rfl d_Log_isEntry_36 ?_
            refine lv_iload_n hx hb d_Log_isEntry_39 rfl (lv_at hl 3 rfl) ?_
            refine lv_iconst (v := nI 1) hx hb d_Log_isEntry_40 (by decide) ?_
            refine n_iadd hx hb d_Log_isEntry_41 ?_
            refine kj_i (wr := [(h0, .inr (5, [.ref h1, .ref h3, .ref h4, .int (nI hf), .int (nI ep), .int (nI bl), .int (nI en)]))]) (va_runV (As := [.int (nI (at' + 1))]) (rest := []) SS (c_Row_at l dC dI cI H.size h1 h2 2470 rb u (at' + 1) (by omega) (by omega) (by omega)) (k_cwV 1 hts u_235 u_236 u_237 u_38 u_238 rfl rfl (by decide +kernel) ⟨Nat.le_of_ble_eq_true rfl, Nat.le_of_ble_eq_true rfl⟩) (kp_V hN hK [0] rfl hP hD [1, 2] rfl (by decide) (ci := 0) rfl 0 rfl) rfl rfl hl.1 rfl (lv_room (Nat.le_of_ble_eq_true rfl)) d_Log_isEntry_42 ⟨Nat.le_of_ble_eq_true rfl, Nat.le_of_ble_eq_true rfl⟩) hP hD hS hA [1, 2] [0] rfl rfl (by decide) (by decide) (fun H locs hP hD hS => ?_)
            have hP : va_P (dC, dI) CL_ [(h0, .inr (5, [.ref h1, .ref h3, .ref h4, .int (nI hf), .int (nI ep), .int (nI bl), .int (nI en)])), (h1, .inr (0, [.ref h2, .int (nI u)])), (h2, .inl (cI, 2470, .inl (nA rb)))] H := hP
            have hD : va_D A [(h0, .inr (5, [.ref h1, .ref h3, .ref h4, .int (nI hf), .int (nI ep), .int (nI bl), .int (nI en)])), (h1, .inr (0, [.ref h2, .int (nI u)])), (h2, .inl (cI, 2470, .inl (nA rb)))] := hD
            refine lv_istore (lv' := [(5, .int (nI (rowAt rb u (at' + 1)))), (0, .ref h0), (1, .int (nI start)), (2, .int (nI (rowAt rb u start))), (3, .int (nI at')), (4, .int (nI i))]) hx hb d_Log_isEntry_45 hl (by decide) rfl (fun ls hl => ?_)
            refine lv_iload_n hx hb d_Log_isEntry_47 rfl (lv_at hl 4 rfl) ?_
            refine lv_iconst (v := nI 2) hx hb d_Log_isEntry_48 (by decide) ?_
            refine n_iadd hx hb d_Log_isEntry_49 ?_
            refine lv_aload_n hx hb d_Log_isEntry_50 rfl (lv_at hl 1 rfl) ?_
            refine va_get (D := (dC, dI)) (ci := 5) (v := .ref h1) (C := R_Log) (T := F_Log) (N := 7) hx hb hts in_Log hown hK hP 0 rfl rfl 0 (by decide) (hts _ u_92) (fun _ h9 => h9) rfl d_Log_isEntry_51 ?_
            refine kj_i (wr := [(h0, .inr (5, [.ref h1, .ref h3, .ref h4, .int (nI hf), .int (nI ep), .int (nI bl), .int (nI en)]))]) (va_runV (As := []) (rest := [.int (nI (at' + 2))]) SS (c_Row_length l dC dI cI H.size h1 h2 2470 rb u ) (k_cwV 0 hts u_239 u_240 u_241 u_38 u_242 rfl rfl (by decide +kernel) ⟨Nat.le_of_ble_eq_true rfl, Nat.le_of_ble_eq_true rfl⟩) (kp_V hN hK [0] rfl hP hD [1, 2] rfl (by decide) (ci := 0) rfl 0 rfl) rfl rfl hl.1 rfl (lv_room (Nat.le_of_ble_eq_true rfl)) d_Log_isEntry_54 ⟨Nat.le_of_ble_eq_true rfl, Nat.le_of_ble_eq_true rfl⟩) hP hD hS hA [1, 2] [0] rfl rfl (by decide) (by decide) (fun H locs hP hD hS => ?_)
            have hP : va_P (dC, dI) CL_ [(h0, .inr (5, [.ref h1, .ref h3, .ref h4, .int (nI hf), .int (nI ep), .int (nI bl), .int (nI en)])), (h1, .inr (0, [.ref h2, .int (nI u)])), (h2, .inl (cI, 2470, .inl (nA rb)))] H := hP
            have hD : va_D A [(h0, .inr (5, [.ref h1, .ref h3, .ref h4, .int (nI hf), .int (nI ep), .int (nI bl), .int (nI en)])), (h1, .inr (0, [.ref h2, .int (nI u)])), (h2, .inl (cI, 2470, .inl (nA rb)))] := hD
            refine n_icmp_gt (tgt := 89) hx hb d_Log_isEntry_57 (by decide) (by omega) (by omega) (fun c_57 => ?_) (fun c_57 => ?_)
            · skip
              refine lv_iconst (v := bI false) hx hb d_Log_isEntry_89 (by decide) ?_
              exact hret false _ _ 90 ls d_Log_isEntry_90 (hP.sub [0, 1, 2] rfl) (hD.sub [0, 1, 2] (by decide) rfl) hS (by rw [hinv, show (rowAt rb u start) - i = ((rowAt rb u start) - (i + 1)) + 1 by omega, ieLoop, if_neg (fun h => by first | omega | exact of_decide_eq_false c_71 h.2.1)]; rfl)
            · skip
              refine lv_aload_n hx hb d_Log_isEntry_60 rfl (lv_at hl 1 rfl) ?_
              refine va_get (D := (dC, dI)) (ci := 5) (v := .ref h1) (C := R_Log) (T := F_Log) (N := 7) hx hb hts in_Log hown hK hP 0 rfl rfl 0 (by decide) (hts _ u_92) (fun _ h9 => h9) rfl d_Log_isEntry_61 ?_
              refine lv_iload_n hx hb d_Log_isEntry_64 rfl (lv_at hl 4 rfl) ?_
              refine kj_i (wr := [(h0, .inr (5, [.ref h1, .ref h3, .ref h4, .int (nI hf), .int (nI ep), .int (nI bl), .int (nI en)]))]) (va_runV (As := [.int (nI at')]) (rest := []) SS (c_Row_at l dC dI cI H.size h1 h2 2470 rb u at' (by omega) (by omega) (by omega)) (k_cwV 1 hts u_235 u_236 u_237 u_38 u_238 rfl rfl (by decide +kernel) ⟨Nat.le_of_ble_eq_true rfl, Nat.le_of_ble_eq_true rfl⟩) (kp_V hN hK [0] rfl hP hD [1, 2] rfl (by decide) (ci := 0) rfl 0 rfl) rfl rfl hl.1 rfl (lv_room (Nat.le_of_ble_eq_true rfl)) d_Log_isEntry_65 ⟨Nat.le_of_ble_eq_true rfl, Nat.le_of_ble_eq_true rfl⟩) hP hD hS hA [1, 2] [0] rfl rfl (by decide) (by decide) (fun H locs hP hD hS => ?_)
              have hP : va_P (dC, dI) CL_ [(h0, .inr (5, [.ref h1, .ref h3, .ref h4, .int (nI hf), .int (nI ep), .int (nI bl), .int (nI en)])), (h1, .inr (0, [.ref h2, .int (nI u)])), (h2, .inl (cI, 2470, .inl (nA rb)))] H := hP
              have hD : va_D A [(h0, .inr (5, [.ref h1, .ref h3, .ref h4, .int (nI hf), .int (nI ep), .int (nI bl), .int (nI en)])), (h1, .inr (0, [.ref h2, .int (nI u)])), (h2, .inl (cI, 2470, .inl (nA rb)))] := hD
              refine kj_i (wr := [(h0, .inr (5, [.ref h1, .ref h3, .ref h4, .int (nI hf), .int (nI ep), .int (nI bl), .int (nI en)])), (h1, .inr (0, [.ref h2, .int (nI u)])), (h2, .inl (cI, 2470, .inl (nA rb)))]) (va_runSN (As := [.int (nI (rowAt rb u at'))]) (rest := []) SS (c_isKey l dC dI cI H.size (rowAt rb u at') (by omega)) (k_cwN 1 hts hN (List.mem_of_getElem? (i := 6) rfl) u_244 u_35 u_245 rfl rfl (by decide +kernel) ⟨Nat.le_of_ble_eq_true rfl, Nat.le_of_ble_eq_true rfl⟩) (kp_S hN hK [0] rfl hP hD [] rfl (by decide)) rfl rfl hl.1 rfl (lv_room (Nat.le_of_ble_eq_true rfl)) d_Log_isEntry_68 ⟨Nat.le_of_ble_eq_true rfl, Nat.le_of_ble_eq_true rfl⟩) hP hD hS hA [] [0, 1, 2] rfl rfl (by decide) (by decide) (fun H locs hP hD hS => ?_)
              have hP : va_P (dC, dI) CL_ [(h0, .inr (5, [.ref h1, .ref h3, .ref h4, .int (nI hf), .int (nI ep), .int (nI bl), .int (nI en)])), (h1, .inr (0, [.ref h2, .int (nI u)])), (h2, .inl (cI, 2470, .inl (nA rb)))] H := hP
              have hD : va_D A [(h0, .inr (5, [.ref h1, .ref h3, .ref h4, .int (nI hf), .int (nI ep), .int (nI bl), .int (nI en)])), (h1, .inr (0, [.ref h2, .int (nI u)])), (h2, .inl (cI, 2470, .inl (nA rb)))] := hD
              refine n_if_eqB (tgt := 89) hx hb d_Log_isEntry_71 (by decide) (fun c_71 => ?_) (fun c_71 => ?_)
              · skip
                refine lv_iconst (v := bI false) hx hb d_Log_isEntry_89 (by decide) ?_
                exact hret false _ _ 90 ls d_Log_isEntry_90 (hP.sub [0, 1, 2] rfl) (hD.sub [0, 1, 2] (by decide) rfl) hS (by rw [hinv, show (rowAt rb u start) - i = ((rowAt rb u start) - (i + 1)) + 1 by omega, ieLoop, if_neg (fun h => by first | omega | exact of_decide_eq_false c_71 h.2.1)]; rfl)
              · skip
                refine lv_iload hx hb d_Log_isEntry_74 (lv_at hl 0 rfl) ?_
                refine lv_bipush (v := nI 40) hx hb d_Log_isEntry_76 (by decide) ?_
                refine n_icmp_le (tgt := 91) hx hb d_Log_isEntry_78 (by decide) (by omega) (by omega) (fun c_78 => ?_) (fun c_78 => ?_)
                · skip
                  refine lv_iload_n hx hb d_Log_isEntry_91 rfl (lv_at hl 4 rfl) ?_
                  refine lv_iload hx hb d_Log_isEntry_92 (lv_at hl 0 rfl) ?_
                  refine lv_sipush (v := nI 255) hx hb d_Log_isEntry_94 (by decide) ?_
                  refine n_icmp_ne (tgt := 104) hx hb d_Log_isEntry_97 (by decide) (by omega) (by omega) (fun c_97 => ?_) (fun c_97 => ?_)
                  · skip
                    refine lv_iconst (v := nI 2) hx hb d_Log_isEntry_104 (by decide) ?_
                    refine lv_iload hx hb d_Log_isEntry_105 (lv_at hl 0 rfl) ?_
                    refine n_iadd hx hb d_Log_isEntry_107 ?_
                    refine n_iadd hx hb d_Log_isEntry_108 ?_
                    refine top_i (nI (at' + (if rowAt rb u (at' + 1) = 255 then 2 else 2 + rowAt rb u (at' + 1)))) (by first | rw [if_pos c_97] | rw [if_neg c_97]) ?_
                    refine lv_istore_n (lv' := [(3, .int (nI (at' + (if rowAt rb u (at' + 1) = 255 then 2 else 2 + rowAt rb u (at' + 1))))), (5, .int (nI (rowAt rb u (at' + 1)))), (0, .ref h0), (1, .int (nI start)), (2, .int (nI (rowAt rb u start))), (4, .int (nI i))]) hx hb d_Log_isEntry_109 rfl hl (by decide) rfl (fun ls hl => ?_)
                    refine lv_iinc (v := nI (i + 1)) (lv' := [(4, .int (nI (i + 1))), (3, .int (nI (at' + (if rowAt rb u (at' + 1) = 255 then 2 else 2 + rowAt rb u (at' + 1))))), (5, .int (nI (rowAt rb u (at' + 1)))), (0, .ref h0), (1, .int (nI start)), (2, .int (nI (rowAt rb u start)))]) hx hb d_Log_isEntry_110 hl (k := 5) rfl (inc1 i) (by decide) rfl (fun ls hl => ?_)
                    refine lv_goto (tgt := 29) hx hb d_Log_isEntry_113 (by decide) ?_
                    exact ih (i + 1) _ (by omega) (by omega) (by split <;> omega) (by rw [hinv, show (rowAt rb u start) - i = ((rowAt rb u start) - (i + 1)) + 1 by omega, ieLoop, if_pos ⟨by omega, of_decide_eq_true c_71, by omega⟩]) _ _ _ (hP.sub [0, 1, 2] rfl) (hD.sub [0, 1, 2] (by decide) rfl) hS (lv_sub hl [3, 4, 5, 1, 0] rfl)
                  · skip
                    refine lv_iconst (v := nI 2) hx hb d_Log_isEntry_100 (by decide) ?_
                    refine lv_goto (tgt := 108) hx hb d_Log_isEntry_101 (by decide) ?_
                    refine n_iadd hx hb d_Log_isEntry_108 ?_
                    refine top_i (nI (at' + (if rowAt rb u (at' + 1) = 255 then 2 else 2 + rowAt rb u (at' + 1)))) (by first | rw [if_pos c_97] | rw [if_neg c_97]) ?_
                    refine lv_istore_n (lv' := [(3, .int (nI (at' + (if rowAt rb u (at' + 1) = 255 then 2 else 2 + rowAt rb u (at' + 1))))), (5, .int (nI (rowAt rb u (at' + 1)))), (0, .ref h0), (1, .int (nI start)), (2, .int (nI (rowAt rb u start))), (4, .int (nI i))]) hx hb d_Log_isEntry_109 rfl hl (by decide) rfl (fun ls hl => ?_)
                    refine lv_iinc (v := nI (i + 1)) (lv' := [(4, .int (nI (i + 1))), (3, .int (nI (at' + (if rowAt rb u (at' + 1) = 255 then 2 else 2 + rowAt rb u (at' + 1))))), (5, .int (nI (rowAt rb u (at' + 1)))), (0, .ref h0), (1, .int (nI start)), (2, .int (nI (rowAt rb u start)))]) hx hb d_Log_isEntry_110 hl (k := 5) rfl (inc1 i) (by decide) rfl (fun ls hl => ?_)
                    refine lv_goto (tgt := 29) hx hb d_Log_isEntry_113 (by decide) ?_
                    exact ih (i + 1) _ (by omega) (by omega) (by split <;> omega) (by rw [hinv, show (rowAt rb u start) - i = ((rowAt rb u start) - (i + 1)) + 1 by omega, ieLoop, if_pos ⟨by omega, of_decide_eq_true c_71, by omega⟩]) _ _ _ (hP.sub [0, 1, 2] rfl) (hD.sub [0, 1, 2] (by decide) rfl) hS (lv_sub hl [3, 4, 5, 1, 0] rfl)
                · skip
                  refine lv_iload hx hb d_Log_isEntry_81 (lv_at hl 0 rfl) ?_
                  refine lv_sipush (v := nI 255) hx hb d_Log_isEntry_83 (by decide) ?_
                  refine n_icmp_eq (tgt := 91) hx hb d_Log_isEntry_86 (by decide) (by omega) (by omega) (fun c_86 => ?_) (fun c_86 => ?_)
                  · skip
                    refine lv_iload_n hx hb d_Log_isEntry_91 rfl (lv_at hl 4 rfl) ?_
                    refine lv_iload hx hb d_Log_isEntry_92 (lv_at hl 0 rfl) ?_
                    refine lv_sipush (v := nI 255) hx hb d_Log_isEntry_94 (by decide) ?_
                    refine n_icmp_ne (tgt := 104) hx hb d_Log_isEntry_97 (by decide) (by omega) (by omega) (fun c_97 => ?_) (fun c_97 => ?_)
                    · skip
                      refine lv_iconst (v := nI 2) hx hb d_Log_isEntry_104 (by decide) ?_
                      refine lv_iload hx hb d_Log_isEntry_105 (lv_at hl 0 rfl) ?_
                      refine n_iadd hx hb d_Log_isEntry_107 ?_
                      refine n_iadd hx hb d_Log_isEntry_108 ?_
                      refine top_i (nI (at' + (if rowAt rb u (at' + 1) = 255 then 2 else 2 + rowAt rb u (at' + 1)))) (by first | rw [if_pos c_97] | rw [if_neg c_97]) ?_
                      refine lv_istore_n (lv' := [(3, .int (nI (at' + (if rowAt rb u (at' + 1) = 255 then 2 else 2 + rowAt rb u (at' + 1))))), (5, .int (nI (rowAt rb u (at' + 1)))), (0, .ref h0), (1, .int (nI start)), (2, .int (nI (rowAt rb u start))), (4, .int (nI i))]) hx hb d_Log_isEntry_109 rfl hl (by decide) rfl (fun ls hl => ?_)
                      refine lv_iinc (v := nI (i + 1)) (lv' := [(4, .int (nI (i + 1))), (3, .int (nI (at' + (if rowAt rb u (at' + 1) = 255 then 2 else 2 + rowAt rb u (at' + 1))))), (5, .int (nI (rowAt rb u (at' + 1)))), (0, .ref h0), (1, .int (nI start)), (2, .int (nI (rowAt rb u start)))]) hx hb d_Log_isEntry_110 hl (k := 5) rfl (inc1 i) (by decide) rfl (fun ls hl => ?_)
                      refine lv_goto (tgt := 29) hx hb d_Log_isEntry_113 (by decide) ?_
                      exact ih (i + 1) _ (by omega) (by omega) (by split <;> omega) (by rw [hinv, show (rowAt rb u start) - i = ((rowAt rb u start) - (i + 1)) + 1 by omega, ieLoop, if_pos ⟨by omega, of_decide_eq_true c_71, by omega⟩]) _ _ _ (hP.sub [0, 1, 2] rfl) (hD.sub [0, 1, 2] (by decide) rfl) hS (lv_sub hl [3, 4, 5, 1, 0] rfl)
                    · skip
                      refine lv_iconst (v := nI 2) hx hb d_Log_isEntry_100 (by decide) ?_
                      refine lv_goto (tgt := 108) hx hb d_Log_isEntry_101 (by decide) ?_
                      refine n_iadd hx hb d_Log_isEntry_108 ?_
                      refine top_i (nI (at' + (if rowAt rb u (at' + 1) = 255 then 2 else 2 + rowAt rb u (at' + 1)))) (by first | rw [if_pos c_97] | rw [if_neg c_97]) ?_
                      refine lv_istore_n (lv' := [(3, .int (nI (at' + (if rowAt rb u (at' + 1) = 255 then 2 else 2 + rowAt rb u (at' + 1))))), (5, .int (nI (rowAt rb u (at' + 1)))), (0, .ref h0), (1, .int (nI start)), (2, .int (nI (rowAt rb u start))), (4, .int (nI i))]) hx hb d_Log_isEntry_109 rfl hl (by decide) rfl (fun ls hl => ?_)
                      refine lv_iinc (v := nI (i + 1)) (lv' := [(4, .int (nI (i + 1))), (3, .int (nI (at' + (if rowAt rb u (at' + 1) = 255 then 2 else 2 + rowAt rb u (at' + 1))))), (5, .int (nI (rowAt rb u (at' + 1)))), (0, .ref h0), (1, .int (nI start)), (2, .int (nI (rowAt rb u start)))]) hx hb d_Log_isEntry_110 hl (k := 5) rfl (inc1 i) (by decide) rfl (fun ls hl => ?_)
                      refine lv_goto (tgt := 29) hx hb d_Log_isEntry_113 (by decide) ?_
                      exact ih (i + 1) _ (by omega) (by omega) (by split <;> omega) (by rw [hinv, show (rowAt rb u start) - i = ((rowAt rb u start) - (i + 1)) + 1 by omega, ieLoop, if_pos ⟨by omega, of_decide_eq_true c_71, by omega⟩]) _ _ _ (hP.sub [0, 1, 2] rfl) (hD.sub [0, 1, 2] (by decide) rfl) hS (lv_sub hl [3, 4, 5, 1, 0] rfl)
                  · skip
                    refine lv_iconst (v := bI false) hx hb d_Log_isEntry_89 (by decide) ?_
                    exact hret false _ _ 90 ls d_Log_isEntry_90 (hP.sub [0, 1, 2] rfl) (hD.sub [0, 1, 2] (by decide) rfl) hS (by rw [hinv, show (rowAt rb u start) - i = ((rowAt rb u start) - (i + 1)) + 1 by omega, ieLoop, if_neg (fun h => by first | omega | exact of_decide_eq_false c_71 h.2.1)]; rfl)
      exact loop_29 ((rowAt rb u start) + 1) 0 (start + 1) (by omega) (by omega) (by omega) (by unfold isEntN; rw [Nat.sub_zero]; congr 1; exact propext ⟨fun q => q.2.2, fun q => ⟨by omega, by omega, q⟩⟩) _ _ _ (hP.sub [0, 1, 2] rfl) (hD.sub [0, 1, 2] (by decide) rfl) hS (lv_sub hl [3, 4, 2, 1, 0] rfl)
    · skip
      refine lv_iconst (v := bI false) hx hb d_Log_isEntry_20 (by decide) ?_
      exact hret false _ _ 21 ls d_Log_isEntry_21 (hP.sub [0, 1, 2] rfl) (hD.sub [0, 1, 2] (by decide) rfl) hS ((decide_eq_false (fun q => by have q1 := q.1; have q2 := q.2.1; omega)).symm)
