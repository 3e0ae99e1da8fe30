abbrev rm_Log_apply : Room := { frames := 1, cells := 0, slots := 0, locals := 21 }
set_option maxHeartbeats 4000000 in
set_option maxRecDepth 100000 in
theorem c_Log_apply (l : Launch) (dC : Nat → ClassId) (dI : Nat → Nat → Nat) (cI : ClassId) (sz : Nat) (h0 : Nat) (h1 : Nat) (h3 : Nat) (h4 : Nat) (hf : Nat) (ep : Nat) (bl : Nat) (en : Nat) (h2 : Nat) (rb : Nat → Nat) (u : Nat) (st : Nat → Nat) (z : Nat → Option Nat) (start : Nat) (hu : u ≤ 2470) (hst : start ≤ 2470) (hrb : ∀ j, rb j < 256) : KV l y_Log_apply w_Log_apply rm_Log_apply (dC, dI) CL_ [(cI, .int)] sz [.ref h0, .int (nI start)] [(h0, .inr (5, [.ref h1, .ref h3, .ref h4, .int (nI hf), .int (nI ep), .int (nI bl), .int (nI en)])), (h1, .inr (0, [.ref h2, .int (nI u)])), (h2, .inl (cI, 2470, .inl (nA rb))), (h3, .inl (cI, 200, .inl (nA st))), (h4, .inl (cI, 200, .inl (oA z)))] [(h0, .inr (5, [.ref h1, .ref h3, .ref h4, .int (nI hf), .int (nI ep), .int (nI bl), .int (nI en)])), (h1, .inr (0, [.ref h2, .int (nI u)])), (h2, .inl (cI, 2470, .inl (nA rb))), (h3, .inl (cI, 200, .inl (nA (apLoop rb u (rowAt rb u start) (start + 1) st z).1))), (h4, .inl (cI, 200, .inl (oA (apLoop rb u (rowAt rb u start) (start + 1) st z).2)))] := by
  refine k_start_v (cc := b_Log_apply) (maxL := 7) (by decide) (Nat.le_of_ble_eq_true rfl) ?_
  intro p e s m args below meth c A QQ ls SS hK hP hD hA hl hN hret
  obtain ⟨hx, hb, hml, hown, hts⟩ := id SS
  have hl : lv_has ls 7 [(0, .ref h0), (1, .int (nI start))] := hl
  have hS : va_S A s.heap s.heap [] := va_S.rf
  have hbC := rowAt_b (u := u) (j := start) hrb
  refine lv_aload_n hx hb d_Log_apply_0 rfl (lv_at hl 0 rfl) ?_
  refine va_get (D := (dC, dI)) (ci := 5) (v := .ref h1) (C := R_Log) (T := F_Log) (N := 7) hx hb hts in_Log hown hK hP 0 rfl rfl 0 (by decide) (hts _ u_92) (fun _ h9 => h9) rfl d_Log_apply_1 ?_
  refine lv_iload_n hx hb d_Log_apply_4 rfl (lv_at hl 1 rfl) ?_
  refine kj_i (wr := [(h0, .inr (5, [.ref h1, .ref h3, .ref h4, .int (nI hf), .int (nI ep), .int (nI bl), .int (nI en)])), (h3, .inl (cI, 200, .inl (nA st))), (h4, .inl (cI, 200, .inl (oA z)))]) (va_runV (As := [.int (nI start)]) (rest := []) SS (c_Row_at l dC dI cI s.heap.size h1 h2 2470 rb u start (by omega) (by omega) (by omega)) (k_cwV 1 hts u_235 u_236 u_237 u_38 u_238 rfl rfl (by decide +kernel) ⟨Nat.le_of_ble_eq_true rfl, Nat.le_of_ble_eq_true rfl⟩) (kp_V hN hK [0] rfl hP hD [1, 2] rfl (by decide) (ci := 0) rfl 0 rfl) rfl rfl hl.1 rfl (lv_room (Nat.le_of_ble_eq_true rfl)) d_Log_apply_5 ⟨Nat.le_of_ble_eq_true rfl, Nat.le_of_ble_eq_true rfl⟩) hP hD hS hA [1, 2] [0, 3, 4] rfl rfl (by decide) (by decide) (fun H locs hP hD hS => ?_)
  have hP : va_P (dC, dI) CL_ [(h0, .inr (5, [.ref h1, .ref h3, .ref h4, .int (nI hf), .int (nI ep), .int (nI bl), .int (nI en)])), (h3, .inl (cI, 200, .inl (nA st))), (h4, .inl (cI, 200, .inl (oA z))), (h1, .inr (0, [.ref h2, .int (nI u)])), (h2, .inl (cI, 2470, .inl (nA rb)))] H := hP
  have hD : va_D A [(h0, .inr (5, [.ref h1, .ref h3, .ref h4, .int (nI hf), .int (nI ep), .int (nI bl), .int (nI en)])), (h3, .inl (cI, 200, .inl (nA st))), (h4, .inl (cI, 200, .inl (oA z))), (h1, .inr (0, [.ref h2, .int (nI u)])), (h2, .inl (cI, 2470, .inl (nA rb)))] := hD
  refine lv_istore_n (lv' := [(2, .int (nI (rowAt rb u start))), (0, .ref h0), (1, .int (nI start))]) hx hb d_Log_apply_8 rfl hl (by decide) rfl (fun ls hl => ?_)
  refine lv_iload_n hx hb d_Log_apply_9 rfl (lv_at hl 2 rfl) ?_
  refine lv_iconst (v := nI 1) hx hb d_Log_apply_10 (by decide) ?_
  refine n_iadd hx hb d_Log_apply_11 ?_
  refine lv_istore_n (lv' := [(3, .int (nI (start + 1))), (2, .int (nI (rowAt rb u start))), (0, .ref h0), (1, .int (nI start))]) hx hb d_Log_apply_12 rfl hl (by decide) rfl (fun ls hl => ?_)
  refine lv_iconst (v := nI 0) hx hb d_Log_apply_13 (by decide) ?_
  refine lv_istore (lv' := [(4, .int (nI 0)), (3, .int (nI (start + 1))), (2, .int (nI (rowAt rb u start))), (0, .ref h0), (1, .int (nI start))]) hx hb d_Log_apply_14 hl (by decide) rfl (fun ls hl => ?_)
  have loop_16 : ∀ (n_ : Nat) (i at' : Nat) (st' : Nat → Nat) (z' : Nat → Option Nat), (i ≤ (rowAt rb u start)) → ((rowAt rb u start) + 1 ≤ i + n_) → (at' ≤ start + 1 + i * 258) → ((apLoop rb u (rowAt rb u start) (start + 1) st z) = apLoop rb u ((rowAt rb u start) - i) at' st' z') → ∀ (H : Heap) (locs : List Loc) (ls : Array Slot), va_P (dC, dI) CL_ [(h0, .inr (5, [.ref h1, .ref h3, .ref h4, .int (nI hf), .int (nI ep), .int (nI bl), .int (nI en)])), (h1, .inr (0, [.ref h2, .int (nI u)])), (h2, .inl (cI, 2470, .inl (nA rb))), (h3, .inl (cI, 200, .inl (nA st'))), (h4, .inl (cI, 200, .inl (oA z')))] H → va_D A [(h0, .inr (5, [.ref h1, .ref h3, .ref h4, .int (nI hf), .int (nI ep), .int (nI bl), .int (nI en)])), (h1, .inr (0, [.ref h2, .int (nI u)])), (h2, .inl (cI, 2470, .inl (nA rb))), (h3, .inl (cI, 200, .inl (nA st'))), (h4, .inl (cI, 200, .inl (oA z')))] → va_S A s.heap H locs → lv_has ls 7 [(0, .ref h0), (1, .int (nI start)), (2, .int (nI (rowAt rb u start))), (3, .int (nI at')), (4, .int (nI i))] → W p l e rm_Log_apply s m args below meth c H locs 0 0 QQ (F0 m 16 ls []) := by
    intro n_
    induction n_ with
    | zero =>
      intro i at' st' z' hi hf2 hat hinv
      exact absurd hf2 (by omega)
    | succ n_ ih =>
      intro i at' st' z' hi hf2 hat hinv H locs ls hP hD hS hl
      have hb1 := rowAt_b (u := u) (j := at') hrb
      have hb2 := rowAt_b (u := u) (j := at' + 1) hrb
      refine lv_iload hx hb d_Log_apply_16 (lv_at hl 4 rfl) ?_
      refine lv_iload_n hx hb d_Log_apply_18 rfl (lv_at hl 2 rfl) ?_
      refine n_icmp_ge (tgt := 107) hx hb d_Log_apply_19 (by decide) (by omega) (by omega) (fun c_19 => ?_) (fun c_19 => ?_)
      · skip
        rw [hinv, show (rowAt rb u start) - i = 0 by omega] at hret
        exact hret _ _ 107 ls d_Log_apply_107 (hP.sub [0, 1, 2, 3, 4] rfl) (hD.sub [0, 1, 2, 3, 4] (by decide) rfl) hS
      · skip
        refine lv_aload_n hx hb d_Log_apply_22 rfl (lv_at hl 0 rfl) ?_
        refine va_get (D := (dC, dI)) (ci := 5) (v := .ref h1) (C := R_Log) (T := F_Log) (N := 7) hx hb hts in_Log hown hK hP 0 rfl rfl 0 (by decide) (hts _ u_92) (fun _ h9 => h9) rfl d_Log_apply_23 ?_
        refine lv_iload_n hx hb d_Log_apply_26 rfl (lv_at hl 3 rfl) ?_
        refine kj_i (wr := [(h0, .inr (5, [.ref h1, .ref h3, .ref h4, .int (nI hf), .int (nI ep), .int (nI bl), .int (nI en)])), (h3, .inl (cI, 200, .inl (nA st'))), (h4, .inl (cI, 200, .inl (oA z')))]) (va_runV (As := [.int (nI at')]) (rest := []) SS (c_Row_at l dC dI cI H.size h1 h2 2470 rb u at' (by omega) (by omega) (by omega)) (k_cwV 1 hts u_235 u_236 u_237 u_38 u_238 rfl rfl (by decide +kernel) ⟨Nat.le_of_ble_eq_true rfl, Nat.le_of_ble_eq_true rfl⟩) (kp_V hN hK [0] rfl hP hD [1, 2] rfl (by decide) (ci := 0) rfl 0 rfl) rfl rfl hl.1 rfl (lv_room (Nat.le_of_ble_eq_true rfl)) d_Log_apply_27 ⟨Nat.le_of_ble_eq_true rfl, Nat.le_of_ble_eq_true rfl⟩) hP hD hS hA [1, 2] [0, 3, 4] rfl rfl (by decide) (by decide) (fun H locs hP hD hS => ?_)
        have hP : va_P (dC, dI) CL_ [(h0, .inr (5, [.ref h1, .ref h3, .ref h4, .int (nI hf), .int (nI ep), .int (nI bl), .int (nI en)])), (h3, .inl (cI, 200, .inl (nA st'))), (h4, .inl (cI, 200, .inl (oA z'))), (h1, .inr (0, [.ref h2, .int (nI u)])), (h2, .inl (cI, 2470, .inl (nA rb)))] H := hP
        have hD : va_D A [(h0, .inr (5, [.ref h1, .ref h3, .ref h4, .int (nI hf), .int (nI ep), .int (nI bl), .int (nI en)])), (h3, .inl (cI, 200, .inl (nA st'))), (h4, .inl (cI, 200, .inl (oA z'))), (h1, .inr (0, [.ref h2, .int (nI u)])), (h2, .inl (cI, 2470, .inl (nA rb)))] := hD
        refine lv_istore (lv' := [(5, .int (nI (rowAt rb u at'))), (0, .ref h0), (1, .int (nI start)), (2, .int (nI (rowAt rb u start))), (3, .int (nI at')), (4, .int (nI i))]) hx hb d_Log_apply_30 hl (by decide) rfl (fun ls hl => ?_)
        refine lv_aload_n hx hb d_Log_apply_32 rfl (lv_at hl 1 rfl) ?_
        refine va_get (D := (dC, dI)) (ci := 5) (v := .ref h1) (C := R_Log) (T := F_Log) (N := 7) hx hb hts in_Log hown hK hP 0 rfl rfl 0 (by decide) (hts _ u_92) (fun _ h9 => h9) rfl d_Log_apply_33 ?_
        refine lv_iload_n hx hb d_Log_apply_36 rfl (lv_at hl 4 rfl) ?_
        refine lv_iconst (v := nI 1) hx hb d_Log_apply_37 (by decide) ?_
        refine n_iadd hx hb d_Log_apply_38 ?_
        refine kj_i (wr := [(h0, .inr (5, [.ref h1, .ref h3, .ref h4, .int (nI hf), .int (nI ep), .int (nI bl), .int (nI en)])), (h3, .inl (cI, 200, .inl (nA st'))), (h4, .inl (cI, 200, .inl (oA z')))]) (va_runV (As := [.int (nI (at' + 1))]) (rest := []) SS (c_Row_at l dC dI cI H.size h1 h2 2470 rb u (at' + 1) (by omega) (by omega) (by omega)) (k_cwV 1 hts u_235 u_236 u_237 u_38 u_238 rfl rfl (by decide +kernel) ⟨Nat.le_of_ble_eq_true rfl, Nat.le_of_ble_eq_true rfl⟩) (kp_V hN hK [0] rfl hP hD [3, 4] rfl (by decide) (ci := 0) rfl 0 rfl) rfl rfl hl.1 rfl (lv_room (Nat.le_of_ble_eq_true rfl)) d_Log_apply_39 ⟨Nat.le_of_ble_eq_true rfl, Nat.le_of_ble_eq_true rfl⟩) hP hD hS hA [3, 4] [0, 1, 2] rfl rfl (by decide) (by decide) (fun H locs hP hD hS => ?_)
        have hP : va_P (dC, dI) CL_ [(h0, .inr (5, [.ref h1, .ref h3, .ref h4, .int (nI hf), .int (nI ep), .int (nI bl), .int (nI en)])), (h3, .inl (cI, 200, .inl (nA st'))), (h4, .inl (cI, 200, .inl (oA z'))), (h1, .inr (0, [.ref h2, .int (nI u)])), (h2, .inl (cI, 2470, .inl (nA rb)))] H := hP
        have hD : va_D A [(h0, .inr (5, [.ref h1, .ref h3, .ref h4, .int (nI hf), .int (nI ep), .int (nI bl), .int (nI en)])), (h3, .inl (cI, 200, .inl (nA st'))), (h4, .inl (cI, 200, .inl (oA z'))), (h1, .inr (0, [.ref h2, .int (nI u)])), (h2, .inl (cI, 2470, .inl (nA rb)))] := hD
        refine lv_istore (lv' := [(6, .int (nI (rowAt rb u (at' + 1)))), (5, .int (nI (rowAt rb u at'))), (0, .ref h0), (1, .int (nI start)), (2, .int (nI (rowAt rb u start))), (3, .int (nI at')), (4, .int (nI i))]) hx hb d_Log_apply_42 hl (by decide) rfl (fun ls hl => ?_)
        refine lv_iinc (v := nI (at' + 2)) (lv' := [(3, .int (nI (at' + 2))), (6, .int (nI (rowAt rb u (at' + 1)))), (5, .int (nI (rowAt rb u at'))), (0, .ref h0), (1, .int (nI start)), (2, .int (nI (rowAt rb u start))), (4, .int (nI i))]) hx hb d_Log_apply_44 hl (k := 5) rfl (incn at' 2 rfl) (by decide) rfl (fun ls hl => ?_)
        refine lv_iload hx hb d_Log_apply_47 (lv_at hl 2 rfl) ?_
        refine kj_i (wr := [(h0, .inr (5, [.ref h1, .ref h3, .ref h4, .int (nI hf), .int (nI ep), .int (nI bl), .int (nI en)])), (h3, .inl (cI, 200, .inl (nA st'))), (h4, .inl (cI, 200, .inl (oA z'))), (h1, .inr (0, [.ref h2, .int (nI u)])), (h2, .inl (cI, 2470, .inl (nA rb)))]) (va_runSN (As := [.int (nI (rowAt rb u at'))]) (rest := []) SS (c_isKey l dC dI cI H.size (rowAt rb u at') (by omega)) (k_cwN 1 hts hN (List.mem_of_getElem? (i := 6) rfl) u_244 u_35 u_245 rfl rfl (by decide +kernel) ⟨Nat.le_of_ble_eq_true rfl, Nat.le_of_ble_eq_true rfl⟩) (kp_S hN hK [0] rfl hP hD [] rfl (by decide)) rfl rfl hl.1 rfl (lv_room (Nat.le_of_ble_eq_true rfl)) d_Log_apply_49 ⟨Nat.le_of_ble_eq_true rfl, Nat.le_of_ble_eq_true rfl⟩) hP hD hS hA [] [0, 1, 2, 3, 4] rfl rfl (by decide) (by decide) (fun H locs hP hD hS => ?_)
        have hP : va_P (dC, dI) CL_ [(h0, .inr (5, [.ref h1, .ref h3, .ref h4, .int (nI hf), .int (nI ep), .int (nI bl), .int (nI en)])), (h3, .inl (cI, 200, .inl (nA st'))), (h4, .inl (cI, 200, .inl (oA z'))), (h1, .inr (0, [.ref h2, .int (nI u)])), (h2, .inl (cI, 2470, .inl (nA rb)))] H := hP
        have hD : va_D A [(h0, .inr (5, [.ref h1, .ref h3, .ref h4, .int (nI hf), .int (nI ep), .int (nI bl), .int (nI en)])), (h3, .inl (cI, 200, .inl (nA st'))), (h4, .inl (cI, 200, .inl (oA z'))), (h1, .inr (0, [.ref h2, .int (nI u)])), (h2, .inl (cI, 2470, .inl (nA rb)))] := hD
        refine n_if_eqB (tgt := 84) hx hb d_Log_apply_52 (by decide) (fun c_52 => ?_) (fun c_52 => ?_)
        · skip
          refine lv_iload_n hx hb d_Log_apply_84 rfl (lv_at hl 0 rfl) ?_
          refine lv_iload hx hb d_Log_apply_85 (lv_at hl 1 rfl) ?_
          refine lv_sipush (v := nI 255) hx hb d_Log_apply_87 (by decide) ?_
          refine n_icmp_ne (tgt := 97) hx hb d_Log_apply_90 (by decide) (by omega) (by omega) (fun c_90 => ?_) (fun c_90 => ?_)
          · skip
            refine lv_iload hx hb d_Log_apply_97 (lv_at hl 1 rfl) ?_
            refine n_iadd hx hb d_Log_apply_99 ?_
            refine lv_istore_n (lv' := [(3, .int (nI ((at' + 2) + (rowAt rb u (at' + 1))))), (6, .int (nI (rowAt rb u (at' + 1)))), (5, .int (nI (rowAt rb u at'))), (0, .ref h0), (1, .int (nI start)), (2, .int (nI (rowAt rb u start))), (4, .int (nI i))]) hx hb d_Log_apply_100 rfl hl (by decide) rfl (fun ls hl => ?_)
            refine lv_iinc (v := nI (i + 1)) (lv' := [(4, .int (nI (i + 1))), (3, .int (nI ((at' + 2) + (rowAt rb u (at' + 1))))), (6, .int (nI (rowAt rb u (at' + 1)))), (5, .int (nI (rowAt rb u at'))), (0, .ref h0), (1, .int (nI start)), (2, .int (nI (rowAt rb u start)))]) hx hb d_Log_apply_101 hl (k := 6) rfl (inc1 i) (by decide) rfl (fun ls hl => ?_)
            refine lv_goto (tgt := 16) hx hb d_Log_apply_104 (by decide) ?_
            exact ih (i + 1) _ _ _ (by omega) (by omega) (by omega) (by rw [hinv, show (rowAt rb u start) - i = ((rowAt rb u start) - (i + 1)) + 1 by omega, apLoop]; (first | rw [if_pos (of_decide_eq_true c_52)] | rw [if_neg (of_decide_eq_false c_52)]); (first | simp only [if_pos c_90, Nat.add_zero] | simp only [if_neg c_90])) _ _ _ (hP.sub [0, 3, 4, 1, 2] rfl) (hD.sub [0, 3, 4, 1, 2] (by decide) rfl) hS (lv_sub hl [4, 5, 6, 1, 0] rfl)
          · skip
            refine lv_iconst (v := nI 0) hx hb d_Log_apply_93 (by decide) ?_
            refine lv_goto (tgt := 99) hx hb d_Log_apply_94 (by decide) ?_
            refine n_iadd hx hb d_Log_apply_99 ?_
            refine lv_istore_n (lv' := [(3, .int (nI ((at' + 2) + 0))), (6, .int (nI (rowAt rb u (at' + 1)))), (5, .int (nI (rowAt rb u at'))), (0, .ref h0), (1, .int (nI start)), (2, .int (nI (rowAt rb u start))), (4, .int (nI i))]) hx hb d_Log_apply_100 rfl hl (by decide) rfl (fun ls hl => ?_)
            refine lv_iinc (v := nI (i + 1)) (lv' := [(4, .int (nI (i + 1))), (3, .int (nI ((at' + 2) + 0))), (6, .int (nI (rowAt rb u (at' + 1)))), (5, .int (nI (rowAt rb u at'))), (0, .ref h0), (1, .int (nI start)), (2, .int (nI (rowAt rb u start)))]) hx hb d_Log_apply_101 hl (k := 6) rfl (inc1 i) (by decide) rfl (fun ls hl => ?_)
            refine lv_goto (tgt := 16) hx hb d_Log_apply_104 (by decide) ?_
            exact ih (i + 1) _ _ _ (by omega) (by omega) (by omega) (by rw [hinv, show (rowAt rb u start) - i = ((rowAt rb u start) - (i + 1)) + 1 by omega, apLoop]; (first | rw [if_pos (of_decide_eq_true c_52)] | rw [if_neg (of_decide_eq_false c_52)]); (first | simp only [if_pos c_90, Nat.add_zero] | simp only [if_neg c_90])) _ _ _ (hP.sub [0, 3, 4, 1, 2] rfl) (hD.sub [0, 3, 4, 1, 2] (by decide) rfl) hS (lv_sub hl [4, 5, 6, 1, 0] rfl)
        · skip
          refine lv_aload_n hx hb d_Log_apply_55 rfl (lv_at hl 3 rfl) ?_
          refine va_get (D := (dC, dI)) (ci := 5) (v := .ref h3) (C := R_Log) (T := F_Log) (N := 7) hx hb hts in_Log hown hK hP 0 rfl rfl 1 (by decide) (hts _ u_93) (fun _ h9 => h9) rfl d_Log_apply_56 ?_
          refine lv_iload hx hb d_Log_apply_59 (lv_at hl 2 rfl) ?_
          refine lv_iload_n hx hb d_Log_apply_61 rfl (lv_at hl 0 rfl) ?_
          refine n_iast (f' := nA (updN st' (rowAt rb u at') (at' + 2))) hx hb hK hP hD hS 1 0 rfl rfl (nA_upd _ _ _) (of_decide_eq_true c_52) (by omega) d_Log_apply_62 (fun H locs hP hD hS => ?_)
          have hP : va_P (dC, dI) CL_ [(h0, .inr (5, [.ref h1, .ref h3, .ref h4, .int (nI hf), .int (nI ep), .int (nI bl), .int (nI en)])), (h3, .inl (cI, 200, .inl (nA (updN st' (rowAt rb u at') (at' + 2))))), (h4, .inl (cI, 200, .inl (oA z'))), (h1, .inr (0, [.ref h2, .int (nI u)])), (h2, .inl (cI, 2470, .inl (nA rb)))] H := hP
          have hD : va_D A [(h0, .inr (5, [.ref h1, .ref h3, .ref h4, .int (nI hf), .int (nI ep), .int (nI bl), .int (nI en)])), (h3, .inl (cI, 200, .inl (nA (updN st' (rowAt rb u at') (at' + 2))))), (h4, .inl (cI, 200, .inl (oA z'))), (h1, .inr (0, [.ref h2, .int (nI u)])), (h2, .inl (cI, 2470, .inl (nA rb)))] := hD
          refine lv_aload_n hx hb d_Log_apply_63 rfl (lv_at hl 3 rfl) ?_
          refine va_get (D := (dC, dI)) (ci := 5) (v := .ref h4) (C := R_Log) (T := F_Log) (N := 7) hx hb hts in_Log hown hK hP 0 rfl rfl 2 (by decide) (hts _ u_94) (fun _ h9 => h9) rfl d_Log_apply_64 ?_
          refine lv_iload hx hb d_Log_apply_67 (lv_at hl 2 rfl) ?_
          refine lv_iload hx hb d_Log_apply_69 (lv_at hl 1 rfl) ?_
          refine lv_sipush (v := nI 255) hx hb d_Log_apply_71 (by decide) ?_
          refine n_icmp_ne (tgt := 81) hx hb d_Log_apply_74 (by decide) (by omega) (by omega) (fun c_74 => ?_) (fun c_74 => ?_)
          · skip
            refine lv_iload hx hb d_Log_apply_81 (lv_at hl 1 rfl) ?_
            refine n_iast (f' := oA (updO z' (rowAt rb u at') (some (rowAt rb u (at' + 1))))) hx hb hK hP hD hS 2 0 rfl rfl (oA_upd _ _ (some (rowAt rb u (at' + 1)))) (of_decide_eq_true c_52) (by omega) d_Log_apply_83 (fun H locs hP hD hS => ?_)
            have hP : va_P (dC, dI) CL_ [(h0, .inr (5, [.ref h1, .ref h3, .ref h4, .int (nI hf), .int (nI ep), .int (nI bl), .int (nI en)])), (h3, .inl (cI, 200, .inl (nA (updN st' (rowAt rb u at') (at' + 2))))), (h4, .inl (cI, 200, .inl (oA (updO z' (rowAt rb u at') (some (rowAt rb u (at' + 1))))))), (h1, .inr (0, [.ref h2, .int (nI u)])), (h2, .inl (cI, 2470, .inl (nA rb)))] H := hP
            have hD : va_D A [(h0, .inr (5, [.ref h1, .ref h3, .ref h4, .int (nI hf), .int (nI ep), .int (nI bl), .int (nI en)])), (h3, .inl (cI, 200, .inl (nA (updN st' (rowAt rb u at') (at' + 2))))), (h4, .inl (cI, 200, .inl (oA (updO z' (rowAt rb u at') (some (rowAt rb u (at' + 1))))))), (h1, .inr (0, [.ref h2, .int (nI u)])), (h2, .inl (cI, 2470, .inl (nA rb)))] := hD
            refine lv_iload_n hx hb d_Log_apply_84 rfl (lv_at hl 0 rfl) ?_
            refine lv_iload hx hb d_Log_apply_85 (lv_at hl 1 rfl) ?_
            refine lv_sipush (v := nI 255) hx hb d_Log_apply_87 (by decide) ?_
            refine n_icmp_ne (tgt := 97) hx hb d_Log_apply_90 (by decide) (by omega) (by omega) (fun c_90 => ?_) (fun c_90 => ?_)
            · skip
              refine lv_iload hx hb d_Log_apply_97 (lv_at hl 1 rfl) ?_
              refine n_iadd hx hb d_Log_apply_99 ?_
              refine lv_istore_n (lv' := [(3, .int (nI ((at' + 2) + (rowAt rb u (at' + 1))))), (6, .int (nI (rowAt rb u (at' + 1)))), (5, .int (nI (rowAt rb u at'))), (0, .ref h0), (1, .int (nI start)), (2, .int (nI (rowAt rb u start))), (4, .int (nI i))]) hx hb d_Log_apply_100 rfl hl (by decide) rfl (fun ls hl => ?_)
              refine lv_iinc (v := nI (i + 1)) (lv' := [(4, .int (nI (i + 1))), (3, .int (nI ((at' + 2) + (rowAt rb u (at' + 1))))), (6, .int (nI (rowAt rb u (at' + 1)))), (5, .int (nI (rowAt rb u at'))), (0, .ref h0), (1, .int (nI start)), (2, .int (nI (rowAt rb u start)))]) hx hb d_Log_apply_101 hl (k := 6) rfl (inc1 i) (by decide) rfl (fun ls hl => ?_)
              refine lv_goto (tgt := 16) hx hb d_Log_apply_104 (by decide) ?_
              exact ih (i + 1) _ _ _ (by omega) (by omega) (by omega) (by rw [hinv, show (rowAt rb u start) - i = ((rowAt rb u start) - (i + 1)) + 1 by omega, apLoop]; (first | rw [if_pos (of_decide_eq_true c_52)] | rw [if_neg (of_decide_eq_false c_52)]); (first | simp only [if_pos c_90, Nat.add_zero] | simp only [if_neg c_90])) _ _ _ (hP.sub [0, 3, 4, 1, 2] rfl) (hD.sub [0, 3, 4, 1, 2] (by decide) rfl) hS (lv_sub hl [4, 5, 6, 1, 0] rfl)
            · exact absurd c_90 c_74
          · skip
            refine lv_iconst (v := (-1)) hx hb d_Log_apply_77 (by decide) ?_
            refine lv_goto (tgt := 83) hx hb d_Log_apply_78 (by decide) ?_
            refine n_iast (f' := oA (updO z' (rowAt rb u at') none)) hx hb hK hP hD hS 2 0 rfl rfl (oA_upd _ _ none) (of_decide_eq_true c_52) (by omega) d_Log_apply_83 (fun H locs hP hD hS => ?_)
            have hP : va_P (dC, dI) CL_ [(h0, .inr (5, [.ref h1, .ref h3, .ref h4, .int (nI hf), .int (nI ep), .int (nI bl), .int (nI en)])), (h3, .inl (cI, 200, .inl (nA (updN st' (rowAt rb u at') (at' + 2))))), (h4, .inl (cI, 200, .inl (oA (updO z' (rowAt rb u at') none)))), (h1, .inr (0, [.ref h2, .int (nI u)])), (h2, .inl (cI, 2470, .inl (nA rb)))] H := hP
            have hD : va_D A [(h0, .inr (5, [.ref h1, .ref h3, .ref h4, .int (nI hf), .int (nI ep), .int (nI bl), .int (nI en)])), (h3, .inl (cI, 200, .inl (nA (updN st' (rowAt rb u at') (at' + 2))))), (h4, .inl (cI, 200, .inl (oA (updO z' (rowAt rb u at') none)))), (h1, .inr (0, [.ref h2, .int (nI u)])), (h2, .inl (cI, 2470, .inl (nA rb)))] := hD
            refine lv_iload_n hx hb d_Log_apply_84 rfl (lv_at hl 0 rfl) ?_
            refine lv_iload hx hb d_Log_apply_85 (lv_at hl 1 rfl) ?_
            refine lv_sipush (v := nI 255) hx hb d_Log_apply_87 (by decide) ?_
            refine n_icmp_ne (tgt := 97) hx hb d_Log_apply_90 (by decide) (by omega) (by omega) (fun c_90 => ?_) (fun c_90 => ?_)
            · exact absurd c_74 c_90
            · skip
              refine lv_iconst (v := nI 0) hx hb d_Log_apply_93 (by decide) ?_
              refine lv_goto (tgt := 99) hx hb d_Log_apply_94 (by decide) ?_
              refine n_iadd hx hb d_Log_apply_99 ?_
              refine lv_istore_n (lv' := [(3, .int (nI ((at' + 2) + 0))), (6, .int (nI (rowAt rb u (at' + 1)))), (5, .int (nI (rowAt rb u at'))), (0, .ref h0), (1, .int (nI start)), (2, .int (nI (rowAt rb u start))), (4, .int (nI i))]) hx hb d_Log_apply_100 rfl hl (by decide) rfl (fun ls hl => ?_)
              refine lv_iinc (v := nI (i + 1)) (lv' := [(4, .int (nI (i + 1))), (3, .int (nI ((at' + 2) + 0))), (6, .int (nI (rowAt rb u (at' + 1)))), (5, .int (nI (rowAt rb u at'))), (0, .ref h0), (1, .int (nI start)), (2, .int (nI (rowAt rb u start)))]) hx hb d_Log_apply_101 hl (k := 6) rfl (inc1 i) (by decide) rfl (fun ls hl => ?_)
              refine lv_goto (tgt := 16) hx hb d_Log_apply_104 (by decide) ?_
              exact ih (i + 1) _ _ _ (by omega) (by omega) (by omega) (by rw [hinv, show (rowAt rb u start) - i = ((rowAt rb u start) - (i + 1)) + 1 by omega, apLoop]; (first | rw [if_pos (of_decide_eq_true c_52)] | rw [if_neg (of_decide_eq_false c_52)]); (first | simp only [if_pos c_90, Nat.add_zero] | simp only [if_neg c_90])) _ _ _ (hP.sub [0, 3, 4, 1, 2] rfl) (hD.sub [0, 3, 4, 1, 2] (by decide) rfl) hS (lv_sub hl [4, 5, 6, 1, 0] rfl)
  exact loop_16 ((rowAt rb u start) + 1) 0 (start + 1) st z (by omega) (by omega) (by omega) (by rw [Nat.sub_zero]) _ _ _ (hP.sub [0, 3, 4, 1, 2] rfl) (hD.sub [0, 3, 4, 1, 2] (by decide) rfl) hS (lv_sub hl [3, 4, 2, 1, 0] rfl)
