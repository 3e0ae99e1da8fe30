abbrev rm_Writer_begin : Room := { frames := 0, cells := 0, slots := 0, locals := 0 }
set_option maxHeartbeats 4000000 in
set_option maxRecDepth 100000 in
theorem c_Writer_begin (l : Launch) (dC : Nat → ClassId) (dI : Nat → Nat → Nat) (cI : ClassId) (sz : Nat) (h0 : Nat) (wl : Nat) (tb : Nat) (wr : Nat) (aam : Bool) (x : Nat) (y : Nat)  : KV l y_Writer_begin w_Writer_begin rm_Writer_begin (dC, dI) CL_ [(cI, .int)] sz [.ref h0, .int (nI x), .int (nI y)] [(h0, .inr (4, [.int (nI wl), .int (nI tb), .int (nI wr), .int (bI aam)]))] [(h0, .inr (4, [.int (nI x), .int (nI y), .int (nI 0), .int (bI true)]))] := by
  refine k_start_v (cc := b_Writer_begin) (maxL := 3) (by decide) (Nat.le_of_ble_eq_true rfl) ?_
  intro p e s m args below meth c A QQ ls SS hK hP hD hA hl hN hret
  obtain ⟨hx, hb, hml, hown, hts⟩ := id SS
  have hl : lv_has ls 3 [(0, .ref h0), (1, .int (nI x)), (2, .int (nI y))] := hl
  have hS : va_S A s.heap s.heap [] := va_S.rf
  refine lv_aload_n hx hb d_Writer_begin_0 rfl (lv_at hl 0 rfl) ?_
  refine lv_iload_n hx hb d_Writer_begin_1 rfl (lv_at hl 1 rfl) ?_
  refine va_put (D := (dC, dI)) (ci := 4) (v := .int (nI x)) (ty := .int) (C := R_Writer) (T := F_Writer) (N := 4) hx hb hts in_Writer ty_Writer tok_Writer nm_Writer hown hK hP hD hS 0 rfl rfl 0 (by decide) (hts _ u_148) (fun _ h9 => h9) rfl (by decide +kernel) rfl rfl (Nat.le_of_ble_eq_true rfl) d_Writer_begin_2 (fun H locs hP hD hS => ?_)
  have hP : va_P (dC, dI) CL_ [(h0, .inr (4, [.int (nI x), .int (nI tb), .int (nI wr), .int (bI aam)]))] H := hP
  have hD : va_D A [(h0, .inr (4, [.int (nI x), .int (nI tb), .int (nI wr), .int (bI aam)]))] := hD
  refine lv_aload_n hx hb d_Writer_begin_5 rfl (lv_at hl 0 rfl) ?_
  refine lv_iload_n hx hb d_Writer_begin_6 rfl (lv_at hl 2 rfl) ?_
  refine va_put (D := (dC, dI)) (ci := 4) (v := .int (nI y)) (ty := .int) (C := R_Writer) (T := F_Writer) (N := 4) hx hb hts in_Writer ty_Writer tok_Writer nm_Writer hown hK hP hD hS 0 rfl rfl 1 (by decide) (hts _ u_149) (fun _ h9 => h9) rfl (by decide +kernel) rfl rfl (Nat.le_of_ble_eq_true rfl) d_Writer_begin_7 (fun H locs hP hD hS => ?_)
  have hP : va_P (dC, dI) CL_ [(h0, .inr (4, [.int (nI x), .int (nI y), .int (nI wr), .int (bI aam)]))] H := hP
  have hD : va_D A [(h0, .inr (4, [.int (nI x), .int (nI y), .int (nI wr), .int (bI aam)]))] := hD
  refine lv_aload_n hx hb d_Writer_begin_10 rfl (lv_at hl 0 rfl) ?_
  refine lv_iconst (v := nI 0) hx hb d_Writer_begin_11 (by decide) ?_
  refine va_put (D := (dC, dI)) (ci := 4) (v := .int (nI 0)) (ty := .int) (C := R_Writer) (T := F_Writer) (N := 4) hx hb hts in_Writer ty_Writer tok_Writer nm_Writer hown hK hP hD hS 0 rfl rfl 2 (by decide) (hts _ u_150) (fun _ h9 => h9) rfl (by decide +kernel) rfl rfl (Nat.le_of_ble_eq_true rfl) d_Writer_begin_12 (fun H locs hP hD hS => ?_)
  have hP : va_P (dC, dI) CL_ [(h0, .inr (4, [.int (nI x), .int (nI y), .int (nI 0), .int (bI aam)]))] H := hP
  have hD : va_D A [(h0, .inr (4, [.int (nI x), .int (nI y), .int (nI 0), .int (bI aam)]))] := hD
  refine lv_aload_n hx hb d_Writer_begin_15 rfl (lv_at hl 0 rfl) ?_
  refine lv_iconst (v := bI true) hx hb d_Writer_begin_16 (by decide) ?_
  refine va_put (D := (dC, dI)) (ci := 4) (v := .int (bI true)) (ty := .boolean) (C := R_Writer) (T := F_Writer) (N := 4) hx hb hts in_Writer ty_Writer tok_Writer nm_Writer hown hK hP hD hS 0 rfl rfl 3 (by decide) (hts _ u_151) (fun _ h9 => h9) rfl (by decide +kernel) (by first | rfl | (generalize hgb : _ = bq; cases bq <;> rfl)) rfl (Nat.le_of_ble_eq_true rfl) d_Writer_begin_17 (fun H locs hP hD hS => ?_)
  have hP : va_P (dC, dI) CL_ [(h0, .inr (4, [.int (nI x), .int (nI y), .int (nI 0), .int (bI true)]))] H := hP
  have hD : va_D A [(h0, .inr (4, [.int (nI x), .int (nI y), .int (nI 0), .int (bI true)]))] := hD
  exact hret _ _ 20 ls d_Writer_begin_20 (hP.sub [0] rfl) (hD.sub [0] (by decide) rfl) hS
abbrev rm_Writer_written : Room := { frames := 0, cells := 0, slots := 0, locals := 0 }
set_option maxHeartbeats 4000000 in
set_option maxRecDepth 100000 in
theorem c_Writer_written (l : Launch) (dC : Nat → ClassId) (dI : Nat → Nat → Nat) (cI : ClassId) (sz : Nat) (h0 : Nat) (wl : Nat) (tb : Nat) (wr : Nat) (aam : Bool)  : KI l y_Writer_written w_Writer_written rm_Writer_written (dC, dI) CL_ [(cI, .int)] sz [.ref h0] [(h0, .inr (4, [.int (nI wl), .int (nI tb), .int (nI wr), .int (bI aam)]))] [(h0, .inr (4, [.int (nI wl), .int (nI tb), .int (nI wr), .int (bI aam)]))] (nI wr) := by
  refine k_start_i (cc := b_Writer_written) (maxL := 1) (by decide) (Nat.le_of_ble_eq_true rfl) ?_
  intro p e s m args below meth c A QQ ls SS hK hP hD hA hl hN hret
  obtain ⟨hx, hb, hml, hown, hts⟩ := id SS
  have hl : lv_has ls 1 [(0, .ref h0)] := hl
  have hS : va_S A s.heap s.heap [] := va_S.rf
  refine lv_aload_n hx hb d_Writer_written_0 rfl (lv_at hl 0 rfl) ?_
  refine va_get (D := (dC, dI)) (ci := 4) (v := .int (nI wr)) (C := R_Writer) (T := F_Writer) (N := 4) hx hb hts in_Writer hown hK hP 0 rfl rfl 2 (by decide) (hts _ u_150) (fun _ h9 => h9) rfl d_Writer_written_1 ?_
  exact hret (nI wr) _ _ 4 ls d_Writer_written_4 (hP.sub [0] rfl) (hD.sub [0] (by decide) rfl) hS rfl
abbrev rm_Writer_isAllAsMeant : Room := { frames := 0, cells := 0, slots := 0, locals := 0 }
set_option maxHeartbeats 4000000 in
set_option maxRecDepth 100000 in
theorem c_Writer_isAllAsMeant (l : Launch) (dC : Nat → ClassId) (dI : Nat → Nat → Nat) (cI : ClassId) (sz : Nat) (h0 : Nat) (wl : Nat) (tb : Nat) (wr : Nat) (aam : Bool)  : KI l y_Writer_isAllAsMeant w_Writer_isAllAsMeant rm_Writer_isAllAsMeant (dC, dI) CL_ [(cI, .int)] sz [.ref h0] [(h0, .inr (4, [.int (nI wl), .int (nI tb), .int (nI wr), .int (bI aam)]))] [(h0, .inr (4, [.int (nI wl), .int (nI tb), .int (nI wr), .int (bI aam)]))] (bI aam) := by
  refine k_start_z (cc := b_Writer_isAllAsMeant) (maxL := 1) (by decide) (Nat.le_of_ble_eq_true rfl) ?_
  intro p e s m args below meth c A QQ ls SS hK hP hD hA hl hN hret
  obtain ⟨hx, hb, hml, hown, hts⟩ := id SS
  have hl : lv_has ls 1 [(0, .ref h0)] := hl
  have hS : va_S A s.heap s.heap [] := va_S.rf
  refine lv_aload_n hx hb d_Writer_isAllAsMeant_0 rfl (lv_at hl 0 rfl) ?_
  refine va_get (D := (dC, dI)) (ci := 4) (v := .int (bI aam)) (C := R_Writer) (T := F_Writer) (N := 4) hx hb hts in_Writer hown hK hP 0 rfl rfl 3 (by decide) (hts _ u_151) (fun _ h9 => h9) rfl d_Writer_isAllAsMeant_1 ?_
  exact hret aam _ _ 4 ls d_Writer_isAllAsMeant_4 (hP.sub [0] rfl) (hD.sub [0] (by decide) rfl) hS rfl
abbrev rm_Writer_write : Room := { frames := 2, cells := 0, slots := 0, locals := 46 }
set_option maxHeartbeats 4000000 in
set_option maxRecDepth 100000 in
theorem c_Writer_write (l : Launch) (dC : Nat → ClassId) (dI : Nat → Nat → Nat) (cI : ClassId) (sz : Nat) (h0 : Nat) (wl : Nat) (tb : Nat) (wr : Nat) (aam : Bool) (d0 : Nat) (d1 : Nat) (d : Nat → Nat) (g0 : Nat) (g1 : Nat) (gd : Nat → Nat) (b : Nat) (hwl : wl < 2 ^ 31) (htb : tb ≤ 32) (hb1 : b < 192) (hdb : ∀ j, d j < 256) (hgb : ∀ j, gd j < 256) : KI l y_Writer_write w_Writer_write rm_Writer_write (dC, dI) CL_ [(cI, .int)] sz [.ref h0, .ref d0, .int (nI b), .ref g0] [(h0, .inr (4, [.int (nI wl), .int (nI tb), .int (nI wr), .int (bI aam)])), (d0, .inr (3, [.ref d1])), (d1, .inl (cI, 6144, .inl (nA d))), (g0, .inr (2, [.ref g1])), (g1, .inl (cI, 32, .inl (nA gd)))] [(h0, .inr (4, [.int (nI (wl - 1)), .int (nI (if 0 < wl then tb else 0)), .int (nI (wr + (if 0 < wl then 1 else 0))), .int (bI (aam && isAsN (fillN d (b * 32) gd (if 0 < wl then 32 else tb)) (b * 32) gd))])), (d0, .inr (3, [.ref d1])), (d1, .inl (cI, 6144, .inl (nA (fillN d (b * 32) gd (if 0 < wl then 32 else tb))))), (g0, .inr (2, [.ref g1])), (g1, .inl (cI, 32, .inl (nA gd)))] (bI (decide (0 < wl))) := by
  refine k_start_z (cc := b_Writer_write) (maxL := 5) (by decide) (Nat.le_of_ble_eq_true rfl) ?_
  intro p e s m args below meth c A QQ ls SS hK hP hD hA hl hN hret
  obtain ⟨hx, hb, hml, hown, hts⟩ := id SS
  have hl : lv_has ls 5 [(0, .ref h0), (1, .ref d0), (2, .int (nI b)), (3, .ref g0)] := hl
  have hS : va_S A s.heap s.heap [] := va_S.rf
  refine lv_aload_n hx hb d_Writer_write_0 rfl (lv_at hl 0 rfl) ?_
  refine va_get (D := (dC, dI)) (ci := 4) (v := .int (nI wl)) (C := R_Writer) (T := F_Writer) (N := 4) hx hb hts in_Writer hown hK hP 0 rfl rfl 0 (by decide) (hts _ u_148) (fun _ h9 => h9) rfl d_Writer_write_1 ?_
  refine n_if_le (tgt := 11) hx hb d_Writer_write_4 (by decide) (by omega) (fun c_4 => ?_) (fun c_4 => ?_)
  · skip
    have c4' : ¬ 0 < wl := by omega
    simp only [if_neg c4'] at hret
    have hwz : wl - 1 = wl := by omega
    rw [hwz] at hret
    refine lv_iconst (v := bI false) hx hb d_Writer_write_11 (by decide) ?_
    refine lv_istore (lv' := [(4, .int (bI false)), (0, .ref h0), (1, .ref d0), (2, .int (nI b)), (3, .ref g0)]) hx hb d_Writer_write_12 hl (by decide) rfl (fun ls hl => ?_)
    refine lv_iload hx hb d_Writer_write_14 (lv_at hl 0 rfl) ?_
    refine n_if_eqB (tgt := 50) hx hb d_Writer_write_16 (by decide) (fun c_16 => ?_) (fun c_16 => ?_)
    · skip
      refine lv_aload_n hx hb d_Writer_write_50 rfl (lv_at hl 2 rfl) ?_
      refine lv_iload_n hx hb d_Writer_write_51 rfl (lv_at hl 3 rfl) ?_
      refine lv_aload_n hx hb d_Writer_write_52 rfl (lv_at hl 4 rfl) ?_
      refine lv_aload_n hx hb d_Writer_write_53 rfl (lv_at hl 1 rfl) ?_
      refine va_get (D := (dC, dI)) (ci := 4) (v := .int (nI tb)) (C := R_Writer) (T := F_Writer) (N := 4) hx hb hts in_Writer hown hK hP 0 rfl rfl 1 (by decide) (hts _ u_149) (fun _ h9 => h9) rfl d_Writer_write_54 ?_
      refine kj_v (wr := [(h0, .inr (4, [.int (nI wl), .int (nI tb), .int (nI wr), .int (bI aam)]))]) (va_runV (As := [.int (nI b), .ref g0, .int (nI tb)]) (rest := []) SS (c_Disk_overwrite l dC dI cI s.heap.size d0 d1 d g0 g1 gd b tb (by omega) (by omega) hgb) (k_cwV 3 hts u_521 u_173 u_174 u_36 u_175 rfl rfl (by decide +kernel) ⟨Nat.le_of_ble_eq_true rfl, Nat.le_of_ble_eq_true rfl⟩) (kp_V hN hK [0] rfl hP hD [1, 2, 3, 4] rfl (by decide) (ci := 3) rfl 0 rfl) rfl rfl hl.1 rfl (lv_room (Nat.le_of_ble_eq_true rfl)) d_Writer_write_57 ⟨Nat.le_of_ble_eq_true rfl, Nat.le_of_ble_eq_true rfl⟩) hP hD hS hA [1, 2, 3, 4] [0] rfl rfl (by decide) (by decide) (fun H locs hP hD hS => ?_)
      have hP : va_P (dC, dI) CL_ [(h0, .inr (4, [.int (nI wl), .int (nI tb), .int (nI wr), .int (bI aam)])), (d0, .inr (3, [.ref d1])), (d1, .inl (cI, 6144, .inl (nA (fillN d (b * 32) gd tb)))), (g0, .inr (2, [.ref g1])), (g1, .inl (cI, 32, .inl (nA gd)))] H := hP
      have hD : va_D A [(h0, .inr (4, [.int (nI wl), .int (nI tb), .int (nI wr), .int (bI aam)])), (d0, .inr (3, [.ref d1])), (d1, .inl (cI, 6144, .inl (nA (fillN d (b * 32) gd tb)))), (g0, .inr (2, [.ref g1])), (g1, .inl (cI, 32, .inl (nA gd)))] := hD
      refine lv_aload_n hx hb d_Writer_write_60 rfl (lv_at hl 1 rfl) ?_
      refine lv_iconst (v := nI 0) hx hb d_Writer_write_61 (by decide) ?_
      refine va_put (D := (dC, dI)) (ci := 4) (v := .int (nI 0)) (ty := .int) (C := R_Writer) (T := F_Writer) (N := 4) hx hb hts in_Writer ty_Writer tok_Writer nm_Writer hown hK hP hD hS 0 rfl rfl 1 (by decide) (hts _ u_149) (fun _ h9 => h9) rfl (by decide +kernel) rfl rfl (Nat.le_of_ble_eq_true rfl) d_Writer_write_62 (fun H locs hP hD hS => ?_)
      have hP : va_P (dC, dI) CL_ [(h0, .inr (4, [.int (nI wl), .int (nI 0), .int (nI wr), .int (bI aam)])), (d0, .inr (3, [.ref d1])), (d1, .inl (cI, 6144, .inl (nA (fillN d (b * 32) gd tb)))), (g0, .inr (2, [.ref g1])), (g1, .inl (cI, 32, .inl (nA gd)))] H := hP
      have hD : va_D A [(h0, .inr (4, [.int (nI wl), .int (nI 0), .int (nI wr), .int (bI aam)])), (d0, .inr (3, [.ref d1])), (d1, .inl (cI, 6144, .inl (nA (fillN d (b * 32) gd tb)))), (g0, .inr (2, [.ref g1])), (g1, .inl (cI, 32, .inl (nA gd)))] := hD
      refine lv_aload_n hx hb d_Writer_write_65 rfl (lv_at hl 1 rfl) ?_
      refine lv_aload_n hx hb d_Writer_write_66 rfl (lv_at hl 1 rfl) ?_
      refine va_get (D := (dC, dI)) (ci := 4) (v := .int (bI aam)) (C := R_Writer) (T := F_Writer) (N := 4) hx hb hts in_Writer hown hK hP 0 rfl rfl 3 (by decide) (hts _ u_151) (fun _ h9 => h9) rfl d_Writer_write_67 ?_
      refine n_if_eqB (tgt := 86) hx hb d_Writer_write_70 (by decide) (fun c_70 => ?_) (fun c_70 => ?_)
      · skip
        refine lv_iconst (v := bI false) hx hb d_Writer_write_86 (by decide) ?_
        refine va_put (D := (dC, dI)) (ci := 4) (v := .int (bI false)) (ty := .boolean) (C := R_Writer) (T := F_Writer) (N := 4) hx hb hts in_Writer ty_Writer tok_Writer nm_Writer hown hK hP hD hS 0 rfl rfl 3 (by decide) (hts _ u_151) (fun _ h9 => h9) rfl (by decide +kernel) (by first | rfl | (generalize hgb : _ = bq; cases bq <;> rfl)) rfl (Nat.le_of_ble_eq_true rfl) d_Writer_write_87 (fun H locs hP hD hS => ?_)
        have hP : va_P (dC, dI) CL_ [(h0, .inr (4, [.int (nI wl), .int (nI 0), .int (nI wr), .int (bI false)])), (d0, .inr (3, [.ref d1])), (d1, .inl (cI, 6144, .inl (nA (fillN d (b * 32) gd tb)))), (g0, .inr (2, [.ref g1])), (g1, .inl (cI, 32, .inl (nA gd)))] H := hP
        have hD : va_D A [(h0, .inr (4, [.int (nI wl), .int (nI 0), .int (nI wr), .int (bI false)])), (d0, .inr (3, [.ref d1])), (d1, .inl (cI, 6144, .inl (nA (fillN d (b * 32) gd tb)))), (g0, .inr (2, [.ref g1])), (g1, .inl (cI, 32, .inl (nA gd)))] := hD
        refine lv_iload hx hb d_Writer_write_90 (lv_at hl 0 rfl) ?_
        first | simp only [c_70, c_79, Bool.true_and] at hret | simp only [c_70, Bool.false_and] at hret
        exact hret false _ _ 92 ls d_Writer_write_92 (hP.sub [0, 1, 2, 3, 4] rfl) (hD.sub [0, 1, 2, 3, 4] (by decide) rfl) hS (by first | exact (decide_eq_true c_4).symm | exact (decide_eq_false (by omega)).symm)
      · skip
        refine lv_aload_n hx hb d_Writer_write_73 rfl (lv_at hl 2 rfl) ?_
        refine lv_iload_n hx hb d_Writer_write_74 rfl (lv_at hl 3 rfl) ?_
        refine lv_aload_n hx hb d_Writer_write_75 rfl (lv_at hl 4 rfl) ?_
        refine kj_i (wr := [(h0, .inr (4, [.int (nI wl), .int (nI 0), .int (nI wr), .int (bI aam)]))]) (va_runV (As := [.int (nI b), .ref g0]) (rest := [.ref h0]) SS (c_Disk_isAs l dC dI cI H.size d0 d1 (fillN d (b * 32) gd tb) g0 g1 gd b (by omega) (fillN_b hdb hgb) hgb) (k_cwV 2 hts u_522 u_523 u_524 u_36 u_525 rfl rfl (by decide +kernel) ⟨Nat.le_of_ble_eq_true rfl, Nat.le_of_ble_eq_true rfl⟩) (kp_V hN hK [0] rfl hP hD [1, 2, 3, 4] rfl (by decide) (ci := 3) rfl 0 rfl) rfl rfl hl.1 rfl (lv_room (Nat.le_of_ble_eq_true rfl)) d_Writer_write_76 ⟨Nat.le_of_ble_eq_true rfl, Nat.le_of_ble_eq_true rfl⟩) hP hD hS hA [1, 2, 3, 4] [0] rfl rfl (by decide) (by decide) (fun H locs hP hD hS => ?_)
        have hP : va_P (dC, dI) CL_ [(h0, .inr (4, [.int (nI wl), .int (nI 0), .int (nI wr), .int (bI aam)])), (d0, .inr (3, [.ref d1])), (d1, .inl (cI, 6144, .inl (nA (fillN d (b * 32) gd tb)))), (g0, .inr (2, [.ref g1])), (g1, .inl (cI, 32, .inl (nA gd)))] H := hP
        have hD : va_D A [(h0, .inr (4, [.int (nI wl), .int (nI 0), .int (nI wr), .int (bI aam)])), (d0, .inr (3, [.ref d1])), (d1, .inl (cI, 6144, .inl (nA (fillN d (b * 32) gd tb)))), (g0, .inr (2, [.ref g1])), (g1, .inl (cI, 32, .inl (nA gd)))] := hD
        refine n_if_eqB (tgt := 86) hx hb d_Writer_write_79 (by decide) (fun c_79 => ?_) (fun c_79 => ?_)
        · skip
          refine lv_iconst (v := bI false) hx hb d_Writer_write_86 (by decide) ?_
          refine va_put (D := (dC, dI)) (ci := 4) (v := .int (bI false)) (ty := .boolean) (C := R_Writer) (T := F_Writer) (N := 4) hx hb hts in_Writer ty_Writer tok_Writer nm_Writer hown hK hP hD hS 0 rfl rfl 3 (by decide) (hts _ u_151) (fun _ h9 => h9) rfl (by decide +kernel) (by first | rfl | (generalize hgb : _ = bq; cases bq <;> rfl)) rfl (Nat.le_of_ble_eq_true rfl) d_Writer_write_87 (fun H locs hP hD hS => ?_)
          have hP : va_P (dC, dI) CL_ [(h0, .inr (4, [.int (nI wl), .int (nI 0), .int (nI wr), .int (bI false)])), (d0, .inr (3, [.ref d1])), (d1, .inl (cI, 6144, .inl (nA (fillN d (b * 32) gd tb)))), (g0, .inr (2, [.ref g1])), (g1, .inl (cI, 32, .inl (nA gd)))] H := hP
          have hD : va_D A [(h0, .inr (4, [.int (nI wl), .int (nI 0), .int (nI wr), .int (bI false)])), (d0, .inr (3, [.ref d1])), (d1, .inl (cI, 6144, .inl (nA (fillN d (b * 32) gd tb)))), (g0, .inr (2, [.ref g1])), (g1, .inl (cI, 32, .inl (nA gd)))] := hD
          refine lv_iload hx hb d_Writer_write_90 (lv_at hl 0 rfl) ?_
          first | simp only [c_70, c_79, Bool.true_and] at hret | simp only [c_70, Bool.false_and] at hret
          exact hret false _ _ 92 ls d_Writer_write_92 (hP.sub [0, 1, 2, 3, 4] rfl) (hD.sub [0, 1, 2, 3, 4] (by decide) rfl) hS (by first | exact (decide_eq_true c_4).symm | exact (decide_eq_false (by omega)).symm)
        · skip
          refine lv_iconst (v := bI true) hx hb d_Writer_write_82 (by decide) ?_
          refine lv_goto (tgt := 87) hx hb d_Writer_write_83 (by decide) ?_
          refine va_put (D := (dC, dI)) (ci := 4) (v := .int (bI true)) (ty := .boolean) (C := R_Writer) (T := F_Writer) (N := 4) hx hb hts in_Writer ty_Writer tok_Writer nm_Writer hown hK hP hD hS 0 rfl rfl 3 (by decide) (hts _ u_151) (fun _ h9 => h9) rfl (by decide +kernel) (by first | rfl | (generalize hgb : _ = bq; cases bq <;> rfl)) rfl (Nat.le_of_ble_eq_true rfl) d_Writer_write_87 (fun H locs hP hD hS => ?_)
          have hP : va_P (dC, dI) CL_ [(h0, .inr (4, [.int (nI wl), .int (nI 0), .int (nI wr), .int (bI true)])), (d0, .inr (3, [.ref d1])), (d1, .inl (cI, 6144, .inl (nA (fillN d (b * 32) gd tb)))), (g0, .inr (2, [.ref g1])), (g1, .inl (cI, 32, .inl (nA gd)))] H := hP
          have hD : va_D A [(h0, .inr (4, [.int (nI wl), .int (nI 0), .int (nI wr), .int (bI true)])), (d0, .inr (3, [.ref d1])), (d1, .inl (cI, 6144, .inl (nA (fillN d (b * 32) gd tb)))), (g0, .inr (2, [.ref g1])), (g1, .inl (cI, 32, .inl (nA gd)))] := hD
          refine lv_iload hx hb d_Writer_write_90 (lv_at hl 0 rfl) ?_
          first | simp only [c_70, c_79, Bool.true_and] at hret | simp only [c_70, Bool.false_and] at hret
          exact hret false _ _ 92 ls d_Writer_write_92 (hP.sub [0, 1, 2, 3, 4] rfl) (hD.sub [0, 1, 2, 3, 4] (by decide) rfl) hS (by first | exact (decide_eq_true c_4).symm | exact (decide_eq_false (by omega)).symm)
    · exact absurd c_16 (by decide)
  · skip
    simp only [if_pos c_4] at hret
    refine lv_iconst (v := bI true) hx hb d_Writer_write_7 (by decide) ?_
    refine lv_goto (tgt := 12) hx hb d_Writer_write_8 (by decide) ?_
    refine lv_istore (lv' := [(4, .int (bI true)), (0, .ref h0), (1, .ref d0), (2, .int (nI b)), (3, .ref g0)]) hx hb d_Writer_write_12 hl (by decide) rfl (fun ls hl => ?_)
    refine lv_iload hx hb d_Writer_write_14 (lv_at hl 0 rfl) ?_
    refine n_if_eqB (tgt := 50) hx hb d_Writer_write_16 (by decide) (fun c_16 => ?_) (fun c_16 => ?_)
    · exact absurd c_16 (by decide)
    · skip
      refine lv_aload_n hx hb d_Writer_write_19 rfl (lv_at hl 2 rfl) ?_
      refine lv_iload_n hx hb d_Writer_write_20 rfl (lv_at hl 3 rfl) ?_
      refine lv_aload_n hx hb d_Writer_write_21 rfl (lv_at hl 4 rfl) ?_
      refine lv_bipush (v := nI 32) hx hb d_Writer_write_22 (by decide) ?_
      refine kj_v (wr := [(h0, .inr (4, [.int (nI wl), .int (nI tb), .int (nI wr), .int (bI aam)]))]) (va_runV (As := [.int (nI b), .ref g0, .int (nI 32)]) (rest := []) SS (c_Disk_overwrite l dC dI cI s.heap.size d0 d1 d g0 g1 gd b 32 (by omega) (by omega) hgb) (k_cwV 3 hts u_521 u_173 u_174 u_36 u_175 rfl rfl (by decide +kernel) ⟨Nat.le_of_ble_eq_true rfl, Nat.le_of_ble_eq_true rfl⟩) (kp_V hN hK [0] rfl hP hD [1, 2, 3, 4] rfl (by decide) (ci := 3) rfl 0 rfl) rfl rfl hl.1 rfl (lv_room (Nat.le_of_ble_eq_true rfl)) d_Writer_write_24 ⟨Nat.le_of_ble_eq_true rfl, Nat.le_of_ble_eq_true rfl⟩) hP hD hS hA [1, 2, 3, 4] [0] rfl rfl (by decide) (by decide) (fun H locs hP hD hS => ?_)
      have hP : va_P (dC, dI) CL_ [(h0, .inr (4, [.int (nI wl), .int (nI tb), .int (nI wr), .int (bI aam)])), (d0, .inr (3, [.ref d1])), (d1, .inl (cI, 6144, .inl (nA (fillN d (b * 32) gd 32)))), (g0, .inr (2, [.ref g1])), (g1, .inl (cI, 32, .inl (nA gd)))] H := hP
      have hD : va_D A [(h0, .inr (4, [.int (nI wl), .int (nI tb), .int (nI wr), .int (bI aam)])), (d0, .inr (3, [.ref d1])), (d1, .inl (cI, 6144, .inl (nA (fillN d (b * 32) gd 32)))), (g0, .inr (2, [.ref g1])), (g1, .inl (cI, 32, .inl (nA gd)))] := hD
      refine lv_aload_n hx hb d_Writer_write_27 rfl (lv_at hl 1 rfl) ?_
      refine lv_dup hx hb d_Writer_write_28 rfl ?_
      refine va_get (D := (dC, dI)) (ci := 4) (v := .int (nI wl)) (C := R_Writer) (T := F_Writer) (N := 4) hx hb hts in_Writer hown hK hP 0 rfl rfl 0 (by decide) (hts _ u_148) (fun _ h9 => h9) rfl d_Writer_write_29 ?_
      refine lv_iconst (v := nI 1) hx hb d_Writer_write_32 (by decide) ?_
      refine n_isub hx hb d_Writer_write_33 (by omega) ?_
      refine va_put (D := (dC, dI)) (ci := 4) (v := .int (nI (wl - 1))) (ty := .int) (C := R_Writer) (T := F_Writer) (N := 4) hx hb hts in_Writer ty_Writer tok_Writer nm_Writer hown hK hP hD hS 0 rfl rfl 0 (by decide) (hts _ u_148) (fun _ h9 => h9) rfl (by decide +kernel) rfl rfl (Nat.le_of_ble_eq_true rfl) d_Writer_write_34 (fun H locs hP hD hS => ?_)
      have hP : va_P (dC, dI) CL_ [(h0, .inr (4, [.int (nI (wl - 1)), .int (nI tb), .int (nI wr), .int (bI aam)])), (d0, .inr (3, [.ref d1])), (d1, .inl (cI, 6144, .inl (nA (fillN d (b * 32) gd 32)))), (g0, .inr (2, [.ref g1])), (g1, .inl (cI, 32, .inl (nA gd)))] H := hP
      have hD : va_D A [(h0, .inr (4, [.int (nI (wl - 1)), .int (nI tb), .int (nI wr), .int (bI aam)])), (d0, .inr (3, [.ref d1])), (d1, .inl (cI, 6144, .inl (nA (fillN d (b * 32) gd 32)))), (g0, .inr (2, [.ref g1])), (g1, .inl (cI, 32, .inl (nA gd)))] := hD
      refine lv_aload_n hx hb d_Writer_write_37 rfl (lv_at hl 1 rfl) ?_
      refine lv_dup hx hb d_Writer_write_38 rfl ?_
      refine va_get (D := (dC, dI)) (ci := 4) (v := .int (nI wr)) (C := R_Writer) (T := F_Writer) (N := 4) hx hb hts in_Writer hown hK hP 0 rfl rfl 2 (by decide) (hts _ u_150) (fun _ h9 => h9) rfl d_Writer_write_39 ?_
      refine lv_iconst (v := nI 1) hx hb d_Writer_write_42 (by decide) ?_
      refine n_iadd hx hb d_Writer_write_43 ?_
      refine va_put (D := (dC, dI)) (ci := 4) (v := .int (nI (wr + 1))) (ty := .int) (C := R_Writer) (T := F_Writer) (N := 4) hx hb hts in_Writer ty_Writer tok_Writer nm_Writer hown hK hP hD hS 0 rfl rfl 2 (by decide) (hts _ u_150) (fun _ h9 => h9) rfl (by decide +kernel) rfl rfl (Nat.le_of_ble_eq_true rfl) d_Writer_write_44 (fun H locs hP hD hS => ?_)
      have hP : va_P (dC, dI) CL_ [(h0, .inr (4, [.int (nI (wl - 1)), .int (nI tb), .int (nI (wr + 1)), .int (bI aam)])), (d0, .inr (3, [.ref d1])), (d1, .inl (cI, 6144, .inl (nA (fillN d (b * 32) gd 32)))), (g0, .inr (2, [.ref g1])), (g1, .inl (cI, 32, .inl (nA gd)))] H := hP
      have hD : va_D A [(h0, .inr (4, [.int (nI (wl - 1)), .int (nI tb), .int (nI (wr + 1)), .int (bI aam)])), (d0, .inr (3, [.ref d1])), (d1, .inl (cI, 6144, .inl (nA (fillN d (b * 32) gd 32)))), (g0, .inr (2, [.ref g1])), (g1, .inl (cI, 32, .inl (nA gd)))] := hD
      refine lv_goto (tgt := 65) hx hb d_Writer_write_47 (by decide) ?_
      refine lv_aload_n hx hb d_Writer_write_65 rfl (lv_at hl 1 rfl) ?_
      refine lv_aload_n hx hb d_Writer_write_66 rfl (lv_at hl 1 rfl) ?_
      refine va_get (D := (dC, dI)) (ci := 4) (v := .int (bI aam)) (C := R_Writer) (T := F_Writer) (N := 4) hx hb hts in_Writer hown hK hP 0 rfl rfl 3 (by decide) (hts _ u_151) (fun _ h9 => h9) rfl d_Writer_write_67 ?_
      refine n_if_eqB (tgt := 86) hx hb d_Writer_write_70 (by decide) (fun c_70 => ?_) (fun c_70 => ?_)
      · skip
        refine lv_iconst (v := bI false) hx hb d_Writer_write_86 (by decide) ?_
        refine va_put (D := (dC, dI)) (ci := 4) (v := .int (bI false)) (ty := .boolean) (C := R_Writer) (T := F_Writer) (N := 4) hx hb hts in_Writer ty_Writer tok_Writer nm_Writer hown hK hP hD hS 0 rfl rfl 3 (by decide) (hts _ u_151) (fun _ h9 => h9) rfl (by decide +kernel) (by first | rfl | (generalize hgb : _ = bq; cases bq <;> rfl)) rfl (Nat.le_of_ble_eq_true rfl) d_Writer_write_87 (fun H locs hP hD hS => ?_)
        have hP : va_P (dC, dI) CL_ [(h0, .inr (4, [.int (nI (wl - 1)), .int (nI tb), .int (nI (wr + 1)), .int (bI false)])), (d0, .inr (3, [.ref d1])), (d1, .inl (cI, 6144, .inl (nA (fillN d (b * 32) gd 32)))), (g0, .inr (2, [.ref g1])), (g1, .inl (cI, 32, .inl (nA gd)))] H := hP
        have hD : va_D A [(h0, .inr (4, [.int (nI (wl - 1)), .int (nI tb), .int (nI (wr + 1)), .int (bI false)])), (d0, .inr (3, [.ref d1])), (d1, .inl (cI, 6144, .inl (nA (fillN d (b * 32) gd 32)))), (g0, .inr (2, [.ref g1])), (g1, .inl (cI, 32, .inl (nA gd)))] := hD
        refine lv_iload hx hb d_Writer_write_90 (lv_at hl 0 rfl) ?_
        first | simp only [c_70, c_79, Bool.true_and] at hret | simp only [c_70, Bool.false_and] at hret
        exact hret true _ _ 92 ls d_Writer_write_92 (hP.sub [0, 1, 2, 3, 4] rfl) (hD.sub [0, 1, 2, 3, 4] (by decide) rfl) hS (by first | exact (decide_eq_true c_4).symm | exact (decide_eq_false (by omega)).symm)
      · skip
        refine lv_aload_n hx hb d_Writer_write_73 rfl (lv_at hl 2 rfl) ?_
        refine lv_iload_n hx hb d_Writer_write_74 rfl (lv_at hl 3 rfl) ?_
        refine lv_aload_n hx hb d_Writer_write_75 rfl (lv_at hl 4 rfl) ?_
        refine kj_i (wr := [(h0, .inr (4, [.int (nI (wl - 1)), .int (nI tb), .int (nI (wr + 1)), .int (bI aam)]))]) (va_runV (As := [.int (nI b), .ref g0]) (rest := [.ref h0]) SS (c_Disk_isAs l dC dI cI H.size d0 d1 (fillN d (b * 32) gd 32) g0 g1 gd b (by omega) (fillN_b hdb hgb) hgb) (k_cwV 2 hts u_522 u_523 u_524 u_36 u_525 rfl rfl (by decide +kernel) ⟨Nat.le_of_ble_eq_true rfl, Nat.le_of_ble_eq_true rfl⟩) (kp_V hN hK [0] rfl hP hD [1, 2, 3, 4] rfl (by decide) (ci := 3) rfl 0 rfl) rfl rfl hl.1 rfl (lv_room (Nat.le_of_ble_eq_true rfl)) d_Writer_write_76 ⟨Nat.le_of_ble_eq_true rfl, Nat.le_of_ble_eq_true rfl⟩) hP hD hS hA [1, 2, 3, 4] [0] rfl rfl (by decide) (by decide) (fun H locs hP hD hS => ?_)
        have hP : va_P (dC, dI) CL_ [(h0, .inr (4, [.int (nI (wl - 1)), .int (nI tb), .int (nI (wr + 1)), .int (bI aam)])), (d0, .inr (3, [.ref d1])), (d1, .inl (cI, 6144, .inl (nA (fillN d (b * 32) gd 32)))), (g0, .inr (2, [.ref g1])), (g1, .inl (cI, 32, .inl (nA gd)))] H := hP
        have hD : va_D A [(h0, .inr (4, [.int (nI (wl - 1)), .int (nI tb), .int (nI (wr + 1)), .int (bI aam)])), (d0, .inr (3, [.ref d1])), (d1, .inl (cI, 6144, .inl (nA (fillN d (b * 32) gd 32)))), (g0, .inr (2, [.ref g1])), (g1, .inl (cI, 32, .inl (nA gd)))] := hD
        refine n_if_eqB (tgt := 86) hx hb d_Writer_write_79 (by decide) (fun c_79 => ?_) (fun c_79 => ?_)
        · skip
          refine lv_iconst (v := bI false) hx hb d_Writer_write_86 (by decide) ?_
          refine va_put (D := (dC, dI)) (ci := 4) (v := .int (bI false)) (ty := .boolean) (C := R_Writer) (T := F_Writer) (N := 4) hx hb hts in_Writer ty_Writer tok_Writer nm_Writer hown hK hP hD hS 0 rfl rfl 3 (by decide) (hts _ u_151) (fun _ h9 => h9) rfl (by decide +kernel) (by first | rfl | (generalize hgb : _ = bq; cases bq <;> rfl)) rfl (Nat.le_of_ble_eq_true rfl) d_Writer_write_87 (fun H locs hP hD hS => ?_)
          have hP : va_P (dC, dI) CL_ [(h0, .inr (4, [.int (nI (wl - 1)), .int (nI tb), .int (nI (wr + 1)), .int (bI false)])), (d0, .inr (3, [.ref d1])), (d1, .inl (cI, 6144, .inl (nA (fillN d (b * 32) gd 32)))), (g0, .inr (2, [.ref g1])), (g1, .inl (cI, 32, .inl (nA gd)))] H := hP
          have hD : va_D A [(h0, .inr (4, [.int (nI (wl - 1)), .int (nI tb), .int (nI (wr + 1)), .int (bI false)])), (d0, .inr (3, [.ref d1])), (d1, .inl (cI, 6144, .inl (nA (fillN d (b * 32) gd 32)))), (g0, .inr (2, [.ref g1])), (g1, .inl (cI, 32, .inl (nA gd)))] := hD
          refine lv_iload hx hb d_Writer_write_90 (lv_at hl 0 rfl) ?_
          first | simp only [c_70, c_79, Bool.true_and] at hret | simp only [c_70, Bool.false_and] at hret
          exact hret true _ _ 92 ls d_Writer_write_92 (hP.sub [0, 1, 2, 3, 4] rfl) (hD.sub [0, 1, 2, 3, 4] (by decide) rfl) hS (by first | exact (decide_eq_true c_4).symm | exact (decide_eq_false (by omega)).symm)
        · skip
          refine lv_iconst (v := bI true) hx hb d_Writer_write_82 (by decide) ?_
          refine lv_goto (tgt := 87) hx hb d_Writer_write_83 (by decide) ?_
          refine va_put (D := (dC, dI)) (ci := 4) (v := .int (bI true)) (ty := .boolean) (C := R_Writer) (T := F_Writer) (N := 4) hx hb hts in_Writer ty_Writer tok_Writer nm_Writer hown hK hP hD hS 0 rfl rfl 3 (by decide) (hts _ u_151) (fun _ h9 => h9) rfl (by decide +kernel) (by first | rfl | (generalize hgb : _ = bq; cases bq <;> rfl)) rfl (Nat.le_of_ble_eq_true rfl) d_Writer_write_87 (fun H locs hP hD hS => ?_)
          have hP : va_P (dC, dI) CL_ [(h0, .inr (4, [.int (nI (wl - 1)), .int (nI tb), .int (nI (wr + 1)), .int (bI true)])), (d0, .inr (3, [.ref d1])), (d1, .inl (cI, 6144, .inl (nA (fillN d (b * 32) gd 32)))), (g0, .inr (2, [.ref g1])), (g1, .inl (cI, 32, .inl (nA gd)))] H := hP
          have hD : va_D A [(h0, .inr (4, [.int (nI (wl - 1)), .int (nI tb), .int (nI (wr + 1)), .int (bI true)])), (d0, .inr (3, [.ref d1])), (d1, .inl (cI, 6144, .inl (nA (fillN d (b * 32) gd 32)))), (g0, .inr (2, [.ref g1])), (g1, .inl (cI, 32, .inl (nA gd)))] := hD
          refine lv_iload hx hb d_Writer_write_90 (lv_at hl 0 rfl) ?_
          first | simp only [c_70, c_79, Bool.true_and] at hret | simp only [c_70, Bool.false_and] at hret
          exact hret true _ _ 92 ls d_Writer_write_92 (hP.sub [0, 1, 2, 3, 4] rfl) (hD.sub [0, 1, 2, 3, 4] (by decide) rfl) hS (by first | exact (decide_eq_true c_4).symm | exact (decide_eq_false (by omega)).symm)
