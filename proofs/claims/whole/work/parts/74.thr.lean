abbrev rm_isKeyX : Room := { frames := 0, cells := 0, slots := 0, locals := 0 }
set_option maxHeartbeats 4000000 in
set_option maxRecDepth 100000 in
theorem c_isKeyX (l : Launch) (dC : Nat → ClassId) (dI : Nat → Nat → Nat) (cI : ClassId) (sz : Nat) (x : Int32) (hx1 : x < 0 ∨ nI 199 < x) : KI l y_Top_isKey w_Top_isKey rm_isKeyX (dC, dI) CL_ [(cI, .int)] sz [.int x] [] [] (bI false) := by
  refine k_start_z (cc := b_Top_isKey) (maxL := 1) (by decide) (Nat.le_of_ble_eq_true rfl) ?_
  intro p e s m args below meth c A QQ ls SS hK hP hD hA hl hN hret
  obtain ⟨hx, hb, hml, hown, hts⟩ := id SS
  have hl : lv_has ls 1 [(0, .int x)] := hl
  have hS : va_S A s.heap s.heap [] := va_S.rf
  refine lv_iload_n hx hb d_Top_isKey_0 rfl (lv_at hl 0 rfl) ?_
  refine lv_if_lt (tgt := 15) hx hb d_Top_isKey_1 (by decide) (fun c_1 => ?_) (fun c_1 => ?_)
  · skip
    refine lv_iconst (v := bI false) hx hb d_Top_isKey_15 (by decide) ?_
    exact hret false _ _ 16 ls d_Top_isKey_16 (hP.sub [] rfl) (hD.sub [] (by decide) rfl) hS rfl
  · skip
    refine lv_iload_n hx hb d_Top_isKey_4 rfl (lv_at hl 0 rfl) ?_
    refine lv_sipush (v := nI 200) hx hb d_Top_isKey_5 (by decide) ?_
    refine lv_icmp_ge (tgt := 15) hx hb d_Top_isKey_8 (by decide) (fun c_8 => ?_) (fun c_8 => ?_)
    · skip
      refine lv_iconst (v := bI false) hx hb d_Top_isKey_15 (by decide) ?_
      exact hret false _ _ 16 ls d_Top_isKey_16 (hP.sub [] rfl) (hD.sub [] (by decide) rfl) hS rfl
    · exact absurd hx1 (fun q => q.elim c_1 (fun q => c_8 (i32_gap (n := 199) (by decide) q)))
abbrev rmt_put1 : Room := { frames := 6, cells := 1, slots := 6, locals := 92 }
set_option maxHeartbeats 4000000 in
set_option maxRecDepth 100000 in
theorem t_put1 (l : Launch) (hlT : l.stackTraces = false) (s0 : State) (A0 : Array Value) (hSite : xSite A0 s0 "BlockLog" "java/lang/IllegalArgumentException" NM3 74 76 78) (dC : Nat → ClassId) (dI : Nat → Nat → Nat) (cI : ClassId) (sz : Nat) (t0 : Nat) (k0 : Nat) (l0 : Nat) (v0 : Nat) (b0 : Nat) (g0 : Nat) (c0 : Nat) (w0 : Nat) (v1 : Nat) (bw : Nat) (ta : Nat) (vd : Nat → Nat) (vu : Nat) (x : Int32) (v : Int32) (hx1 : x < nI 1 ∨ nI 4 < x) : KX l y_Top_put w_Top_put rmt_put1 (dC, dI) CL_ [(cI, .int)] sz [.ref t0, .int x, .int v] [(t0, .inr (6, [.ref k0, .ref l0, .ref v0, .ref b0, .ref g0, .ref c0, .ref w0, .int (nI bw), .int (nI ta)])), (v0, .inr (0, [.ref v1, .int (nI vu)])), (v1, .inl (cI, 40, .inl (nA vd)))] [(t0, .inr (6, [.ref k0, .ref l0, .ref v0, .ref b0, .ref g0, .ref c0, .ref w0, .int (nI bw), .int (nI ta)])), (v0, .inr (0, [.ref v1, .int (nI vu)])), (v1, .inl (cI, 40, .inl (nA vd)))] "java/lang/IllegalArgumentException" s0 := by
  refine k_start_x (cc := b_Top_put) (maxL := 4) hlT hSite (by decide) (Nat.le_of_ble_eq_true rfl) (by decide) (by decide) rfl rfl ?_
  intro p e s m args below meth c A QQ ls SS hK hP hD hA hl hN hthr
  obtain ⟨hx, hb, hml, hown, hts⟩ := id SS
  have hl : lv_has ls 4 [(0, .ref t0), (1, .int x), (2, .int v)] := hl
  have hS : va_S A s.heap s.heap [] := va_S.rf
  refine lv_iload_n hx hb d_Top_put_0 rfl (lv_at hl 1 rfl) ?_
  refine lv_iconst (v := nI 1) hx hb d_Top_put_1 (by decide) ?_
  refine lv_icmp_lt (tgt := 10) hx hb d_Top_put_2 (by decide) (fun c_2 => ?_) (fun c_2 => ?_)
  · skip
    exact hthr _ _ 10 ls hl.1 d_Top_put_10 d_Top_put_13 d_Top_put_14 d_Top_put_16 d_Top_put_19 (hP.sub [0, 1, 2] rfl) (hD.sub [0, 1, 2] (by decide) rfl) hS
  · skip
    refine lv_iload_n hx hb d_Top_put_5 rfl (lv_at hl 1 rfl) ?_
    refine lv_iconst (v := nI 4) hx hb d_Top_put_6 (by decide) ?_
    refine lv_icmp_le (tgt := 20) hx hb d_Top_put_7 (by decide) (fun c_7 => ?_) (fun c_7 => ?_)
    · exact absurd hx1 (fun q => q.elim c_2 (Int32.not_lt.mpr c_7))
    · skip
      exact hthr _ _ 10 ls hl.1 d_Top_put_10 d_Top_put_13 d_Top_put_14 d_Top_put_16 d_Top_put_19 (hP.sub [0, 1, 2] rfl) (hD.sub [0, 1, 2] (by decide) rfl) hS
abbrev rmt_put2 : Room := { frames := 6, cells := 1, slots := 6, locals := 92 }
set_option maxHeartbeats 4000000 in
set_option maxRecDepth 100000 in
theorem t_put2 (l : Launch) (hlT : l.stackTraces = false) (s0 : State) (A0 : Array Value) (hSite : xSite A0 s0 "BlockLog" "java/lang/UnsupportedOperationException" NM3 85 87 89) (dC : Nat → ClassId) (dI : Nat → Nat → Nat) (cI : ClassId) (sz : Nat) (t0 : Nat) (k0 : Nat) (l0 : Nat) (v0 : Nat) (b0 : Nat) (g0 : Nat) (c0 : Nat) (w0 : Nat) (v1 : Nat) (bw : Nat) (ta : Nat) (vd : Nat → Nat) (vu : Nat) (mn : Nat) (v : Int32) (hm1 : 1 ≤ mn) (hm4 : mn ≤ 4) (hvu : vu ≤ 40) (hvm : 40 < vu + mn) : KX l y_Top_put w_Top_put rmt_put2 (dC, dI) CL_ [(cI, .int)] sz [.ref t0, .int (nI mn), .int v] [(t0, .inr (6, [.ref k0, .ref l0, .ref v0, .ref b0, .ref g0, .ref c0, .ref w0, .int (nI bw), .int (nI ta)])), (v0, .inr (0, [.ref v1, .int (nI vu)])), (v1, .inl (cI, 40, .inl (nA vd)))] [(t0, .inr (6, [.ref k0, .ref l0, .ref v0, .ref b0, .ref g0, .ref c0, .ref w0, .int (nI bw), .int (nI ta)])), (v0, .inr (0, [.ref v1, .int (nI vu)])), (v1, .inl (cI, 40, .inl (nA vd)))] "java/lang/UnsupportedOperationException" s0 := by
  refine k_start_x (cc := b_Top_put) (maxL := 4) hlT hSite (by decide) (Nat.le_of_ble_eq_true rfl) (by decide) (by decide) rfl rfl ?_
  intro p e s m args below meth c A QQ ls SS hK hP hD hA hl hN hthr
  obtain ⟨hx, hb, hml, hown, hts⟩ := id SS
  have hl : lv_has ls 4 [(0, .ref t0), (1, .int (nI mn)), (2, .int v)] := hl
  have hS : va_S A s.heap s.heap [] := va_S.rf
  refine lv_iload_n hx hb d_Top_put_0 rfl (lv_at hl 1 rfl) ?_
  refine lv_iconst (v := nI 1) hx hb d_Top_put_1 (by decide) ?_
  refine n_icmp_lt (tgt := 10) hx hb d_Top_put_2 (by decide) (by omega) (by omega) (fun c_2 => ?_) (fun c_2 => ?_)
  · exact absurd c_2 (by omega)
  · skip
    refine lv_iload_n hx hb d_Top_put_5 rfl (lv_at hl 1 rfl) ?_
    refine lv_iconst (v := nI 4) hx hb d_Top_put_6 (by decide) ?_
    refine n_icmp_le (tgt := 20) hx hb d_Top_put_7 (by decide) (by omega) (by omega) (fun c_7 => ?_) (fun c_7 => ?_)
    · skip
      refine lv_aload_n hx hb d_Top_put_20 rfl (lv_at hl 0 rfl) ?_
      refine va_get (D := (dC, dI)) (ci := 6) (v := .ref v0) (C := R_Top) (T := F_Top) (N := 9) hx hb hts in_Top hown hK hP 0 rfl rfl 2 (by decide) (hts _ u_252) (fun _ h9 => h9) rfl d_Top_put_21 ?_
      refine kj_i (wr := [(t0, .inr (6, [.ref k0, .ref l0, .ref v0, .ref b0, .ref g0, .ref c0, .ref w0, .int (nI bw), .int (nI ta)]))]) (va_runV (As := []) (rest := []) SS (c_Row_length l dC dI cI s.heap.size v0 v1 40 vd vu ) (k_cwV 0 hts u_366 u_240 u_241 u_38 u_242 rfl rfl (by decide +kernel) ⟨Nat.le_of_ble_eq_true rfl, Nat.le_of_ble_eq_true rfl⟩) (kp_V hN hK [0] rfl hP hD [1, 2] rfl (by decide) (ci := 0) rfl 0 rfl) rfl rfl hl.1 rfl (lv_room (Nat.le_of_ble_eq_true rfl)) d_Top_put_24 ⟨Nat.le_of_ble_eq_true rfl, Nat.le_of_ble_eq_true rfl⟩) hP hD hS hA [1, 2] [0] rfl rfl (by decide) (by decide) (fun H locs hP hD hS => ?_)
      have hP : va_P (dC, dI) CL_ [(t0, .inr (6, [.ref k0, .ref l0, .ref v0, .ref b0, .ref g0, .ref c0, .ref w0, .int (nI bw), .int (nI ta)])), (v0, .inr (0, [.ref v1, .int (nI vu)])), (v1, .inl (cI, 40, .inl (nA vd)))] H := hP
      have hD : va_D A [(t0, .inr (6, [.ref k0, .ref l0, .ref v0, .ref b0, .ref g0, .ref c0, .ref w0, .int (nI bw), .int (nI ta)])), (v0, .inr (0, [.ref v1, .int (nI vu)])), (v1, .inl (cI, 40, .inl (nA vd)))] := hD
      refine lv_iload_n hx hb d_Top_put_27 rfl (lv_at hl 1 rfl) ?_
      refine n_iadd hx hb d_Top_put_28 ?_
      refine lv_bipush (v := nI 40) hx hb d_Top_put_29 (by decide) ?_
      refine n_icmp_le (tgt := 44) hx hb d_Top_put_31 (by decide) (by omega) (by omega) (fun c_31 => ?_) (fun c_31 => ?_)
      · exact absurd c_31 (by omega)
      · skip
        exact hthr _ _ 34 ls hl.1 d_Top_put_34 d_Top_put_37 d_Top_put_38 d_Top_put_40 d_Top_put_43 (hP.sub [0, 1, 2] rfl) (hD.sub [0, 1, 2] (by decide) rfl) hS
    · exact absurd c_7 (by omega)
abbrev rmt_set1 : Room := { frames := 6, cells := 1, slots := 6, locals := 92 }
set_option maxHeartbeats 4000000 in
set_option maxRecDepth 100000 in
theorem t_set1 (l : Launch) (hlT : l.stackTraces = false) (s0 : State) (A0 : Array Value) (hSite : xSite A0 s0 "BlockLog" "java/lang/IllegalArgumentException" NM3 74 97 78) (dC : Nat → ClassId) (dI : Nat → Nat → Nat) (cI : ClassId) (sz : Nat) (t0 : Nat) (k0 : Nat) (l0 : Nat) (v0 : Nat) (b0 : Nat) (g0 : Nat) (c0 : Nat) (w0 : Nat) (b1 : Nat) (b2 : Nat) (bw : Nat) (ta : Nat) (bd : Nat → Nat) (bu : Nat) (x : Int32) (hx1 : x < 0 ∨ nI 199 < x) : KX l y_Top_set w_Top_set rmt_set1 (dC, dI) CL_ [(cI, .int)] sz [.ref t0, .int x] [(t0, .inr (6, [.ref k0, .ref l0, .ref v0, .ref b0, .ref g0, .ref c0, .ref w0, .int (nI bw), .int (nI ta)])), (b0, .inr (1, [.ref b1])), (b1, .inr (0, [.ref b2, .int (nI bu)])), (b2, .inl (cI, 337, .inl (nA bd)))] [(t0, .inr (6, [.ref k0, .ref l0, .ref v0, .ref b0, .ref g0, .ref c0, .ref w0, .int (nI bw), .int (nI ta)])), (b0, .inr (1, [.ref b1])), (b1, .inr (0, [.ref b2, .int (nI bu)])), (b2, .inl (cI, 337, .inl (nA bd)))] "java/lang/IllegalArgumentException" s0 := by
  refine k_start_x (cc := b_Top_set) (maxL := 2) hlT hSite (by decide) (Nat.le_of_ble_eq_true rfl) (by decide) (by decide) rfl rfl ?_
  intro p e s m args below meth c A QQ ls SS hK hP hD hA hl hN hthr
  obtain ⟨hx, hb, hml, hown, hts⟩ := id SS
  have hl : lv_has ls 2 [(0, .ref t0), (1, .int x)] := hl
  have hS : va_S A s.heap s.heap [] := va_S.rf
  refine lv_iload_n hx hb d_Top_set_0 rfl (lv_at hl 1 rfl) ?_
  refine kj_i (wr := [(t0, .inr (6, [.ref k0, .ref l0, .ref v0, .ref b0, .ref g0, .ref c0, .ref w0, .int (nI bw), .int (nI ta)])), (b0, .inr (1, [.ref b1])), (b1, .inr (0, [.ref b2, .int (nI bu)])), (b2, .inl (cI, 337, .inl (nA bd)))]) (va_runS (As := [.int x]) (rest := []) SS (c_isKeyX l dC dI cI s.heap.size x hx1) (k_cwS 1 hts u_391 u_244 u_35 u_245 rfl rfl (by decide +kernel) ⟨Nat.le_of_ble_eq_true rfl, Nat.le_of_ble_eq_true rfl⟩) (kp_S hN hK [0] rfl hP hD [] rfl (by decide)) rfl rfl hl.1 rfl (lv_room (Nat.le_of_ble_eq_true rfl)) d_Top_set_1 ⟨Nat.le_of_ble_eq_true rfl, Nat.le_of_ble_eq_true rfl⟩) hP hD hS hA [] [0, 1, 2, 3] rfl rfl (by decide) (by decide) (fun H locs hP hD hS => ?_)
  have hP : va_P (dC, dI) CL_ [(t0, .inr (6, [.ref k0, .ref l0, .ref v0, .ref b0, .ref g0, .ref c0, .ref w0, .int (nI bw), .int (nI ta)])), (b0, .inr (1, [.ref b1])), (b1, .inr (0, [.ref b2, .int (nI bu)])), (b2, .inl (cI, 337, .inl (nA bd)))] H := hP
  have hD : va_D A [(t0, .inr (6, [.ref k0, .ref l0, .ref v0, .ref b0, .ref g0, .ref c0, .ref w0, .int (nI bw), .int (nI ta)])), (b0, .inr (1, [.ref b1])), (b1, .inr (0, [.ref b2, .int (nI bu)])), (b2, .inl (cI, 337, .inl (nA bd)))] := hD
  refine n_if_neB (tgt := 17) hx hb d_Top_set_4 (by decide) (fun c_4 => ?_) (fun c_4 => ?_)
  · exact absurd c_4 (by decide)
  · skip
    exact hthr _ _ 7 ls hl.1 d_Top_set_7 d_Top_set_10 d_Top_set_11 d_Top_set_13 d_Top_set_16 (hP.sub [0, 1, 2, 3] rfl) (hD.sub [0, 1, 2, 3] (by decide) rfl) hS
abbrev rmt_set2 : Room := { frames := 6, cells := 1, slots := 6, locals := 92 }
set_option maxHeartbeats 4000000 in
set_option maxRecDepth 100000 in
theorem t_set2 (l : Launch) (hlT : l.stackTraces = false) (s0 : State) (A0 : Array Value) (hSite : xSite A0 s0 "BlockLog" "java/lang/UnsupportedOperationException" NM3 85 103 89) (dC : Nat → ClassId) (dI : Nat → Nat → Nat) (cI : ClassId) (sz : Nat) (t0 : Nat) (k0 : Nat) (l0 : Nat) (v0 : Nat) (b0 : Nat) (g0 : Nat) (c0 : Nat) (w0 : Nat) (b1 : Nat) (b2 : Nat) (bw : Nat) (ta : Nat) (bd : Nat → Nat) (bu : Nat) (k : Nat) (hk : k < 200) (hb1 : 1 ≤ bu) (hb2 : bu ≤ 337) (hb8 : bd 0 = 8) : KX l y_Top_set w_Top_set rmt_set2 (dC, dI) CL_ [(cI, .int)] sz [.ref t0, .int (nI k)] [(t0, .inr (6, [.ref k0, .ref l0, .ref v0, .ref b0, .ref g0, .ref c0, .ref w0, .int (nI bw), .int (nI ta)])), (b0, .inr (1, [.ref b1])), (b1, .inr (0, [.ref b2, .int (nI bu)])), (b2, .inl (cI, 337, .inl (nA bd)))] [(t0, .inr (6, [.ref k0, .ref l0, .ref v0, .ref b0, .ref g0, .ref c0, .ref w0, .int (nI bw), .int (nI ta)])), (b0, .inr (1, [.ref b1])), (b1, .inr (0, [.ref b2, .int (nI bu)])), (b2, .inl (cI, 337, .inl (nA bd)))] "java/lang/UnsupportedOperationException" s0 := by
  refine k_start_x (cc := b_Top_set) (maxL := 2) hlT hSite (by decide) (Nat.le_of_ble_eq_true rfl) (by decide) (by decide) rfl rfl ?_
  intro p e s m args below meth c A QQ ls SS hK hP hD hA hl hN hthr
  obtain ⟨hx, hb, hml, hown, hts⟩ := id SS
  have hl : lv_has ls 2 [(0, .ref t0), (1, .int (nI k))] := hl
  have hS : va_S A s.heap s.heap [] := va_S.rf
  refine lv_iload_n hx hb d_Top_set_0 rfl (lv_at hl 1 rfl) ?_
  refine kj_i (wr := [(t0, .inr (6, [.ref k0, .ref l0, .ref v0, .ref b0, .ref g0, .ref c0, .ref w0, .int (nI bw), .int (nI ta)])), (b0, .inr (1, [.ref b1])), (b1, .inr (0, [.ref b2, .int (nI bu)])), (b2, .inl (cI, 337, .inl (nA bd)))]) (va_runS (As := [.int (nI k)]) (rest := []) SS (c_isKey l dC dI cI s.heap.size k (by omega)) (k_cwS 1 hts u_391 u_244 u_35 u_245 rfl rfl (by decide +kernel) ⟨Nat.le_of_ble_eq_true rfl, Nat.le_of_ble_eq_true rfl⟩) (kp_S hN hK [0] rfl hP hD [] rfl (by decide)) rfl rfl hl.1 rfl (lv_room (Nat.le_of_ble_eq_true rfl)) d_Top_set_1 ⟨Nat.le_of_ble_eq_true rfl, Nat.le_of_ble_eq_true rfl⟩) hP hD hS hA [] [0, 1, 2, 3] rfl rfl (by decide) (by decide) (fun H locs hP hD hS => ?_)
  have hP : va_P (dC, dI) CL_ [(t0, .inr (6, [.ref k0, .ref l0, .ref v0, .ref b0, .ref g0, .ref c0, .ref w0, .int (nI bw), .int (nI ta)])), (b0, .inr (1, [.ref b1])), (b1, .inr (0, [.ref b2, .int (nI bu)])), (b2, .inl (cI, 337, .inl (nA bd)))] H := hP
  have hD : va_D A [(t0, .inr (6, [.ref k0, .ref l0, .ref v0, .ref b0, .ref g0, .ref c0, .ref w0, .int (nI bw), .int (nI ta)])), (b0, .inr (1, [.ref b1])), (b1, .inr (0, [.ref b2, .int (nI bu)])), (b2, .inl (cI, 337, .inl (nA bd)))] := hD
  refine n_if_neB (tgt := 17) hx hb d_Top_set_4 (by decide) (fun c_4 => ?_) (fun c_4 => ?_)
  · skip
    refine lv_aload_n hx hb d_Top_set_17 rfl (lv_at hl 0 rfl) ?_
    refine va_get (D := (dC, dI)) (ci := 6) (v := .ref b0) (C := R_Top) (T := F_Top) (N := 9) hx hb hts in_Top hown hK hP 0 rfl rfl 3 (by decide) (hts _ u_253) (fun _ h9 => h9) rfl d_Top_set_18 ?_
    refine kj_i (wr := [(t0, .inr (6, [.ref k0, .ref l0, .ref v0, .ref b0, .ref g0, .ref c0, .ref w0, .int (nI bw), .int (nI ta)]))]) (va_runV (As := []) (rest := []) SS (c_Entry_isFull l dC dI cI H.size b0 b1 b2 bd bu (by omega) (by omega) (by omega)) (k_cwV 0 hts u_393 u_394 u_395 u_40 u_396 rfl rfl (by decide +kernel) ⟨Nat.le_of_ble_eq_true rfl, Nat.le_of_ble_eq_true rfl⟩) (kp_V hN hK [0] rfl hP hD [1, 2, 3] rfl (by decide) (ci := 1) rfl 0 rfl) rfl rfl hl.1 rfl (lv_room (Nat.le_of_ble_eq_true rfl)) d_Top_set_21 ⟨Nat.le_of_ble_eq_true rfl, Nat.le_of_ble_eq_true rfl⟩) hP hD hS hA [1, 2, 3] [0] rfl rfl (by decide) (by decide) (fun H locs hP hD hS => ?_)
    have hP : va_P (dC, dI) CL_ [(t0, .inr (6, [.ref k0, .ref l0, .ref v0, .ref b0, .ref g0, .ref c0, .ref w0, .int (nI bw), .int (nI ta)])), (b0, .inr (1, [.ref b1])), (b1, .inr (0, [.ref b2, .int (nI bu)])), (b2, .inl (cI, 337, .inl (nA bd)))] H := hP
    have hD : va_D A [(t0, .inr (6, [.ref k0, .ref l0, .ref v0, .ref b0, .ref g0, .ref c0, .ref w0, .int (nI bw), .int (nI ta)])), (b0, .inr (1, [.ref b1])), (b1, .inr (0, [.ref b2, .int (nI bu)])), (b2, .inl (cI, 337, .inl (nA bd)))] := hD
    refine n_if_eqB (tgt := 37) hx hb d_Top_set_24 (by decide) (fun c_24 => ?_) (fun c_24 => ?_)
    · exact absurd (of_decide_eq_false c_24) (by omega)
    · skip
      exact hthr _ _ 27 ls hl.1 d_Top_set_27 d_Top_set_30 d_Top_set_31 d_Top_set_33 d_Top_set_36 (hP.sub [0, 1, 2, 3] rfl) (hD.sub [0, 1, 2, 3] (by decide) rfl) hS
  · exact absurd hk (of_decide_eq_false c_4)
abbrev rmt_drop1 : Room := { frames := 6, cells := 1, slots := 6, locals := 92 }
set_option maxHeartbeats 4000000 in
set_option maxRecDepth 100000 in
theorem t_drop1 (l : Launch) (hlT : l.stackTraces = false) (s0 : State) (A0 : Array Value) (hSite : xSite A0 s0 "BlockLog" "java/lang/IllegalArgumentException" NM3 74 97 78) (dC : Nat → ClassId) (dI : Nat → Nat → Nat) (cI : ClassId) (sz : Nat) (t0 : Nat) (k0 : Nat) (l0 : Nat) (v0 : Nat) (b0 : Nat) (g0 : Nat) (c0 : Nat) (w0 : Nat) (b1 : Nat) (b2 : Nat) (bw : Nat) (ta : Nat) (bd : Nat → Nat) (bu : Nat) (x : Int32) (hx1 : x < 0 ∨ nI 199 < x) : KX l y_Top_drop w_Top_drop rmt_drop1 (dC, dI) CL_ [(cI, .int)] sz [.ref t0, .int x] [(t0, .inr (6, [.ref k0, .ref l0, .ref v0, .ref b0, .ref g0, .ref c0, .ref w0, .int (nI bw), .int (nI ta)])), (b0, .inr (1, [.ref b1])), (b1, .inr (0, [.ref b2, .int (nI bu)])), (b2, .inl (cI, 337, .inl (nA bd)))] [(t0, .inr (6, [.ref k0, .ref l0, .ref v0, .ref b0, .ref g0, .ref c0, .ref w0, .int (nI bw), .int (nI ta)])), (b0, .inr (1, [.ref b1])), (b1, .inr (0, [.ref b2, .int (nI bu)])), (b2, .inl (cI, 337, .inl (nA bd)))] "java/lang/IllegalArgumentException" s0 := by
  refine k_start_x (cc := b_Top_drop) (maxL := 2) hlT hSite (by decide) (Nat.le_of_ble_eq_true rfl) (by decide) (by decide) rfl rfl ?_
  intro p e s m args below meth c A QQ ls SS hK hP hD hA hl hN hthr
  obtain ⟨hx, hb, hml, hown, hts⟩ := id SS
  have hl : lv_has ls 2 [(0, .ref t0), (1, .int x)] := hl
  have hS : va_S A s.heap s.heap [] := va_S.rf
  refine lv_iload_n hx hb d_Top_drop_0 rfl (lv_at hl 1 rfl) ?_
  refine kj_i (wr := [(t0, .inr (6, [.ref k0, .ref l0, .ref v0, .ref b0, .ref g0, .ref c0, .ref w0, .int (nI bw), .int (nI ta)])), (b0, .inr (1, [.ref b1])), (b1, .inr (0, [.ref b2, .int (nI bu)])), (b2, .inl (cI, 337, .inl (nA bd)))]) (va_runS (As := [.int x]) (rest := []) SS (c_isKeyX l dC dI cI s.heap.size x hx1) (k_cwS 1 hts u_391 u_244 u_35 u_245 rfl rfl (by decide +kernel) ⟨Nat.le_of_ble_eq_true rfl, Nat.le_of_ble_eq_true rfl⟩) (kp_S hN hK [0] rfl hP hD [] rfl (by decide)) rfl rfl hl.1 rfl (lv_room (Nat.le_of_ble_eq_true rfl)) d_Top_drop_1 ⟨Nat.le_of_ble_eq_true rfl, Nat.le_of_ble_eq_true rfl⟩) hP hD hS hA [] [0, 1, 2, 3] rfl rfl (by decide) (by decide) (fun H locs hP hD hS => ?_)
  have hP : va_P (dC, dI) CL_ [(t0, .inr (6, [.ref k0, .ref l0, .ref v0, .ref b0, .ref g0, .ref c0, .ref w0, .int (nI bw), .int (nI ta)])), (b0, .inr (1, [.ref b1])), (b1, .inr (0, [.ref b2, .int (nI bu)])), (b2, .inl (cI, 337, .inl (nA bd)))] H := hP
  have hD : va_D A [(t0, .inr (6, [.ref k0, .ref l0, .ref v0, .ref b0, .ref g0, .ref c0, .ref w0, .int (nI bw), .int (nI ta)])), (b0, .inr (1, [.ref b1])), (b1, .inr (0, [.ref b2, .int (nI bu)])), (b2, .inl (cI, 337, .inl (nA bd)))] := hD
  refine n_if_neB (tgt := 17) hx hb d_Top_drop_4 (by decide) (fun c_4 => ?_) (fun c_4 => ?_)
  · exact absurd c_4 (by decide)
  · skip
    exact hthr _ _ 7 ls hl.1 d_Top_drop_7 d_Top_drop_10 d_Top_drop_11 d_Top_drop_13 d_Top_drop_16 (hP.sub [0, 1, 2, 3] rfl) (hD.sub [0, 1, 2, 3] (by decide) rfl) hS
abbrev rmt_drop2 : Room := { frames := 6, cells := 1, slots := 6, locals := 92 }
set_option maxHeartbeats 4000000 in
set_option maxRecDepth 100000 in
theorem t_drop2 (l : Launch) (hlT : l.stackTraces = false) (s0 : State) (A0 : Array Value) (hSite : xSite A0 s0 "BlockLog" "java/lang/UnsupportedOperationException" NM3 85 103 89) (dC : Nat → ClassId) (dI : Nat → Nat → Nat) (cI : ClassId) (sz : Nat) (t0 : Nat) (k0 : Nat) (l0 : Nat) (v0 : Nat) (b0 : Nat) (g0 : Nat) (c0 : Nat) (w0 : Nat) (b1 : Nat) (b2 : Nat) (bw : Nat) (ta : Nat) (bd : Nat → Nat) (bu : Nat) (k : Nat) (hk : k < 200) (hb1 : 1 ≤ bu) (hb2 : bu ≤ 337) (hb8 : bd 0 = 8) : KX l y_Top_drop w_Top_drop rmt_drop2 (dC, dI) CL_ [(cI, .int)] sz [.ref t0, .int (nI k)] [(t0, .inr (6, [.ref k0, .ref l0, .ref v0, .ref b0, .ref g0, .ref c0, .ref w0, .int (nI bw), .int (nI ta)])), (b0, .inr (1, [.ref b1])), (b1, .inr (0, [.ref b2, .int (nI bu)])), (b2, .inl (cI, 337, .inl (nA bd)))] [(t0, .inr (6, [.ref k0, .ref l0, .ref v0, .ref b0, .ref g0, .ref c0, .ref w0, .int (nI bw), .int (nI ta)])), (b0, .inr (1, [.ref b1])), (b1, .inr (0, [.ref b2, .int (nI bu)])), (b2, .inl (cI, 337, .inl (nA bd)))] "java/lang/UnsupportedOperationException" s0 := by
  refine k_start_x (cc := b_Top_drop) (maxL := 2) hlT hSite (by decide) (Nat.le_of_ble_eq_true rfl) (by decide) (by decide) rfl rfl ?_
  intro p e s m args below meth c A QQ ls SS hK hP hD hA hl hN hthr
  obtain ⟨hx, hb, hml, hown, hts⟩ := id SS
  have hl : lv_has ls 2 [(0, .ref t0), (1, .int (nI k))] := hl
  have hS : va_S A s.heap s.heap [] := va_S.rf
  refine lv_iload_n hx hb d_Top_drop_0 rfl (lv_at hl 1 rfl) ?_
  refine kj_i (wr := [(t0, .inr (6, [.ref k0, .ref l0, .ref v0, .ref b0, .ref g0, .ref c0, .ref w0, .int (nI bw), .int (nI ta)])), (b0, .inr (1, [.ref b1])), (b1, .inr (0, [.ref b2, .int (nI bu)])), (b2, .inl (cI, 337, .inl (nA bd)))]) (va_runS (As := [.int (nI k)]) (rest := []) SS (c_isKey l dC dI cI s.heap.size k (by omega)) (k_cwS 1 hts u_391 u_244 u_35 u_245 rfl rfl (by decide +kernel) ⟨Nat.le_of_ble_eq_true rfl, Nat.le_of_ble_eq_true rfl⟩) (kp_S hN hK [0] rfl hP hD [] rfl (by decide)) rfl rfl hl.1 rfl (lv_room (Nat.le_of_ble_eq_true rfl)) d_Top_drop_1 ⟨Nat.le_of_ble_eq_true rfl, Nat.le_of_ble_eq_true rfl⟩) hP hD hS hA [] [0, 1, 2, 3] rfl rfl (by decide) (by decide) (fun H locs hP hD hS => ?_)
  have hP : va_P (dC, dI) CL_ [(t0, .inr (6, [.ref k0, .ref l0, .ref v0, .ref b0, .ref g0, .ref c0, .ref w0, .int (nI bw), .int (nI ta)])), (b0, .inr (1, [.ref b1])), (b1, .inr (0, [.ref b2, .int (nI bu)])), (b2, .inl (cI, 337, .inl (nA bd)))] H := hP
  have hD : va_D A [(t0, .inr (6, [.ref k0, .ref l0, .ref v0, .ref b0, .ref g0, .ref c0, .ref w0, .int (nI bw), .int (nI ta)])), (b0, .inr (1, [.ref b1])), (b1, .inr (0, [.ref b2, .int (nI bu)])), (b2, .inl (cI, 337, .inl (nA bd)))] := hD
  refine n_if_neB (tgt := 17) hx hb d_Top_drop_4 (by decide) (fun c_4 => ?_) (fun c_4 => ?_)
  · skip
    refine lv_aload_n hx hb d_Top_drop_17 rfl (lv_at hl 0 rfl) ?_
    refine va_get (D := (dC, dI)) (ci := 6) (v := .ref b0) (C := R_Top) (T := F_Top) (N := 9) hx hb hts in_Top hown hK hP 0 rfl rfl 3 (by decide) (hts _ u_253) (fun _ h9 => h9) rfl d_Top_drop_18 ?_
    refine kj_i (wr := [(t0, .inr (6, [.ref k0, .ref l0, .ref v0, .ref b0, .ref g0, .ref c0, .ref w0, .int (nI bw), .int (nI ta)]))]) (va_runV (As := []) (rest := []) SS (c_Entry_isFull l dC dI cI H.size b0 b1 b2 bd bu (by omega) (by omega) (by omega)) (k_cwV 0 hts u_393 u_394 u_395 u_40 u_396 rfl rfl (by decide +kernel) ⟨Nat.le_of_ble_eq_true rfl, Nat.le_of_ble_eq_true rfl⟩) (kp_V hN hK [0] rfl hP hD [1, 2, 3] rfl (by decide) (ci := 1) rfl 0 rfl) rfl rfl hl.1 rfl (lv_room (Nat.le_of_ble_eq_true rfl)) d_Top_drop_21 ⟨Nat.le_of_ble_eq_true rfl, Nat.le_of_ble_eq_true rfl⟩) hP hD hS hA [1, 2, 3] [0] rfl rfl (by decide) (by decide) (fun H locs hP hD hS => ?_)
    have hP : va_P (dC, dI) CL_ [(t0, .inr (6, [.ref k0, .ref l0, .ref v0, .ref b0, .ref g0, .ref c0, .ref w0, .int (nI bw), .int (nI ta)])), (b0, .inr (1, [.ref b1])), (b1, .inr (0, [.ref b2, .int (nI bu)])), (b2, .inl (cI, 337, .inl (nA bd)))] H := hP
    have hD : va_D A [(t0, .inr (6, [.ref k0, .ref l0, .ref v0, .ref b0, .ref g0, .ref c0, .ref w0, .int (nI bw), .int (nI ta)])), (b0, .inr (1, [.ref b1])), (b1, .inr (0, [.ref b2, .int (nI bu)])), (b2, .inl (cI, 337, .inl (nA bd)))] := hD
    refine n_if_eqB (tgt := 37) hx hb d_Top_drop_24 (by decide) (fun c_24 => ?_) (fun c_24 => ?_)
    · exact absurd (of_decide_eq_false c_24) (by omega)
    · skip
      exact hthr _ _ 27 ls hl.1 d_Top_drop_27 d_Top_drop_30 d_Top_drop_31 d_Top_drop_33 d_Top_drop_36 (hP.sub [0, 1, 2, 3] rfl) (hD.sub [0, 1, 2, 3] (by decide) rfl) hS
  · exact absurd hk (of_decide_eq_false c_4)
abbrev rmt_size1 : Room := { frames := 6, cells := 1, slots := 6, locals := 92 }
set_option maxHeartbeats 4000000 in
set_option maxRecDepth 100000 in
theorem t_size1 (l : Launch) (hlT : l.stackTraces = false) (s0 : State) (A0 : Array Value) (hSite : xSite A0 s0 "BlockLog" "java/lang/IllegalArgumentException" NM3 74 97 78) (dC : Nat → ClassId) (dI : Nat → Nat → Nat) (cI : ClassId) (sz : Nat) (t0 : Nat) (k0 : Nat) (l0 : Nat) (v0 : Nat) (b0 : Nat) (g0 : Nat) (c0 : Nat) (w0 : Nat) (l1 : Nat) (l2 : Nat) (l3 : Nat) (l4 : Nat) (bw : Nat) (ta : Nat) (lh : Nat) (le : Nat) (lb : Nat) (ln : Nat) (lr : Nat → Nat) (lu : Nat) (lt : Nat → Nat) (lz : Nat → Option Nat) (x : Int32) (hx1 : x < 0 ∨ nI 199 < x) : KX l y_Top_size w_Top_size rmt_size1 (dC, dI) CL_ [(cI, .int)] sz [.ref t0, .int x] [(t0, .inr (6, [.ref k0, .ref l0, .ref v0, .ref b0, .ref g0, .ref c0, .ref w0, .int (nI bw), .int (nI ta)])), (l0, .inr (5, [.ref l1, .ref l3, .ref l4, .int (nI lh), .int (nI le), .int (nI lb), .int (nI ln)])), (l1, .inr (0, [.ref l2, .int (nI lu)])), (l2, .inl (cI, 2470, .inl (nA lr))), (l3, .inl (cI, 200, .inl (nA lt))), (l4, .inl (cI, 200, .inl (oA lz)))] [(t0, .inr (6, [.ref k0, .ref l0, .ref v0, .ref b0, .ref g0, .ref c0, .ref w0, .int (nI bw), .int (nI ta)])), (l0, .inr (5, [.ref l1, .ref l3, .ref l4, .int (nI lh), .int (nI le), .int (nI lb), .int (nI ln)])), (l1, .inr (0, [.ref l2, .int (nI lu)])), (l2, .inl (cI, 2470, .inl (nA lr))), (l3, .inl (cI, 200, .inl (nA lt))), (l4, .inl (cI, 200, .inl (oA lz)))] "java/lang/IllegalArgumentException" s0 := by
  refine k_start_x (cc := b_Top_size) (maxL := 2) hlT hSite (by decide) (Nat.le_of_ble_eq_true rfl) (by decide) (by decide) rfl rfl ?_
  intro p e s m args below meth c A QQ ls SS hK hP hD hA hl hN hthr
  obtain ⟨hx, hb, hml, hown, hts⟩ := id SS
  have hl : lv_has ls 2 [(0, .ref t0), (1, .int x)] := hl
  have hS : va_S A s.heap s.heap [] := va_S.rf
  refine lv_iload_n hx hb d_Top_size_0 rfl (lv_at hl 1 rfl) ?_
  refine kj_i (wr := [(t0, .inr (6, [.ref k0, .ref l0, .ref v0, .ref b0, .ref g0, .ref c0, .ref w0, .int (nI bw), .int (nI ta)])), (l0, .inr (5, [.ref l1, .ref l3, .ref l4, .int (nI lh), .int (nI le), .int (nI lb), .int (nI ln)])), (l1, .inr (0, [.ref l2, .int (nI lu)])), (l2, .inl (cI, 2470, .inl (nA lr))), (l3, .inl (cI, 200, .inl (nA lt))), (l4, .inl (cI, 200, .inl (oA lz)))]) (va_runS (As := [.int x]) (rest := []) SS (c_isKeyX l dC dI cI s.heap.size x hx1) (k_cwS 1 hts u_391 u_244 u_35 u_245 rfl rfl (by decide +kernel) ⟨Nat.le_of_ble_eq_true rfl, Nat.le_of_ble_eq_true rfl⟩) (kp_S hN hK [0] rfl hP hD [] rfl (by decide)) rfl rfl hl.1 rfl (lv_room (Nat.le_of_ble_eq_true rfl)) d_Top_size_1 ⟨Nat.le_of_ble_eq_true rfl, Nat.le_of_ble_eq_true rfl⟩) hP hD hS hA [] [0, 1, 2, 3, 4, 5] rfl rfl (by decide) (by decide) (fun H locs hP hD hS => ?_)
  have hP : va_P (dC, dI) CL_ [(t0, .inr (6, [.ref k0, .ref l0, .ref v0, .ref b0, .ref g0, .ref c0, .ref w0, .int (nI bw), .int (nI ta)])), (l0, .inr (5, [.ref l1, .ref l3, .ref l4, .int (nI lh), .int (nI le), .int (nI lb), .int (nI ln)])), (l1, .inr (0, [.ref l2, .int (nI lu)])), (l2, .inl (cI, 2470, .inl (nA lr))), (l3, .inl (cI, 200, .inl (nA lt))), (l4, .inl (cI, 200, .inl (oA lz)))] H := hP
  have hD : va_D A [(t0, .inr (6, [.ref k0, .ref l0, .ref v0, .ref b0, .ref g0, .ref c0, .ref w0, .int (nI bw), .int (nI ta)])), (l0, .inr (5, [.ref l1, .ref l3, .ref l4, .int (nI lh), .int (nI le), .int (nI lb), .int (nI ln)])), (l1, .inr (0, [.ref l2, .int (nI lu)])), (l2, .inl (cI, 2470, .inl (nA lr))), (l3, .inl (cI, 200, .inl (nA lt))), (l4, .inl (cI, 200, .inl (oA lz)))] := hD
  refine n_if_neB (tgt := 17) hx hb d_Top_size_4 (by decide) (fun c_4 => ?_) (fun c_4 => ?_)
  · exact absurd c_4 (by decide)
  · skip
    exact hthr _ _ 7 ls hl.1 d_Top_size_7 d_Top_size_10 d_Top_size_11 d_Top_size_13 d_Top_size_16 (hP.sub [0, 1, 2, 3, 4, 5] rfl) (hD.sub [0, 1, 2, 3, 4, 5] (by decide) rfl) hS
abbrev rmt_get1 : Room := { frames := 6, cells := 1, slots := 6, locals := 92 }
set_option maxHeartbeats 4000000 in
set_option maxRecDepth 100000 in
theorem t_get1 (l : Launch) (hlT : l.stackTraces = false) (s0 : State) (A0 : Array Value) (hSite : xSite A0 s0 "BlockLog" "java/lang/IllegalArgumentException" NM3 74 97 78) (dC : Nat → ClassId) (dI : Nat → Nat → Nat) (cI : ClassId) (sz : Nat) (t0 : Nat) (k0 : Nat) (l0 : Nat) (v0 : Nat) (b0 : Nat) (g0 : Nat) (c0 : Nat) (w0 : Nat) (l1 : Nat) (l2 : Nat) (l3 : Nat) (l4 : Nat) (bw : Nat) (ta : Nat) (lh : Nat) (le : Nat) (lb : Nat) (ln : Nat) (lr : Nat → Nat) (lu : Nat) (lt : Nat → Nat) (lz : Nat → Option Nat) (x : Int32) (y : Int32) (hx1 : x < 0 ∨ nI 199 < x) : KX l y_Top_get w_Top_get rmt_get1 (dC, dI) CL_ [(cI, .int)] sz [.ref t0, .int x, .int y] [(t0, .inr (6, [.ref k0, .ref l0, .ref v0, .ref b0, .ref g0, .ref c0, .ref w0, .int (nI bw), .int (nI ta)])), (l0, .inr (5, [.ref l1, .ref l3, .ref l4, .int (nI lh), .int (nI le), .int (nI lb), .int (nI ln)])), (l1, .inr (0, [.ref l2, .int (nI lu)])), (l2, .inl (cI, 2470, .inl (nA lr))), (l3, .inl (cI, 200, .inl (nA lt))), (l4, .inl (cI, 200, .inl (oA lz)))] [(t0, .inr (6, [.ref k0, .ref l0, .ref v0, .ref b0, .ref g0, .ref c0, .ref w0, .int (nI bw), .int (nI ta)])), (l0, .inr (5, [.ref l1, .ref l3, .ref l4, .int (nI lh), .int (nI le), .int (nI lb), .int (nI ln)])), (l1, .inr (0, [.ref l2, .int (nI lu)])), (l2, .inl (cI, 2470, .inl (nA lr))), (l3, .inl (cI, 200, .inl (nA lt))), (l4, .inl (cI, 200, .inl (oA lz)))] "java/lang/IllegalArgumentException" s0 := by
  refine k_start_x (cc := b_Top_get) (maxL := 3) hlT hSite (by decide) (Nat.le_of_ble_eq_true rfl) (by decide) (by decide) rfl rfl ?_
  intro p e s m args below meth c A QQ ls SS hK hP hD hA hl hN hthr
  obtain ⟨hx, hb, hml, hown, hts⟩ := id SS
  have hl : lv_has ls 3 [(0, .ref t0), (1, .int x), (2, .int y)] := hl
  have hS : va_S A s.heap s.heap [] := va_S.rf
  refine lv_iload_n hx hb d_Top_get_0 rfl (lv_at hl 1 rfl) ?_
  refine kj_i (wr := [(t0, .inr (6, [.ref k0, .ref l0, .ref v0, .ref b0, .ref g0, .ref c0, .ref w0, .int (nI bw), .int (nI ta)])), (l0, .inr (5, [.ref l1, .ref l3, .ref l4, .int (nI lh), .int (nI le), .int (nI lb), .int (nI ln)])), (l1, .inr (0, [.ref l2, .int (nI lu)])), (l2, .inl (cI, 2470, .inl (nA lr))), (l3, .inl (cI, 200, .inl (nA lt))), (l4, .inl (cI, 200, .inl (oA lz)))]) (va_runS (As := [.int x]) (rest := []) SS (c_isKeyX l dC dI cI s.heap.size x hx1) (k_cwS 1 hts u_391 u_244 u_35 u_245 rfl rfl (by decide +kernel) ⟨Nat.le_of_ble_eq_true rfl, Nat.le_of_ble_eq_true rfl⟩) (kp_S hN hK [0] rfl hP hD [] rfl (by decide)) rfl rfl hl.1 rfl (lv_room (Nat.le_of_ble_eq_true rfl)) d_Top_get_1 ⟨Nat.le_of_ble_eq_true rfl, Nat.le_of_ble_eq_true rfl⟩) hP hD hS hA [] [0, 1, 2, 3, 4, 5] rfl rfl (by decide) (by decide) (fun H locs hP hD hS => ?_)
  have hP : va_P (dC, dI) CL_ [(t0, .inr (6, [.ref k0, .ref l0, .ref v0, .ref b0, .ref g0, .ref c0, .ref w0, .int (nI bw), .int (nI ta)])), (l0, .inr (5, [.ref l1, .ref l3, .ref l4, .int (nI lh), .int (nI le), .int (nI lb), .int (nI ln)])), (l1, .inr (0, [.ref l2, .int (nI lu)])), (l2, .inl (cI, 2470, .inl (nA lr))), (l3, .inl (cI, 200, .inl (nA lt))), (l4, .inl (cI, 200, .inl (oA lz)))] H := hP
  have hD : va_D A [(t0, .inr (6, [.ref k0, .ref l0, .ref v0, .ref b0, .ref g0, .ref c0, .ref w0, .int (nI bw), .int (nI ta)])), (l0, .inr (5, [.ref l1, .ref l3, .ref l4, .int (nI lh), .int (nI le), .int (nI lb), .int (nI ln)])), (l1, .inr (0, [.ref l2, .int (nI lu)])), (l2, .inl (cI, 2470, .inl (nA lr))), (l3, .inl (cI, 200, .inl (nA lt))), (l4, .inl (cI, 200, .inl (oA lz)))] := hD
  refine n_if_neB (tgt := 17) hx hb d_Top_get_4 (by decide) (fun c_4 => ?_) (fun c_4 => ?_)
  · exact absurd c_4 (by decide)
  · skip
    exact hthr _ _ 7 ls hl.1 d_Top_get_7 d_Top_get_10 d_Top_get_11 d_Top_get_13 d_Top_get_16 (hP.sub [0, 1, 2, 3, 4, 5] rfl) (hD.sub [0, 1, 2, 3, 4, 5] (by decide) rfl) hS
abbrev rmt_get2a : Room := { frames := 6, cells := 1, slots := 6, locals := 92 }
set_option maxHeartbeats 4000000 in
set_option maxRecDepth 100000 in
theorem t_get2a (l : Launch) (hlT : l.stackTraces = false) (s0 : State) (A0 : Array Value) (hSite : xSite A0 s0 "BlockLog" "java/util/NoSuchElementException" NM3 156 158 160) (dC : Nat → ClassId) (dI : Nat → Nat → Nat) (cI : ClassId) (sz : Nat) (t0 : Nat) (k0 : Nat) (l0 : Nat) (v0 : Nat) (b0 : Nat) (g0 : Nat) (c0 : Nat) (w0 : Nat) (l1 : Nat) (l2 : Nat) (l3 : Nat) (l4 : Nat) (bw : Nat) (ta : Nat) (lh : Nat) (le : Nat) (lb : Nat) (ln : Nat) (lr : Nat → Nat) (lu : Nat) (lt : Nat → Nat) (lz : Nat → Option Nat) (k : Nat) (y : Int32) (hk : k < 200) (hy : y < 0) : KX l y_Top_get w_Top_get rmt_get2a (dC, dI) CL_ [(cI, .int)] sz [.ref t0, .int (nI k), .int y] [(t0, .inr (6, [.ref k0, .ref l0, .ref v0, .ref b0, .ref g0, .ref c0, .ref w0, .int (nI bw), .int (nI ta)])), (l0, .inr (5, [.ref l1, .ref l3, .ref l4, .int (nI lh), .int (nI le), .int (nI lb), .int (nI ln)])), (l1, .inr (0, [.ref l2, .int (nI lu)])), (l2, .inl (cI, 2470, .inl (nA lr))), (l3, .inl (cI, 200, .inl (nA lt))), (l4, .inl (cI, 200, .inl (oA lz)))] [(t0, .inr (6, [.ref k0, .ref l0, .ref v0, .ref b0, .ref g0, .ref c0, .ref w0, .int (nI bw), .int (nI ta)])), (l0, .inr (5, [.ref l1, .ref l3, .ref l4, .int (nI lh), .int (nI le), .int (nI lb), .int (nI ln)])), (l1, .inr (0, [.ref l2, .int (nI lu)])), (l2, .inl (cI, 2470, .inl (nA lr))), (l3, .inl (cI, 200, .inl (nA lt))), (l4, .inl (cI, 200, .inl (oA lz)))] "java/util/NoSuchElementException" s0 := by
  refine k_start_x (cc := b_Top_get) (maxL := 3) hlT hSite (by decide) (Nat.le_of_ble_eq_true rfl) (by decide) (by decide) rfl rfl ?_
  intro p e s m args below meth c A QQ ls SS hK hP hD hA hl hN hthr
  obtain ⟨hx, hb, hml, hown, hts⟩ := id SS
  have hl : lv_has ls 3 [(0, .ref t0), (1, .int (nI k)), (2, .int y)] := hl
  have hS : va_S A s.heap s.heap [] := va_S.rf
  refine lv_iload_n hx hb d_Top_get_0 rfl (lv_at hl 1 rfl) ?_
  refine kj_i (wr := [(t0, .inr (6, [.ref k0, .ref l0, .ref v0, .ref b0, .ref g0, .ref c0, .ref w0, .int (nI bw), .int (nI ta)])), (l0, .inr (5, [.ref l1, .ref l3, .ref l4, .int (nI lh), .int (nI le), .int (nI lb), .int (nI ln)])), (l1, .inr (0, [.ref l2, .int (nI lu)])), (l2, .inl (cI, 2470, .inl (nA lr))), (l3, .inl (cI, 200, .inl (nA lt))), (l4, .inl (cI, 200, .inl (oA lz)))]) (va_runS (As := [.int (nI k)]) (rest := []) SS (c_isKey l dC dI cI s.heap.size k (by omega)) (k_cwS 1 hts u_391 u_244 u_35 u_245 rfl rfl (by decide +kernel) ⟨Nat.le_of_ble_eq_true rfl, Nat.le_of_ble_eq_true rfl⟩) (kp_S hN hK [0] rfl hP hD [] rfl (by decide)) rfl rfl hl.1 rfl (lv_room (Nat.le_of_ble_eq_true rfl)) d_Top_get_1 ⟨Nat.le_of_ble_eq_true rfl, Nat.le_of_ble_eq_true rfl⟩) hP hD hS hA [] [0, 1, 2, 3, 4, 5] rfl rfl (by decide) (by decide) (fun H locs hP hD hS => ?_)
  have hP : va_P (dC, dI) CL_ [(t0, .inr (6, [.ref k0, .ref l0, .ref v0, .ref b0, .ref g0, .ref c0, .ref w0, .int (nI bw), .int (nI ta)])), (l0, .inr (5, [.ref l1, .ref l3, .ref l4, .int (nI lh), .int (nI le), .int (nI lb), .int (nI ln)])), (l1, .inr (0, [.ref l2, .int (nI lu)])), (l2, .inl (cI, 2470, .inl (nA lr))), (l3, .inl (cI, 200, .inl (nA lt))), (l4, .inl (cI, 200, .inl (oA lz)))] H := hP
  have hD : va_D A [(t0, .inr (6, [.ref k0, .ref l0, .ref v0, .ref b0, .ref g0, .ref c0, .ref w0, .int (nI bw), .int (nI ta)])), (l0, .inr (5, [.ref l1, .ref l3, .ref l4, .int (nI lh), .int (nI le), .int (nI lb), .int (nI ln)])), (l1, .inr (0, [.ref l2, .int (nI lu)])), (l2, .inl (cI, 2470, .inl (nA lr))), (l3, .inl (cI, 200, .inl (nA lt))), (l4, .inl (cI, 200, .inl (oA lz)))] := hD
  refine n_if_neB (tgt := 17) hx hb d_Top_get_4 (by decide) (fun c_4 => ?_) (fun c_4 => ?_)
  · skip
    refine lv_iload_n hx hb d_Top_get_17 rfl (lv_at hl 2 rfl) ?_
    refine lv_if_lt (tgt := 33) hx hb d_Top_get_18 (by decide) (fun c_18 => ?_) (fun c_18 => ?_)
    · skip
      exact hthr _ _ 33 ls hl.1 d_Top_get_33 d_Top_get_36 d_Top_get_37 d_Top_get_39 d_Top_get_42 (hP.sub [0, 1, 2, 3, 4, 5] rfl) (hD.sub [0, 1, 2, 3, 4, 5] (by decide) rfl) hS
    · exact absurd hy c_18
  · exact absurd hk (of_decide_eq_false c_4)
abbrev rmt_get2b : Room := { frames := 6, cells := 1, slots := 6, locals := 92 }
set_option maxHeartbeats 4000000 in
set_option maxRecDepth 100000 in
theorem t_get2b (l : Launch) (hlT : l.stackTraces = false) (s0 : State) (A0 : Array Value) (hSite : xSite A0 s0 "BlockLog" "java/util/NoSuchElementException" NM3 156 158 160) (dC : Nat → ClassId) (dI : Nat → Nat → Nat) (cI : ClassId) (sz : Nat) (t0 : Nat) (k0 : Nat) (l0 : Nat) (v0 : Nat) (b0 : Nat) (g0 : Nat) (c0 : Nat) (w0 : Nat) (l1 : Nat) (l2 : Nat) (l3 : Nat) (l4 : Nat) (bw : Nat) (ta : Nat) (lh : Nat) (le : Nat) (lb : Nat) (ln : Nat) (lr : Nat → Nat) (lu : Nat) (lt : Nat → Nat) (lz : Nat → Option Nat) (k : Nat) (j : Nat) (hk : k < 200) (hj : j < 2 ^ 31) (hz : lz k = none) : KX l y_Top_get w_Top_get rmt_get2b (dC, dI) CL_ [(cI, .int)] sz [.ref t0, .int (nI k), .int (nI j)] [(t0, .inr (6, [.ref k0, .ref l0, .ref v0, .ref b0, .ref g0, .ref c0, .ref w0, .int (nI bw), .int (nI ta)])), (l0, .inr (5, [.ref l1, .ref l3, .ref l4, .int (nI lh), .int (nI le), .int (nI lb), .int (nI ln)])), (l1, .inr (0, [.ref l2, .int (nI lu)])), (l2, .inl (cI, 2470, .inl (nA lr))), (l3, .inl (cI, 200, .inl (nA lt))), (l4, .inl (cI, 200, .inl (oA lz)))] [(t0, .inr (6, [.ref k0, .ref l0, .ref v0, .ref b0, .ref g0, .ref c0, .ref w0, .int (nI bw), .int (nI ta)])), (l0, .inr (5, [.ref l1, .ref l3, .ref l4, .int (nI lh), .int (nI le), .int (nI lb), .int (nI ln)])), (l1, .inr (0, [.ref l2, .int (nI lu)])), (l2, .inl (cI, 2470, .inl (nA lr))), (l3, .inl (cI, 200, .inl (nA lt))), (l4, .inl (cI, 200, .inl (oA lz)))] "java/util/NoSuchElementException" s0 := by
  refine k_start_x (cc := b_Top_get) (maxL := 3) hlT hSite (by decide) (Nat.le_of_ble_eq_true rfl) (by decide) (by decide) rfl rfl ?_
  intro p e s m args below meth c A QQ ls SS hK hP hD hA hl hN hthr
  obtain ⟨hx, hb, hml, hown, hts⟩ := id SS
  have hl : lv_has ls 3 [(0, .ref t0), (1, .int (nI k)), (2, .int (nI j))] := hl
  have hS : va_S A s.heap s.heap [] := va_S.rf
  refine lv_iload_n hx hb d_Top_get_0 rfl (lv_at hl 1 rfl) ?_
  refine kj_i (wr := [(t0, .inr (6, [.ref k0, .ref l0, .ref v0, .ref b0, .ref g0, .ref c0, .ref w0, .int (nI bw), .int (nI ta)])), (l0, .inr (5, [.ref l1, .ref l3, .ref l4, .int (nI lh), .int (nI le), .int (nI lb), .int (nI ln)])), (l1, .inr (0, [.ref l2, .int (nI lu)])), (l2, .inl (cI, 2470, .inl (nA lr))), (l3, .inl (cI, 200, .inl (nA lt))), (l4, .inl (cI, 200, .inl (oA lz)))]) (va_runS (As := [.int (nI k)]) (rest := []) SS (c_isKey l dC dI cI s.heap.size k (by omega)) (k_cwS 1 hts u_391 u_244 u_35 u_245 rfl rfl (by decide +kernel) ⟨Nat.le_of_ble_eq_true rfl, Nat.le_of_ble_eq_true rfl⟩) (kp_S hN hK [0] rfl hP hD [] rfl (by decide)) rfl rfl hl.1 rfl (lv_room (Nat.le_of_ble_eq_true rfl)) d_Top_get_1 ⟨Nat.le_of_ble_eq_true rfl, Nat.le_of_ble_eq_true rfl⟩) hP hD hS hA [] [0, 1, 2, 3, 4, 5] rfl rfl (by decide) (by decide) (fun H locs hP hD hS => ?_)
  have hP : va_P (dC, dI) CL_ [(t0, .inr (6, [.ref k0, .ref l0, .ref v0, .ref b0, .ref g0, .ref c0, .ref w0, .int (nI bw), .int (nI ta)])), (l0, .inr (5, [.ref l1, .ref l3, .ref l4, .int (nI lh), .int (nI le), .int (nI lb), .int (nI ln)])), (l1, .inr (0, [.ref l2, .int (nI lu)])), (l2, .inl (cI, 2470, .inl (nA lr))), (l3, .inl (cI, 200, .inl (nA lt))), (l4, .inl (cI, 200, .inl (oA lz)))] H := hP
  have hD : va_D A [(t0, .inr (6, [.ref k0, .ref l0, .ref v0, .ref b0, .ref g0, .ref c0, .ref w0, .int (nI bw), .int (nI ta)])), (l0, .inr (5, [.ref l1, .ref l3, .ref l4, .int (nI lh), .int (nI le), .int (nI lb), .int (nI ln)])), (l1, .inr (0, [.ref l2, .int (nI lu)])), (l2, .inl (cI, 2470, .inl (nA lr))), (l3, .inl (cI, 200, .inl (nA lt))), (l4, .inl (cI, 200, .inl (oA lz)))] := hD
  refine n_if_neB (tgt := 17) hx hb d_Top_get_4 (by decide) (fun c_4 => ?_) (fun c_4 => ?_)
  · skip
    refine lv_iload_n hx hb d_Top_get_17 rfl (lv_at hl 2 rfl) ?_
    refine n_if_lt (tgt := 33) hx hb d_Top_get_18 (by decide) (by omega) ?_
    refine lv_iload_n hx hb d_Top_get_21 rfl (lv_at hl 2 rfl) ?_
    refine lv_aload_n hx hb d_Top_get_22 rfl (lv_at hl 0 rfl) ?_
    refine va_get (D := (dC, dI)) (ci := 6) (v := .ref l0) (C := R_Top) (T := F_Top) (N := 9) hx hb hts in_Top hown hK hP 0 rfl rfl 1 (by decide) (hts _ u_251) (fun _ h9 => h9) rfl d_Top_get_23 ?_
    refine lv_iload_n hx hb d_Top_get_26 rfl (lv_at hl 1 rfl) ?_
    refine kj_i (wr := [(t0, .inr (6, [.ref k0, .ref l0, .ref v0, .ref b0, .ref g0, .ref c0, .ref w0, .int (nI bw), .int (nI ta)])), (l1, .inr (0, [.ref l2, .int (nI lu)])), (l2, .inl (cI, 2470, .inl (nA lr))), (l3, .inl (cI, 200, .inl (nA lt)))]) (va_runV (As := [.int (nI k)]) (rest := [.int (nI j)]) SS (c_Log_sizeOf l dC dI cI H.size l0 l1 l3 l4 lh le lb ln lz k (by omega)) (k_cwV 1 hts u_455 u_456 u_457 u_37 u_458 rfl rfl (by decide +kernel) ⟨Nat.le_of_ble_eq_true rfl, Nat.le_of_ble_eq_true rfl⟩) (kp_V hN hK [0] rfl hP hD [1, 5] rfl (by decide) (ci := 5) rfl 0 rfl) rfl rfl hl.1 rfl (lv_room (Nat.le_of_ble_eq_true rfl)) d_Top_get_27 ⟨Nat.le_of_ble_eq_true rfl, Nat.le_of_ble_eq_true rfl⟩) hP hD hS hA [1, 5] [0, 2, 3, 4] rfl rfl (by decide) (by decide) (fun H locs hP hD hS => ?_)
    have hP : va_P (dC, dI) CL_ [(t0, .inr (6, [.ref k0, .ref l0, .ref v0, .ref b0, .ref g0, .ref c0, .ref w0, .int (nI bw), .int (nI ta)])), (l1, .inr (0, [.ref l2, .int (nI lu)])), (l2, .inl (cI, 2470, .inl (nA lr))), (l3, .inl (cI, 200, .inl (nA lt))), (l0, .inr (5, [.ref l1, .ref l3, .ref l4, .int (nI lh), .int (nI le), .int (nI lb), .int (nI ln)])), (l4, .inl (cI, 200, .inl (oA lz)))] H := hP
    have hD : va_D A [(t0, .inr (6, [.ref k0, .ref l0, .ref v0, .ref b0, .ref g0, .ref c0, .ref w0, .int (nI bw), .int (nI ta)])), (l1, .inr (0, [.ref l2, .int (nI lu)])), (l2, .inl (cI, 2470, .inl (nA lr))), (l3, .inl (cI, 200, .inl (nA lt))), (l0, .inr (5, [.ref l1, .ref l3, .ref l4, .int (nI lh), .int (nI le), .int (nI lb), .int (nI ln)])), (l4, .inl (cI, 200, .inl (oA lz)))] := hD
    refine top_i ((-1)) (by exact congrArg oI hz) ?_
    refine lv_icmp_lt (tgt := 43) hx hb d_Top_get_30 (by decide) (fun c_30 => ?_) (fun c_30 => ?_)
    · exact absurd c_30 (by rw [Int32.not_lt]; exact Int32.le_of_lt (Int32.lt_of_lt_of_le (by decide) (Int32.not_lt.mp (nI_pos hj))))
    · skip
      exact hthr _ _ 33 ls hl.1 d_Top_get_33 d_Top_get_36 d_Top_get_37 d_Top_get_39 d_Top_get_42 (hP.sub [0, 4, 1, 2, 3, 5] rfl) (hD.sub [0, 4, 1, 2, 3, 5] (by decide) rfl) hS
  · exact absurd hk (of_decide_eq_false c_4)
abbrev rmt_get2c : Room := { frames := 6, cells := 1, slots := 6, locals := 92 }
set_option maxHeartbeats 4000000 in
set_option maxRecDepth 100000 in
theorem t_get2c (l : Launch) (hlT : l.stackTraces = false) (s0 : State) (A0 : Array Value) (hSite : xSite A0 s0 "BlockLog" "java/util/NoSuchElementException" NM3 156 158 160) (dC : Nat → ClassId) (dI : Nat → Nat → Nat) (cI : ClassId) (sz : Nat) (t0 : Nat) (k0 : Nat) (l0 : Nat) (v0 : Nat) (b0 : Nat) (g0 : Nat) (c0 : Nat) (w0 : Nat) (l1 : Nat) (l2 : Nat) (l3 : Nat) (l4 : Nat) (bw : Nat) (ta : Nat) (lh : Nat) (le : Nat) (lb : Nat) (ln : Nat) (lr : Nat → Nat) (lu : Nat) (lt : Nat → Nat) (lz : Nat → Option Nat) (k : Nat) (j : Nat) (nz : Nat) (hk : k < 200) (hj : j < 2 ^ 31) (hz : lz k = some nz) (hnj : nz ≤ j) : KX l y_Top_get w_Top_get rmt_get2c (dC, dI) CL_ [(cI, .int)] sz [.ref t0, .int (nI k), .int (nI j)] [(t0, .inr (6, [.ref k0, .ref l0, .ref v0, .ref b0, .ref g0, .ref c0, .ref w0, .int (nI bw), .int (nI ta)])), (l0, .inr (5, [.ref l1, .ref l3, .ref l4, .int (nI lh), .int (nI le), .int (nI lb), .int (nI ln)])), (l1, .inr (0, [.ref l2, .int (nI lu)])), (l2, .inl (cI, 2470, .inl (nA lr))), (l3, .inl (cI, 200, .inl (nA lt))), (l4, .inl (cI, 200, .inl (oA lz)))] [(t0, .inr (6, [.ref k0, .ref l0, .ref v0, .ref b0, .ref g0, .ref c0, .ref w0, .int (nI bw), .int (nI ta)])), (l0, .inr (5, [.ref l1, .ref l3, .ref l4, .int (nI lh), .int (nI le), .int (nI lb), .int (nI ln)])), (l1, .inr (0, [.ref l2, .int (nI lu)])), (l2, .inl (cI, 2470, .inl (nA lr))), (l3, .inl (cI, 200, .inl (nA lt))), (l4, .inl (cI, 200, .inl (oA lz)))] "java/util/NoSuchElementException" s0 := by
  refine k_start_x (cc := b_Top_get) (maxL := 3) hlT hSite (by decide) (Nat.le_of_ble_eq_true rfl) (by decide) (by decide) rfl rfl ?_
  intro p e s m args below meth c A QQ ls SS hK hP hD hA hl hN hthr
  obtain ⟨hx, hb, hml, hown, hts⟩ := id SS
  have hl : lv_has ls 3 [(0, .ref t0), (1, .int (nI k)), (2, .int (nI j))] := hl
  have hS : va_S A s.heap s.heap [] := va_S.rf
  refine lv_iload_n hx hb d_Top_get_0 rfl (lv_at hl 1 rfl) ?_
  refine kj_i (wr := [(t0, .inr (6, [.ref k0, .ref l0, .ref v0, .ref b0, .ref g0, .ref c0, .ref w0, .int (nI bw), .int (nI ta)])), (l0, .inr (5, [.ref l1, .ref l3, .ref l4, .int (nI lh), .int (nI le), .int (nI lb), .int (nI ln)])), (l1, .inr (0, [.ref l2, .int (nI lu)])), (l2, .inl (cI, 2470, .inl (nA lr))), (l3, .inl (cI, 200, .inl (nA lt))), (l4, .inl (cI, 200, .inl (oA lz)))]) (va_runS (As := [.int (nI k)]) (rest := []) SS (c_isKey l dC dI cI s.heap.size k (by omega)) (k_cwS 1 hts u_391 u_244 u_35 u_245 rfl rfl (by decide +kernel) ⟨Nat.le_of_ble_eq_true rfl, Nat.le_of_ble_eq_true rfl⟩) (kp_S hN hK [0] rfl hP hD [] rfl (by decide)) rfl rfl hl.1 rfl (lv_room (Nat.le_of_ble_eq_true rfl)) d_Top_get_1 ⟨Nat.le_of_ble_eq_true rfl, Nat.le_of_ble_eq_true rfl⟩) hP hD hS hA [] [0, 1, 2, 3, 4, 5] rfl rfl (by decide) (by decide) (fun H locs hP hD hS => ?_)
  have hP : va_P (dC, dI) CL_ [(t0, .inr (6, [.ref k0, .ref l0, .ref v0, .ref b0, .ref g0, .ref c0, .ref w0, .int (nI bw), .int (nI ta)])), (l0, .inr (5, [.ref l1, .ref l3, .ref l4, .int (nI lh), .int (nI le), .int (nI lb), .int (nI ln)])), (l1, .inr (0, [.ref l2, .int (nI lu)])), (l2, .inl (cI, 2470, .inl (nA lr))), (l3, .inl (cI, 200, .inl (nA lt))), (l4, .inl (cI, 200, .inl (oA lz)))] H := hP
  have hD : va_D A [(t0, .inr (6, [.ref k0, .ref l0, .ref v0, .ref b0, .ref g0, .ref c0, .ref w0, .int (nI bw), .int (nI ta)])), (l0, .inr (5, [.ref l1, .ref l3, .ref l4, .int (nI lh), .int (nI le), .int (nI lb), .int (nI ln)])), (l1, .inr (0, [.ref l2, .int (nI lu)])), (l2, .inl (cI, 2470, .inl (nA lr))), (l3, .inl (cI, 200, .inl (nA lt))), (l4, .inl (cI, 200, .inl (oA lz)))] := hD
  refine n_if_neB (tgt := 17) hx hb d_Top_get_4 (by decide) (fun c_4 => ?_) (fun c_4 => ?_)
  · skip
    refine lv_iload_n hx hb d_Top_get_17 rfl (lv_at hl 2 rfl) ?_
    refine n_if_lt (tgt := 33) hx hb d_Top_get_18 (by decide) (by omega) ?_
    refine lv_iload_n hx hb d_Top_get_21 rfl (lv_at hl 2 rfl) ?_
    refine lv_aload_n hx hb d_Top_get_22 rfl (lv_at hl 0 rfl) ?_
    refine va_get (D := (dC, dI)) (ci := 6) (v := .ref l0) (C := R_Top) (T := F_Top) (N := 9) hx hb hts in_Top hown hK hP 0 rfl rfl 1 (by decide) (hts _ u_251) (fun _ h9 => h9) rfl d_Top_get_23 ?_
    refine lv_iload_n hx hb d_Top_get_26 rfl (lv_at hl 1 rfl) ?_
    refine kj_i (wr := [(t0, .inr (6, [.ref k0, .ref l0, .ref v0, .ref b0, .ref g0, .ref c0, .ref w0, .int (nI bw), .int (nI ta)])), (l1, .inr (0, [.ref l2, .int (nI lu)])), (l2, .inl (cI, 2470, .inl (nA lr))), (l3, .inl (cI, 200, .inl (nA lt)))]) (va_runV (As := [.int (nI k)]) (rest := [.int (nI j)]) SS (c_Log_sizeOf l dC dI cI H.size l0 l1 l3 l4 lh le lb ln lz k (by omega)) (k_cwV 1 hts u_455 u_456 u_457 u_37 u_458 rfl rfl (by decide +kernel) ⟨Nat.le_of_ble_eq_true rfl, Nat.le_of_ble_eq_true rfl⟩) (kp_V hN hK [0] rfl hP hD [1, 5] rfl (by decide) (ci := 5) rfl 0 rfl) rfl rfl hl.1 rfl (lv_room (Nat.le_of_ble_eq_true rfl)) d_Top_get_27 ⟨Nat.le_of_ble_eq_true rfl, Nat.le_of_ble_eq_true rfl⟩) hP hD hS hA [1, 5] [0, 2, 3, 4] rfl rfl (by decide) (by decide) (fun H locs hP hD hS => ?_)
    have hP : va_P (dC, dI) CL_ [(t0, .inr (6, [.ref k0, .ref l0, .ref v0, .ref b0, .ref g0, .ref c0, .ref w0, .int (nI bw), .int (nI ta)])), (l1, .inr (0, [.ref l2, .int (nI lu)])), (l2, .inl (cI, 2470, .inl (nA lr))), (l3, .inl (cI, 200, .inl (nA lt))), (l0, .inr (5, [.ref l1, .ref l3, .ref l4, .int (nI lh), .int (nI le), .int (nI lb), .int (nI ln)])), (l4, .inl (cI, 200, .inl (oA lz)))] H := hP
    have hD : va_D A [(t0, .inr (6, [.ref k0, .ref l0, .ref v0, .ref b0, .ref g0, .ref c0, .ref w0, .int (nI bw), .int (nI ta)])), (l1, .inr (0, [.ref l2, .int (nI lu)])), (l2, .inl (cI, 2470, .inl (nA lr))), (l3, .inl (cI, 200, .inl (nA lt))), (l0, .inr (5, [.ref l1, .ref l3, .ref l4, .int (nI lh), .int (nI le), .int (nI lb), .int (nI ln)])), (l4, .inl (cI, 200, .inl (oA lz)))] := hD
    refine top_i (nI nz) (by exact congrArg oI hz) ?_
    refine n_icmp_lt (tgt := 43) hx hb d_Top_get_30 (by decide) (by omega) (by omega) (fun c_30 => ?_) (fun c_30 => ?_)
    · exact absurd c_30 (by omega)
    · skip
      exact hthr _ _ 33 ls hl.1 d_Top_get_33 d_Top_get_36 d_Top_get_37 d_Top_get_39 d_Top_get_42 (hP.sub [0, 4, 1, 2, 3, 5] rfl) (hD.sub [0, 4, 1, 2, 3, 5] (by decide) rfl) hS
  · exact absurd hk (of_decide_eq_false c_4)
abbrev rmt_spoil1 : Room := { frames := 6, cells := 1, slots := 6, locals := 92 }
set_option maxHeartbeats 4000000 in
set_option maxRecDepth 100000 in
theorem t_spoil1 (l : Launch) (hlT : l.stackTraces = false) (s0 : State) (A0 : Array Value) (hSite : xSite A0 s0 "BlockLog" "java/lang/IndexOutOfBoundsException" NM3 144 146 148) (dC : Nat → ClassId) (dI : Nat → Nat → Nat) (cI : ClassId) (sz : Nat) (t0 : Nat) (k0 : Nat) (l0 : Nat) (v0 : Nat) (b0 : Nat) (g0 : Nat) (c0 : Nat) (w0 : Nat) (k1 : Nat) (bw : Nat) (ta : Nat) (kd : Nat → Nat) (x : Int32) (v : Int32) (hx1 : x < 0 ∨ nI 6144 ≤ x) : KX l y_Top_spoil w_Top_spoil rmt_spoil1 (dC, dI) CL_ [(cI, .int)] sz [.ref t0, .int x, .int v] [(t0, .inr (6, [.ref k0, .ref l0, .ref v0, .ref b0, .ref g0, .ref c0, .ref w0, .int (nI bw), .int (nI ta)])), (k0, .inr (3, [.ref k1])), (k1, .inl (cI, 6144, .inl (nA kd)))] [(t0, .inr (6, [.ref k0, .ref l0, .ref v0, .ref b0, .ref g0, .ref c0, .ref w0, .int (nI bw), .int (nI ta)])), (k0, .inr (3, [.ref k1])), (k1, .inl (cI, 6144, .inl (nA kd)))] "java/lang/IndexOutOfBoundsException" s0 := by
  refine k_start_x (cc := b_Top_spoil) (maxL := 3) hlT hSite (by decide) (Nat.le_of_ble_eq_true rfl) (by decide) (by decide) rfl rfl ?_
  intro p e s m args below meth c A QQ ls SS hK hP hD hA hl hN hthr
  obtain ⟨hx, hb, hml, hown, hts⟩ := id SS
  have hl : lv_has ls 3 [(0, .ref t0), (1, .int x), (2, .int v)] := hl
  have hS : va_S A s.heap s.heap [] := va_S.rf
  refine lv_aload_n hx hb d_Top_spoil_0 rfl (lv_at hl 0 rfl) ?_
  refine va_get (D := (dC, dI)) (ci := 6) (v := .ref k0) (C := R_Top) (T := F_Top) (N := 9) hx hb hts in_Top hown hK hP 0 rfl rfl 0 (by decide) (hts _ u_250) (fun _ h9 => h9) rfl d_Top_spoil_1 ?_
  refine lv_iload_n hx hb d_Top_spoil_4 rfl (lv_at hl 1 rfl) ?_
  refine kj_i (wr := [(t0, .inr (6, [.ref k0, .ref l0, .ref v0, .ref b0, .ref g0, .ref c0, .ref w0, .int (nI bw), .int (nI ta)]))]) (va_runV (As := [.int x]) (rest := []) SS (c_Disk_has l dC dI cI s.heap.size k0 k1 kd x ) (k_cwV 1 hts u_551 u_552 u_553 u_36 u_554 rfl rfl (by decide +kernel) ⟨Nat.le_of_ble_eq_true rfl, Nat.le_of_ble_eq_true rfl⟩) (kp_V hN hK [0] rfl hP hD [1, 2] rfl (by decide) (ci := 3) rfl 0 rfl) rfl rfl hl.1 rfl (lv_room (Nat.le_of_ble_eq_true rfl)) d_Top_spoil_5 ⟨Nat.le_of_ble_eq_true rfl, Nat.le_of_ble_eq_true rfl⟩) hP hD hS hA [1, 2] [0] rfl rfl (by decide) (by decide) (fun H locs hP hD hS => ?_)
  have hP : va_P (dC, dI) CL_ [(t0, .inr (6, [.ref k0, .ref l0, .ref v0, .ref b0, .ref g0, .ref c0, .ref w0, .int (nI bw), .int (nI ta)])), (k0, .inr (3, [.ref k1])), (k1, .inl (cI, 6144, .inl (nA kd)))] H := hP
  have hD : va_D A [(t0, .inr (6, [.ref k0, .ref l0, .ref v0, .ref b0, .ref g0, .ref c0, .ref w0, .int (nI bw), .int (nI ta)])), (k0, .inr (3, [.ref k1])), (k1, .inl (cI, 6144, .inl (nA kd)))] := hD
  refine n_if_neB (tgt := 21) hx hb d_Top_spoil_8 (by decide) (fun c_8 => ?_) (fun c_8 => ?_)
  · exact absurd hx1 (fun q => q.elim (of_decide_eq_true c_8).1 (of_decide_eq_true c_8).2)
  · skip
    exact hthr _ _ 11 ls hl.1 d_Top_spoil_11 d_Top_spoil_14 d_Top_spoil_15 d_Top_spoil_17 d_Top_spoil_20 (hP.sub [0, 1, 2] rfl) (hD.sub [0, 1, 2] (by decide) rfl) hS
abbrev rmt_disk1 : Room := { frames := 6, cells := 1, slots := 6, locals := 92 }
set_option maxHeartbeats 4000000 in
set_option maxRecDepth 100000 in
theorem t_disk1 (l : Launch) (hlT : l.stackTraces = false) (s0 : State) (A0 : Array Value) (hSite : xSite A0 s0 "BlockLog" "java/lang/IndexOutOfBoundsException" NM3 144 146 148) (dC : Nat → ClassId) (dI : Nat → Nat → Nat) (cI : ClassId) (sz : Nat) (t0 : Nat) (k0 : Nat) (l0 : Nat) (v0 : Nat) (b0 : Nat) (g0 : Nat) (c0 : Nat) (w0 : Nat) (k1 : Nat) (bw : Nat) (ta : Nat) (kd : Nat → Nat) (x : Int32) (hx1 : x < 0 ∨ nI 6144 ≤ x) : KX l y_Top_disk w_Top_disk rmt_disk1 (dC, dI) CL_ [(cI, .int)] sz [.ref t0, .int x] [(t0, .inr (6, [.ref k0, .ref l0, .ref v0, .ref b0, .ref g0, .ref c0, .ref w0, .int (nI bw), .int (nI ta)])), (k0, .inr (3, [.ref k1])), (k1, .inl (cI, 6144, .inl (nA kd)))] [(t0, .inr (6, [.ref k0, .ref l0, .ref v0, .ref b0, .ref g0, .ref c0, .ref w0, .int (nI bw), .int (nI ta)])), (k0, .inr (3, [.ref k1])), (k1, .inl (cI, 6144, .inl (nA kd)))] "java/lang/IndexOutOfBoundsException" s0 := by
  refine k_start_x (cc := b_Top_disk) (maxL := 2) hlT hSite (by decide) (Nat.le_of_ble_eq_true rfl) (by decide) (by decide) rfl rfl ?_
  intro p e s m args below meth c A QQ ls SS hK hP hD hA hl hN hthr
  obtain ⟨hx, hb, hml, hown, hts⟩ := id SS
  have hl : lv_has ls 2 [(0, .ref t0), (1, .int x)] := hl
  have hS : va_S A s.heap s.heap [] := va_S.rf
  refine lv_aload_n hx hb d_Top_disk_0 rfl (lv_at hl 0 rfl) ?_
  refine va_get (D := (dC, dI)) (ci := 6) (v := .ref k0) (C := R_Top) (T := F_Top) (N := 9) hx hb hts in_Top hown hK hP 0 rfl rfl 0 (by decide) (hts _ u_250) (fun _ h9 => h9) rfl d_Top_disk_1 ?_
  refine lv_iload_n hx hb d_Top_disk_4 rfl (lv_at hl 1 rfl) ?_
  refine kj_i (wr := [(t0, .inr (6, [.ref k0, .ref l0, .ref v0, .ref b0, .ref g0, .ref c0, .ref w0, .int (nI bw), .int (nI ta)]))]) (va_runV (As := [.int x]) (rest := []) SS (c_Disk_has l dC dI cI s.heap.size k0 k1 kd x ) (k_cwV 1 hts u_551 u_552 u_553 u_36 u_554 rfl rfl (by decide +kernel) ⟨Nat.le_of_ble_eq_true rfl, Nat.le_of_ble_eq_true rfl⟩) (kp_V hN hK [0] rfl hP hD [1, 2] rfl (by decide) (ci := 3) rfl 0 rfl) rfl rfl hl.1 rfl (lv_room (Nat.le_of_ble_eq_true rfl)) d_Top_disk_5 ⟨Nat.le_of_ble_eq_true rfl, Nat.le_of_ble_eq_true rfl⟩) hP hD hS hA [1, 2] [0] rfl rfl (by decide) (by decide) (fun H locs hP hD hS => ?_)
  have hP : va_P (dC, dI) CL_ [(t0, .inr (6, [.ref k0, .ref l0, .ref v0, .ref b0, .ref g0, .ref c0, .ref w0, .int (nI bw), .int (nI ta)])), (k0, .inr (3, [.ref k1])), (k1, .inl (cI, 6144, .inl (nA kd)))] H := hP
  have hD : va_D A [(t0, .inr (6, [.ref k0, .ref l0, .ref v0, .ref b0, .ref g0, .ref c0, .ref w0, .int (nI bw), .int (nI ta)])), (k0, .inr (3, [.ref k1])), (k1, .inl (cI, 6144, .inl (nA kd)))] := hD
  refine n_if_neB (tgt := 21) hx hb d_Top_disk_8 (by decide) (fun c_8 => ?_) (fun c_8 => ?_)
  · exact absurd hx1 (fun q => q.elim (of_decide_eq_true c_8).1 (of_decide_eq_true c_8).2)
  · skip
    exact hthr _ _ 11 ls hl.1 d_Top_disk_11 d_Top_disk_14 d_Top_disk_15 d_Top_disk_17 d_Top_disk_20 (hP.sub [0, 1, 2] rfl) (hD.sub [0, 1, 2] (by decide) rfl) hS
abbrev rmt_aboutX : Room := { frames := 6, cells := 1, slots := 6, locals := 92 }
set_option maxHeartbeats 4000000 in
set_option maxRecDepth 100000 in
theorem t_aboutX (l : Launch) (hlT : l.stackTraces = false) (s0 : State) (A0 : Array Value) (hSite : xSite A0 s0 "BlockLog" "java/lang/IllegalArgumentException" NM3 74 189 78) (dC : Nat → ClassId) (dI : Nat → Nat → Nat) (cI : ClassId) (sz : Nat) (t0 : Nat) (k0 : Nat) (l0 : Nat) (v0 : Nat) (b0 : Nat) (g0 : Nat) (c0 : Nat) (w0 : Nat) (v1 : Nat) (bw : Nat) (ta : Nat) (vd : Nat → Nat) (vu : Nat) (x : Int32) (hx1 : x < 0 ∨ nI 8 < x) : KX l y_Top_about w_Top_about rmt_aboutX (dC, dI) CL_ [(cI, .int)] sz [.ref t0, .int x] [(t0, .inr (6, [.ref k0, .ref l0, .ref v0, .ref b0, .ref g0, .ref c0, .ref w0, .int (nI bw), .int (nI ta)])), (v0, .inr (0, [.ref v1, .int (nI vu)])), (v1, .inl (cI, 40, .inl (nA vd)))] [(t0, .inr (6, [.ref k0, .ref l0, .ref v0, .ref b0, .ref g0, .ref c0, .ref w0, .int (nI bw), .int (nI ta)])), (v0, .inr (0, [.ref v1, .int (nI vu)])), (v1, .inl (cI, 40, .inl (nA vd)))] "java/lang/IllegalArgumentException" s0 := by
  refine k_start_x (cc := b_Top_about) (maxL := 2) hlT hSite (by decide) (Nat.le_of_ble_eq_true rfl) (by decide) (by decide) rfl rfl ?_
  intro p e s m args below meth c A QQ ls SS hK hP hD hA hl hN hthr
  obtain ⟨hx, hb, hml, hown, hts⟩ := id SS
  have hl : lv_has ls 2 [(0, .ref t0), (1, .int x)] := hl
  have hS : va_S A s.heap s.heap [] := va_S.rf
  refine lv_iload_n hx hb d_Top_about_0 rfl (lv_at hl 1 rfl) ?_
  refine lv_tableOut (tgt := 118) hx hb d_Top_about_1 (i32_out (n := 8) (by decide) hx1) (by decide) ?_
  exact hthr _ _ 118 ls hl.1 d_Top_about_118 d_Top_about_121 d_Top_about_122 d_Top_about_124 d_Top_about_127 (hP.sub [0, 1, 2] rfl) (hD.sub [0, 1, 2] (by decide) rfl) hS
abbrev rmt_crash1 : Room := { frames := 6, cells := 1, slots := 6, locals := 92 }
set_option maxHeartbeats 4000000 in
set_option maxRecDepth 100000 in
theorem t_crash1 (l : Launch) (hlT : l.stackTraces = false) (s0 : State) (A0 : Array Value) (hSite : xSite A0 s0 "BlockLog" "java/lang/IllegalArgumentException" NM3 74 134 78) (dC : Nat → ClassId) (dI : Nat → Nat → Nat) (cI : ClassId) (sz : Nat) (t0 : Nat) (k0 : Nat) (l0 : Nat) (v0 : Nat) (b0 : Nat) (g0 : Nat) (c0 : Nat) (w0 : Nat) (b1 : Nat) (b2 : Nat) (bw : Nat) (ta : Nat) (bd : Nat → Nat) (bu : Nat) (x : Int32) (y : Int32) (hx1 : x < 0 ∨ y < 0 ∨ nI 31 < y) : KX l y_Top_crash w_Top_crash rmt_crash1 (dC, dI) CL_ [(cI, .int)] sz [.ref t0, .int x, .int y] [(t0, .inr (6, [.ref k0, .ref l0, .ref v0, .ref b0, .ref g0, .ref c0, .ref w0, .int (nI bw), .int (nI ta)])), (b0, .inr (1, [.ref b1])), (b1, .inr (0, [.ref b2, .int (nI bu)])), (b2, .inl (cI, 337, .inl (nA bd)))] [(t0, .inr (6, [.ref k0, .ref l0, .ref v0, .ref b0, .ref g0, .ref c0, .ref w0, .int (nI bw), .int (nI ta)])), (b0, .inr (1, [.ref b1])), (b1, .inr (0, [.ref b2, .int (nI bu)])), (b2, .inl (cI, 337, .inl (nA bd)))] "java/lang/IllegalArgumentException" s0 := by
  refine k_start_x (cc := b_Top_crash) (maxL := 3) hlT hSite (by decide) (Nat.le_of_ble_eq_true rfl) (by decide) (by decide) rfl rfl ?_
  intro p e s m args below meth c A QQ ls SS hK hP hD hA hl hN hthr
  obtain ⟨hx, hb, hml, hown, hts⟩ := id SS
  have hl : lv_has ls 3 [(0, .ref t0), (1, .int x), (2, .int y)] := hl
  have hS : va_S A s.heap s.heap [] := va_S.rf
  refine lv_iload_n hx hb d_Top_crash_0 rfl (lv_at hl 1 rfl) ?_
  refine lv_if_lt (tgt := 14) hx hb d_Top_crash_1 (by decide) (fun c_1 => ?_) (fun c_1 => ?_)
  · skip
    exact hthr _ _ 14 ls hl.1 d_Top_crash_14 d_Top_crash_17 d_Top_crash_18 d_Top_crash_20 d_Top_crash_23 (hP.sub [0, 1, 2, 3] rfl) (hD.sub [0, 1, 2, 3] (by decide) rfl) hS
  · skip
    refine lv_iload_n hx hb d_Top_crash_4 rfl (lv_at hl 2 rfl) ?_
    refine lv_if_lt (tgt := 14) hx hb d_Top_crash_5 (by decide) (fun c_5 => ?_) (fun c_5 => ?_)
    · skip
      exact hthr _ _ 14 ls hl.1 d_Top_crash_14 d_Top_crash_17 d_Top_crash_18 d_Top_crash_20 d_Top_crash_23 (hP.sub [0, 1, 2, 3] rfl) (hD.sub [0, 1, 2, 3] (by decide) rfl) hS
    · skip
      refine lv_iload_n hx hb d_Top_crash_8 rfl (lv_at hl 2 rfl) ?_
      refine lv_bipush (v := nI 32) hx hb d_Top_crash_9 (by decide) ?_
      refine lv_icmp_lt (tgt := 24) hx hb d_Top_crash_11 (by decide) (fun c_11 => ?_) (fun c_11 => ?_)
      · exact absurd hx1 (fun q => q.elim c_1 (fun q => q.elim c_5 (fun q => absurd c_11 (Int32.not_lt.mpr (i32_gap (n := 31) (by decide) q)))))
      · skip
        exact hthr _ _ 14 ls hl.1 d_Top_crash_14 d_Top_crash_17 d_Top_crash_18 d_Top_crash_20 d_Top_crash_23 (hP.sub [0, 1, 2, 3] rfl) (hD.sub [0, 1, 2, 3] (by decide) rfl) hS
abbrev rmt_crash2a : Room := { frames := 6, cells := 1, slots := 6, locals := 92 }
set_option maxHeartbeats 4000000 in
set_option maxRecDepth 100000 in
theorem t_crash2a (l : Launch) (hlT : l.stackTraces = false) (s0 : State) (A0 : Array Value) (hSite : xSite A0 s0 "BlockLog" "java/lang/UnsupportedOperationException" NM3 85 136 89) (dC : Nat → ClassId) (dI : Nat → Nat → Nat) (cI : ClassId) (sz : Nat) (t0 : Nat) (k0 : Nat) (l0 : Nat) (v0 : Nat) (b0 : Nat) (g0 : Nat) (c0 : Nat) (w0 : Nat) (b1 : Nat) (b2 : Nat) (bw : Nat) (ta : Nat) (bd : Nat → Nat) (bu : Nat) (n1 : Nat) (n2 : Nat) (hn1 : n1 < 2 ^ 31) (hn2 : n2 ≤ 31) (hb1 : 1 ≤ bu) (hb2 : bu ≤ 337) (hz : bd 0 = 0) : KX l y_Top_crash w_Top_crash rmt_crash2a (dC, dI) CL_ [(cI, .int)] sz [.ref t0, .int (nI n1), .int (nI n2)] [(t0, .inr (6, [.ref k0, .ref l0, .ref v0, .ref b0, .ref g0, .ref c0, .ref w0, .int (nI bw), .int (nI ta)])), (b0, .inr (1, [.ref b1])), (b1, .inr (0, [.ref b2, .int (nI bu)])), (b2, .inl (cI, 337, .inl (nA bd)))] [(t0, .inr (6, [.ref k0, .ref l0, .ref v0, .ref b0, .ref g0, .ref c0, .ref w0, .int (nI bw), .int (nI ta)])), (b0, .inr (1, [.ref b1])), (b1, .inr (0, [.ref b2, .int (nI bu)])), (b2, .inl (cI, 337, .inl (nA bd)))] "java/lang/UnsupportedOperationException" s0 := by
  refine k_start_x (cc := b_Top_crash) (maxL := 3) hlT hSite (by decide) (Nat.le_of_ble_eq_true rfl) (by decide) (by decide) rfl rfl ?_
  intro p e s m args below meth c A QQ ls SS hK hP hD hA hl hN hthr
  obtain ⟨hx, hb, hml, hown, hts⟩ := id SS
  have hl : lv_has ls 3 [(0, .ref t0), (1, .int (nI n1)), (2, .int (nI n2))] := hl
  have hS : va_S A s.heap s.heap [] := va_S.rf
  refine lv_iload_n hx hb d_Top_crash_0 rfl (lv_at hl 1 rfl) ?_
  refine n_if_lt (tgt := 14) hx hb d_Top_crash_1 (by decide) (by omega) ?_
  refine lv_iload_n hx hb d_Top_crash_4 rfl (lv_at hl 2 rfl) ?_
  refine n_if_lt (tgt := 14) hx hb d_Top_crash_5 (by decide) (by omega) ?_
  refine lv_iload_n hx hb d_Top_crash_8 rfl (lv_at hl 2 rfl) ?_
  refine lv_bipush (v := nI 32) hx hb d_Top_crash_9 (by decide) ?_
  refine n_icmp_lt (tgt := 24) hx hb d_Top_crash_11 (by decide) (by omega) (by omega) (fun c_11 => ?_) (fun c_11 => ?_)
  · skip
    refine lv_aload_n hx hb d_Top_crash_24 rfl (lv_at hl 0 rfl) ?_
    refine va_get (D := (dC, dI)) (ci := 6) (v := .ref b0) (C := R_Top) (T := F_Top) (N := 9) hx hb hts in_Top hown hK hP 0 rfl rfl 3 (by decide) (hts _ u_253) (fun _ h9 => h9) rfl d_Top_crash_25 ?_
    refine kj_i (wr := [(t0, .inr (6, [.ref k0, .ref l0, .ref v0, .ref b0, .ref g0, .ref c0, .ref w0, .int (nI bw), .int (nI ta)]))]) (va_runV (As := []) (rest := []) SS (c_Entry_changes l dC dI cI s.heap.size b0 b1 b2 bd bu (by omega) (by omega)) (k_cwV 0 hts u_411 u_398 u_399 u_40 u_400 rfl rfl (by decide +kernel) ⟨Nat.le_of_ble_eq_true rfl, Nat.le_of_ble_eq_true rfl⟩) (kp_V hN hK [0] rfl hP hD [1, 2, 3] rfl (by decide) (ci := 1) rfl 0 rfl) rfl rfl hl.1 rfl (lv_room (Nat.le_of_ble_eq_true rfl)) d_Top_crash_28 ⟨Nat.le_of_ble_eq_true rfl, Nat.le_of_ble_eq_true rfl⟩) hP hD hS hA [1, 2, 3] [0] rfl rfl (by decide) (by decide) (fun H locs hP hD hS => ?_)
    have hP : va_P (dC, dI) CL_ [(t0, .inr (6, [.ref k0, .ref l0, .ref v0, .ref b0, .ref g0, .ref c0, .ref w0, .int (nI bw), .int (nI ta)])), (b0, .inr (1, [.ref b1])), (b1, .inr (0, [.ref b2, .int (nI bu)])), (b2, .inl (cI, 337, .inl (nA bd)))] H := hP
    have hD : va_D A [(t0, .inr (6, [.ref k0, .ref l0, .ref v0, .ref b0, .ref g0, .ref c0, .ref w0, .int (nI bw), .int (nI ta)])), (b0, .inr (1, [.ref b1])), (b1, .inr (0, [.ref b2, .int (nI bu)])), (b2, .inl (cI, 337, .inl (nA bd)))] := hD
    refine n_if_ne (tgt := 44) hx hb d_Top_crash_31 (by decide) (by omega) (fun c_31 => ?_) (fun c_31 => ?_)
    · exact absurd hz c_31
    · skip
      exact hthr _ _ 34 ls hl.1 d_Top_crash_34 d_Top_crash_37 d_Top_crash_38 d_Top_crash_40 d_Top_crash_43 (hP.sub [0, 1, 2, 3] rfl) (hD.sub [0, 1, 2, 3] (by decide) rfl) hS
  · exact absurd c_11 (by omega)
abbrev rmt_commit : Room := { frames := 6, cells := 1, slots := 6, locals := 130 }
set_option maxHeartbeats 4000000 in
set_option maxRecDepth 100000 in
theorem t_commit (l : Launch) (hlT : l.stackTraces = false) (s0 : State) (A0 : Array Value) (hSite : xSite A0 s0 "BlockLog" "java/lang/UnsupportedOperationException" NM3 85 122 89) (dC : Nat → ClassId) (dI : Nat → Nat → Nat) (cI : ClassId) (sz : Nat) (t0 : Nat) (k0 : Nat) (l0 : Nat) (v0 : Nat) (b0 : Nat) (g0 : Nat) (c0 : Nat) (w0 : Nat) (k1 : Nat) (l1 : Nat) (l2 : Nat) (l3 : Nat) (l4 : Nat) (b1 : Nat) (b2 : Nat) (g1 : Nat) (g2 : Nat) (bw : Nat) (ta : Nat) (kd : Nat → Nat) (lh : Nat) (le : Nat) (lb : Nat) (ln : Nat) (lr : Nat → Nat) (lu : Nat) (lt : Nat → Nat) (lz : Nat → Option Nat) (bd : Nat → Nat) (bu : Nat) (gd : Nat → Nat) (gu : Nat) (hlh : lh ≤ 1) (hle : le < 65536) (hlb : lb ≤ 95) (hb1 : 1 ≤ bu) (hb2 : bu ≤ 337) (hb0 : bd 0 < 256) (hbb : ∀ j, bd j < 256) (hbz : 0 < bd 0) (hlu : lu ≤ 2470) (hlr : ∀ j, lr j < 256) (hlt : ∀ k, lt k < 2 ^ 20) (hlz : lzOk lz) (hgb : ∀ j, gd j < 256) (hkd : ∀ j, kd j < 256) (hrf : (95 < lb + entBlocks (bd 0) bu ∧ (95 < (baN lr lu lt lz gd 200).1 + entBlocks (bd 0) bu ∨ 65535 < max (gEp kd ((1 - lh) * 96) 96) le + 1))) : KX l y_Top_commit w_Top_commit rmt_commit (dC, dI) CL_ [(cI, .int)] sz [.ref t0] [(t0, .inr (6, [.ref k0, .ref l0, .ref v0, .ref b0, .ref g0, .ref c0, .ref w0, .int (nI bw), .int (nI ta)])), (k0, .inr (3, [.ref k1])), (k1, .inl (cI, 6144, .inl (nA kd))), (l0, .inr (5, [.ref l1, .ref l3, .ref l4, .int (nI lh), .int (nI le), .int (nI lb), .int (nI ln)])), (l1, .inr (0, [.ref l2, .int (nI lu)])), (l2, .inl (cI, 2470, .inl (nA lr))), (l3, .inl (cI, 200, .inl (nA lt))), (l4, .inl (cI, 200, .inl (oA lz))), (b0, .inr (1, [.ref b1])), (b1, .inr (0, [.ref b2, .int (nI bu)])), (b2, .inl (cI, 337, .inl (nA bd))), (g0, .inr (1, [.ref g1])), (g1, .inr (0, [.ref g2, .int (nI gu)])), (g2, .inl (cI, 337, .inl (nA gd)))] [(t0, .inr (6, [.ref k0, .ref l0, .ref v0, .ref b0, .ref g0, .ref c0, .ref w0, .int (nI bw), .int (nI ta)])), (k0, .inr (3, [.ref k1])), (k1, .inl (cI, 6144, .inl (nA kd))), (l0, .inr (5, [.ref l1, .ref l3, .ref l4, .int (nI lh), .int (nI le), .int (nI lb), .int (nI ln)])), (l1, .inr (0, [.ref l2, .int (nI lu)])), (l2, .inl (cI, 2470, .inl (nA lr))), (l3, .inl (cI, 200, .inl (nA lt))), (l4, .inl (cI, 200, .inl (oA lz))), (b0, .inr (1, [.ref b1])), (b1, .inr (0, [.ref b2, .int (nI bu)])), (b2, .inl (cI, 337, .inl (nA bd))), (g0, .inr (1, [.ref g1])), (g1, .inr (0, [.ref g2, .int (nI (if 95 < lb + entBlocks (bd 0) bu then (baN lr lu lt lz gd 200).2.2 else gu))])), (g2, .inl (cI, 337, .inl (nA (if 95 < lb + entBlocks (bd 0) bu then (baN lr lu lt lz gd 200).2.1 else gd))))] "java/lang/UnsupportedOperationException" s0 := by
  refine k_start_x (cc := b_Top_commit) (maxL := 1) hlT hSite (by decide) (Nat.le_of_ble_eq_true rfl) (by decide) (by decide) rfl rfl ?_
  intro p e s m args below meth c A QQ ls SS hK hP hD hA hl hN hthr
  obtain ⟨hx, hb, hml, hown, hts⟩ := id SS
  have hl : lv_has ls 1 [(0, .ref t0)] := hl
  have hS : va_S A s.heap s.heap [] := va_S.rf
  refine lv_aload_n hx hb d_Top_commit_0 rfl (lv_at hl 0 rfl) ?_
  refine va_get (D := (dC, dI)) (ci := 6) (v := .ref b0) (C := R_Top) (T := F_Top) (N := 9) hx hb hts in_Top hown hK hP 0 rfl rfl 3 (by decide) (hts _ u_253) (fun _ h9 => h9) rfl d_Top_commit_1 ?_
  refine kj_i (wr := [(t0, .inr (6, [.ref k0, .ref l0, .ref v0, .ref b0, .ref g0, .ref c0, .ref w0, .int (nI bw), .int (nI ta)])), (k0, .inr (3, [.ref k1])), (k1, .inl (cI, 6144, .inl (nA kd))), (l0, .inr (5, [.ref l1, .ref l3, .ref l4, .int (nI lh), .int (nI le), .int (nI lb), .int (nI ln)])), (l1, .inr (0, [.ref l2, .int (nI lu)])), (l2, .inl (cI, 2470, .inl (nA lr))), (l3, .inl (cI, 200, .inl (nA lt))), (l4, .inl (cI, 200, .inl (oA lz))), (g0, .inr (1, [.ref g1])), (g1, .inr (0, [.ref g2, .int (nI gu)])), (g2, .inl (cI, 337, .inl (nA gd)))]) (va_runV (As := []) (rest := []) SS (c_Entry_changes l dC dI cI s.heap.size b0 b1 b2 bd bu (by omega) (by omega)) (k_cwV 0 hts u_411 u_398 u_399 u_40 u_400 rfl rfl (by decide +kernel) ⟨Nat.le_of_ble_eq_true rfl, Nat.le_of_ble_eq_true rfl⟩) (kp_V hN hK [0] rfl hP hD [8, 9, 10] rfl (by decide) (ci := 1) rfl 0 rfl) rfl rfl hl.1 rfl (lv_room (Nat.le_of_ble_eq_true rfl)) d_Top_commit_4 ⟨Nat.le_of_ble_eq_true rfl, Nat.le_of_ble_eq_true rfl⟩) hP hD hS hA [8, 9, 10] [0, 1, 2, 3, 4, 5, 6, 7, 11, 12, 13] rfl rfl (by decide) (by decide) (fun H locs hP hD hS => ?_)
  have hP : va_P (dC, dI) CL_ [(t0, .inr (6, [.ref k0, .ref l0, .ref v0, .ref b0, .ref g0, .ref c0, .ref w0, .int (nI bw), .int (nI ta)])), (k0, .inr (3, [.ref k1])), (k1, .inl (cI, 6144, .inl (nA kd))), (l0, .inr (5, [.ref l1, .ref l3, .ref l4, .int (nI lh), .int (nI le), .int (nI lb), .int (nI ln)])), (l1, .inr (0, [.ref l2, .int (nI lu)])), (l2, .inl (cI, 2470, .inl (nA lr))), (l3, .inl (cI, 200, .inl (nA lt))), (l4, .inl (cI, 200, .inl (oA lz))), (g0, .inr (1, [.ref g1])), (g1, .inr (0, [.ref g2, .int (nI gu)])), (g2, .inl (cI, 337, .inl (nA gd))), (b0, .inr (1, [.ref b1])), (b1, .inr (0, [.ref b2, .int (nI bu)])), (b2, .inl (cI, 337, .inl (nA bd)))] H := hP
  have hD : va_D A [(t0, .inr (6, [.ref k0, .ref l0, .ref v0, .ref b0, .ref g0, .ref c0, .ref w0, .int (nI bw), .int (nI ta)])), (k0, .inr (3, [.ref k1])), (k1, .inl (cI, 6144, .inl (nA kd))), (l0, .inr (5, [.ref l1, .ref l3, .ref l4, .int (nI lh), .int (nI le), .int (nI lb), .int (nI ln)])), (l1, .inr (0, [.ref l2, .int (nI lu)])), (l2, .inl (cI, 2470, .inl (nA lr))), (l3, .inl (cI, 200, .inl (nA lt))), (l4, .inl (cI, 200, .inl (oA lz))), (g0, .inr (1, [.ref g1])), (g1, .inr (0, [.ref g2, .int (nI gu)])), (g2, .inl (cI, 337, .inl (nA gd))), (b0, .inr (1, [.ref b1])), (b1, .inr (0, [.ref b2, .int (nI bu)])), (b2, .inl (cI, 337, .inl (nA bd)))] := hD
  refine n_if_ne (tgt := 12) hx hb d_Top_commit_7 (by decide) (by omega) (fun c_7 => ?_) (fun c_7 => ?_)
  · skip
    refine lv_aload_n hx hb d_Top_commit_12 rfl (lv_at hl 0 rfl) ?_
    refine kj_i (wr := []) (va_runV (As := []) (rest := []) SS (c_isRefused l dC dI cI H.size t0 k0 l0 v0 b0 g0 c0 w0 k1 l1 l2 l3 l4 b1 b2 g1 g2 bw ta kd lh le lb ln lr lu lt lz bd bu gd gu (by omega) (by omega) (by omega) hkd (by omega) (by omega) (by omega) (by omega) hlr hlt hlz hgb) (k_cwV 0 hts u_430 u_432 u_9 u_35 u_433 rfl rfl (by decide +kernel) ⟨Nat.le_of_ble_eq_true rfl, Nat.le_of_ble_eq_true rfl⟩) (kp_V hN hK [0] rfl hP hD [0, 1, 2, 3, 4, 5, 6, 7, 11, 12, 13, 8, 9, 10] rfl (by decide) (ci := 6) rfl 0 rfl) rfl rfl hl.1 rfl (lv_room (Nat.le_of_ble_eq_true rfl)) d_Top_commit_13 ⟨Nat.le_of_ble_eq_true rfl, Nat.le_of_ble_eq_true rfl⟩) hP hD hS hA [0, 1, 2, 3, 4, 5, 6, 7, 11, 12, 13, 8, 9, 10] [] rfl rfl (by decide) (by decide) (fun H locs hP hD hS => ?_)
    have hP : va_P (dC, dI) CL_ [(t0, .inr (6, [.ref k0, .ref l0, .ref v0, .ref b0, .ref g0, .ref c0, .ref w0, .int (nI bw), .int (nI ta)])), (k0, .inr (3, [.ref k1])), (k1, .inl (cI, 6144, .inl (nA kd))), (l0, .inr (5, [.ref l1, .ref l3, .ref l4, .int (nI lh), .int (nI le), .int (nI lb), .int (nI ln)])), (l1, .inr (0, [.ref l2, .int (nI lu)])), (l2, .inl (cI, 2470, .inl (nA lr))), (l3, .inl (cI, 200, .inl (nA lt))), (l4, .inl (cI, 200, .inl (oA lz))), (b0, .inr (1, [.ref b1])), (b1, .inr (0, [.ref b2, .int (nI bu)])), (b2, .inl (cI, 337, .inl (nA bd))), (g0, .inr (1, [.ref g1])), (g1, .inr (0, [.ref g2, .int (nI (if 95 < lb + entBlocks (bd 0) bu then (baN lr lu lt lz gd 200).2.2 else gu))])), (g2, .inl (cI, 337, .inl (nA (if 95 < lb + entBlocks (bd 0) bu then (baN lr lu lt lz gd 200).2.1 else gd))))] H := hP
    have hD : va_D A [(t0, .inr (6, [.ref k0, .ref l0, .ref v0, .ref b0, .ref g0, .ref c0, .ref w0, .int (nI bw), .int (nI ta)])), (k0, .inr (3, [.ref k1])), (k1, .inl (cI, 6144, .inl (nA kd))), (l0, .inr (5, [.ref l1, .ref l3, .ref l4, .int (nI lh), .int (nI le), .int (nI lb), .int (nI ln)])), (l1, .inr (0, [.ref l2, .int (nI lu)])), (l2, .inl (cI, 2470, .inl (nA lr))), (l3, .inl (cI, 200, .inl (nA lt))), (l4, .inl (cI, 200, .inl (oA lz))), (b0, .inr (1, [.ref b1])), (b1, .inr (0, [.ref b2, .int (nI bu)])), (b2, .inl (cI, 337, .inl (nA bd))), (g0, .inr (1, [.ref g1])), (g1, .inr (0, [.ref g2, .int (nI (if 95 < lb + entBlocks (bd 0) bu then (baN lr lu lt lz gd 200).2.2 else gu))])), (g2, .inl (cI, 337, .inl (nA (if 95 < lb + entBlocks (bd 0) bu then (baN lr lu lt lz gd 200).2.1 else gd))))] := hD
    refine n_if_eqB (tgt := 29) hx hb d_Top_commit_16 (by decide) (fun c_16 => ?_) (fun c_16 => ?_)
    · exact absurd hrf (of_decide_eq_false c_16)
    · skip
      exact hthr _ _ 19 ls hl.1 d_Top_commit_19 d_Top_commit_22 d_Top_commit_23 d_Top_commit_25 d_Top_commit_28 (hP.sub [0, 1, 2, 3, 4, 5, 6, 7, 8, 9, 10, 11, 12, 13] rfl) (hD.sub [0, 1, 2, 3, 4, 5, 6, 7, 8, 9, 10, 11, 12, 13] (by decide) rfl) hS
  · exact absurd c_7 (by omega)
abbrev rmt_crash2b : Room := { frames := 6, cells := 1, slots := 6, locals := 130 }
set_option maxHeartbeats 4000000 in
set_option maxRecDepth 100000 in
theorem t_crash2b (l : Launch) (hlT : l.stackTraces = false) (s0 : State) (A0 : Array Value) (hSite : xSite A0 s0 "BlockLog" "java/lang/UnsupportedOperationException" NM3 85 122 89) (dC : Nat → ClassId) (dI : Nat → Nat → Nat) (cI : ClassId) (sz : Nat) (t0 : Nat) (k0 : Nat) (l0 : Nat) (v0 : Nat) (b0 : Nat) (g0 : Nat) (c0 : Nat) (w0 : Nat) (k1 : Nat) (l1 : Nat) (l2 : Nat) (l3 : Nat) (l4 : Nat) (b1 : Nat) (b2 : Nat) (g1 : Nat) (g2 : Nat) (bw : Nat) (ta : Nat) (kd : Nat → Nat) (lh : Nat) (le : Nat) (lb : Nat) (ln : Nat) (lr : Nat → Nat) (lu : Nat) (lt : Nat → Nat) (lz : Nat → Option Nat) (bd : Nat → Nat) (bu : Nat) (gd : Nat → Nat) (gu : Nat) (n1 : Nat) (n2 : Nat) (hn1 : n1 < 2 ^ 31) (hn2 : n2 ≤ 31) (hlh : lh ≤ 1) (hle : le < 65536) (hlb : lb ≤ 95) (hb1 : 1 ≤ bu) (hb2 : bu ≤ 337) (hb0 : bd 0 < 256) (hbb : ∀ j, bd j < 256) (hbz : 0 < bd 0) (hlu : lu ≤ 2470) (hlr : ∀ j, lr j < 256) (hlt : ∀ k, lt k < 2 ^ 20) (hlz : lzOk lz) (hgb : ∀ j, gd j < 256) (hkd : ∀ j, kd j < 256) (hrf : (95 < lb + entBlocks (bd 0) bu ∧ (95 < (baN lr lu lt lz gd 200).1 + entBlocks (bd 0) bu ∨ 65535 < max (gEp kd ((1 - lh) * 96) 96) le + 1))) : KX l y_Top_crash w_Top_crash rmt_crash2b (dC, dI) CL_ [(cI, .int)] sz [.ref t0, .int (nI n1), .int (nI n2)] [(t0, .inr (6, [.ref k0, .ref l0, .ref v0, .ref b0, .ref g0, .ref c0, .ref w0, .int (nI bw), .int (nI ta)])), (k0, .inr (3, [.ref k1])), (k1, .inl (cI, 6144, .inl (nA kd))), (l0, .inr (5, [.ref l1, .ref l3, .ref l4, .int (nI lh), .int (nI le), .int (nI lb), .int (nI ln)])), (l1, .inr (0, [.ref l2, .int (nI lu)])), (l2, .inl (cI, 2470, .inl (nA lr))), (l3, .inl (cI, 200, .inl (nA lt))), (l4, .inl (cI, 200, .inl (oA lz))), (b0, .inr (1, [.ref b1])), (b1, .inr (0, [.ref b2, .int (nI bu)])), (b2, .inl (cI, 337, .inl (nA bd))), (g0, .inr (1, [.ref g1])), (g1, .inr (0, [.ref g2, .int (nI gu)])), (g2, .inl (cI, 337, .inl (nA gd)))] [(t0, .inr (6, [.ref k0, .ref l0, .ref v0, .ref b0, .ref g0, .ref c0, .ref w0, .int (nI bw), .int (nI ta)])), (k0, .inr (3, [.ref k1])), (k1, .inl (cI, 6144, .inl (nA kd))), (l0, .inr (5, [.ref l1, .ref l3, .ref l4, .int (nI lh), .int (nI le), .int (nI lb), .int (nI ln)])), (l1, .inr (0, [.ref l2, .int (nI lu)])), (l2, .inl (cI, 2470, .inl (nA lr))), (l3, .inl (cI, 200, .inl (nA lt))), (l4, .inl (cI, 200, .inl (oA lz))), (b0, .inr (1, [.ref b1])), (b1, .inr (0, [.ref b2, .int (nI bu)])), (b2, .inl (cI, 337, .inl (nA bd))), (g0, .inr (1, [.ref g1])), (g1, .inr (0, [.ref g2, .int (nI (if 95 < lb + entBlocks (bd 0) bu then (baN lr lu lt lz gd 200).2.2 else gu))])), (g2, .inl (cI, 337, .inl (nA (if 95 < lb + entBlocks (bd 0) bu then (baN lr lu lt lz gd 200).2.1 else gd))))] "java/lang/UnsupportedOperationException" s0 := by
  refine k_start_x (cc := b_Top_crash) (maxL := 3) hlT hSite (by decide) (Nat.le_of_ble_eq_true rfl) (by decide) (by decide) rfl rfl ?_
  intro p e s m args below meth c A QQ ls SS hK hP hD hA hl hN hthr
  obtain ⟨hx, hb, hml, hown, hts⟩ := id SS
  have hl : lv_has ls 3 [(0, .ref t0), (1, .int (nI n1)), (2, .int (nI n2))] := hl
  have hS : va_S A s.heap s.heap [] := va_S.rf
  refine lv_iload_n hx hb d_Top_crash_0 rfl (lv_at hl 1 rfl) ?_
  refine n_if_lt (tgt := 14) hx hb d_Top_crash_1 (by decide) (by omega) ?_
  refine lv_iload_n hx hb d_Top_crash_4 rfl (lv_at hl 2 rfl) ?_
  refine n_if_lt (tgt := 14) hx hb d_Top_crash_5 (by decide) (by omega) ?_
  refine lv_iload_n hx hb d_Top_crash_8 rfl (lv_at hl 2 rfl) ?_
  refine lv_bipush (v := nI 32) hx hb d_Top_crash_9 (by decide) ?_
  refine n_icmp_lt (tgt := 24) hx hb d_Top_crash_11 (by decide) (by omega) (by omega) (fun c_11 => ?_) (fun c_11 => ?_)
  · skip
    refine lv_aload_n hx hb d_Top_crash_24 rfl (lv_at hl 0 rfl) ?_
    refine va_get (D := (dC, dI)) (ci := 6) (v := .ref b0) (C := R_Top) (T := F_Top) (N := 9) hx hb hts in_Top hown hK hP 0 rfl rfl 3 (by decide) (hts _ u_253) (fun _ h9 => h9) rfl d_Top_crash_25 ?_
    refine kj_i (wr := [(t0, .inr (6, [.ref k0, .ref l0, .ref v0, .ref b0, .ref g0, .ref c0, .ref w0, .int (nI bw), .int (nI ta)])), (k0, .inr (3, [.ref k1])), (k1, .inl (cI, 6144, .inl (nA kd))), (l0, .inr (5, [.ref l1, .ref l3, .ref l4, .int (nI lh), .int (nI le), .int (nI lb), .int (nI ln)])), (l1, .inr (0, [.ref l2, .int (nI lu)])), (l2, .inl (cI, 2470, .inl (nA lr))), (l3, .inl (cI, 200, .inl (nA lt))), (l4, .inl (cI, 200, .inl (oA lz))), (g0, .inr (1, [.ref g1])), (g1, .inr (0, [.ref g2, .int (nI gu)])), (g2, .inl (cI, 337, .inl (nA gd)))]) (va_runV (As := []) (rest := []) SS (c_Entry_changes l dC dI cI s.heap.size b0 b1 b2 bd bu (by omega) (by omega)) (k_cwV 0 hts u_411 u_398 u_399 u_40 u_400 rfl rfl (by decide +kernel) ⟨Nat.le_of_ble_eq_true rfl, Nat.le_of_ble_eq_true rfl⟩) (kp_V hN hK [0] rfl hP hD [8, 9, 10] rfl (by decide) (ci := 1) rfl 0 rfl) rfl rfl hl.1 rfl (lv_room (Nat.le_of_ble_eq_true rfl)) d_Top_crash_28 ⟨Nat.le_of_ble_eq_true rfl, Nat.le_of_ble_eq_true rfl⟩) hP hD hS hA [8, 9, 10] [0, 1, 2, 3, 4, 5, 6, 7, 11, 12, 13] rfl rfl (by decide) (by decide) (fun H locs hP hD hS => ?_)
    have hP : va_P (dC, dI) CL_ [(t0, .inr (6, [.ref k0, .ref l0, .ref v0, .ref b0, .ref g0, .ref c0, .ref w0, .int (nI bw), .int (nI ta)])), (k0, .inr (3, [.ref k1])), (k1, .inl (cI, 6144, .inl (nA kd))), (l0, .inr (5, [.ref l1, .ref l3, .ref l4, .int (nI lh), .int (nI le), .int (nI lb), .int (nI ln)])), (l1, .inr (0, [.ref l2, .int (nI lu)])), (l2, .inl (cI, 2470, .inl (nA lr))), (l3, .inl (cI, 200, .inl (nA lt))), (l4, .inl (cI, 200, .inl (oA lz))), (g0, .inr (1, [.ref g1])), (g1, .inr (0, [.ref g2, .int (nI gu)])), (g2, .inl (cI, 337, .inl (nA gd))), (b0, .inr (1, [.ref b1])), (b1, .inr (0, [.ref b2, .int (nI bu)])), (b2, .inl (cI, 337, .inl (nA bd)))] H := hP
    have hD : va_D A [(t0, .inr (6, [.ref k0, .ref l0, .ref v0, .ref b0, .ref g0, .ref c0, .ref w0, .int (nI bw), .int (nI ta)])), (k0, .inr (3, [.ref k1])), (k1, .inl (cI, 6144, .inl (nA kd))), (l0, .inr (5, [.ref l1, .ref l3, .ref l4, .int (nI lh), .int (nI le), .int (nI lb), .int (nI ln)])), (l1, .inr (0, [.ref l2, .int (nI lu)])), (l2, .inl (cI, 2470, .inl (nA lr))), (l3, .inl (cI, 200, .inl (nA lt))), (l4, .inl (cI, 200, .inl (oA lz))), (g0, .inr (1, [.ref g1])), (g1, .inr (0, [.ref g2, .int (nI gu)])), (g2, .inl (cI, 337, .inl (nA gd))), (b0, .inr (1, [.ref b1])), (b1, .inr (0, [.ref b2, .int (nI bu)])), (b2, .inl (cI, 337, .inl (nA bd)))] := hD
    refine n_if_ne (tgt := 44) hx hb d_Top_crash_31 (by decide) (by omega) (fun c_31 => ?_) (fun c_31 => ?_)
    · skip
      refine lv_aload_n hx hb d_Top_crash_44 rfl (lv_at hl 0 rfl) ?_
      refine kj_i (wr := []) (va_runV (As := []) (rest := []) SS (c_isRefused l dC dI cI H.size t0 k0 l0 v0 b0 g0 c0 w0 k1 l1 l2 l3 l4 b1 b2 g1 g2 bw ta kd lh le lb ln lr lu lt lz bd bu gd gu (by omega) (by omega) (by omega) hkd (by omega) (by omega) (by omega) (by omega) hlr hlt hlz hgb) (k_cwV 0 hts u_430 u_432 u_9 u_35 u_433 rfl rfl (by decide +kernel) ⟨Nat.le_of_ble_eq_true rfl, Nat.le_of_ble_eq_true rfl⟩) (kp_V hN hK [0] rfl hP hD [0, 1, 2, 3, 4, 5, 6, 7, 11, 12, 13, 8, 9, 10] rfl (by decide) (ci := 6) rfl 0 rfl) rfl rfl hl.1 rfl (lv_room (Nat.le_of_ble_eq_true rfl)) d_Top_crash_45 ⟨Nat.le_of_ble_eq_true rfl, Nat.le_of_ble_eq_true rfl⟩) hP hD hS hA [0, 1, 2, 3, 4, 5, 6, 7, 11, 12, 13, 8, 9, 10] [] rfl rfl (by decide) (by decide) (fun H locs hP hD hS => ?_)
      have hP : va_P (dC, dI) CL_ [(t0, .inr (6, [.ref k0, .ref l0, .ref v0, .ref b0, .ref g0, .ref c0, .ref w0, .int (nI bw), .int (nI ta)])), (k0, .inr (3, [.ref k1])), (k1, .inl (cI, 6144, .inl (nA kd))), (l0, .inr (5, [.ref l1, .ref l3, .ref l4, .int (nI lh), .int (nI le), .int (nI lb), .int (nI ln)])), (l1, .inr (0, [.ref l2, .int (nI lu)])), (l2, .inl (cI, 2470, .inl (nA lr))), (l3, .inl (cI, 200, .inl (nA lt))), (l4, .inl (cI, 200, .inl (oA lz))), (b0, .inr (1, [.ref b1])), (b1, .inr (0, [.ref b2, .int (nI bu)])), (b2, .inl (cI, 337, .inl (nA bd))), (g0, .inr (1, [.ref g1])), (g1, .inr (0, [.ref g2, .int (nI (if 95 < lb + entBlocks (bd 0) bu then (baN lr lu lt lz gd 200).2.2 else gu))])), (g2, .inl (cI, 337, .inl (nA (if 95 < lb + entBlocks (bd 0) bu then (baN lr lu lt lz gd 200).2.1 else gd))))] H := hP
      have hD : va_D A [(t0, .inr (6, [.ref k0, .ref l0, .ref v0, .ref b0, .ref g0, .ref c0, .ref w0, .int (nI bw), .int (nI ta)])), (k0, .inr (3, [.ref k1])), (k1, .inl (cI, 6144, .inl (nA kd))), (l0, .inr (5, [.ref l1, .ref l3, .ref l4, .int (nI lh), .int (nI le), .int (nI lb), .int (nI ln)])), (l1, .inr (0, [.ref l2, .int (nI lu)])), (l2, .inl (cI, 2470, .inl (nA lr))), (l3, .inl (cI, 200, .inl (nA lt))), (l4, .inl (cI, 200, .inl (oA lz))), (b0, .inr (1, [.ref b1])), (b1, .inr (0, [.ref b2, .int (nI bu)])), (b2, .inl (cI, 337, .inl (nA bd))), (g0, .inr (1, [.ref g1])), (g1, .inr (0, [.ref g2, .int (nI (if 95 < lb + entBlocks (bd 0) bu then (baN lr lu lt lz gd 200).2.2 else gu))])), (g2, .inl (cI, 337, .inl (nA (if 95 < lb + entBlocks (bd 0) bu then (baN lr lu lt lz gd 200).2.1 else gd))))] := hD
      refine n_if_eqB (tgt := 61) hx hb d_Top_crash_48 (by decide) (fun c_48 => ?_) (fun c_48 => ?_)
      · exact absurd hrf (of_decide_eq_false c_48)
      · skip
        exact hthr _ _ 51 ls hl.1 d_Top_crash_51 d_Top_crash_54 d_Top_crash_55 d_Top_crash_57 d_Top_crash_60 (hP.sub [0, 1, 2, 3, 4, 5, 6, 7, 8, 9, 10, 11, 12, 13] rfl) (hD.sub [0, 1, 2, 3, 4, 5, 6, 7, 8, 9, 10, 11, 12, 13] (by decide) rfl) hS
    · exact absurd c_31 (by omega)
  · exact absurd c_11 (by omega)
