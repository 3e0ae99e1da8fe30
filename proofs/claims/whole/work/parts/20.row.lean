abbrev rm_Row_length : Room := { frames := 0, cells := 0, slots := 0, locals := 0 }
set_option maxHeartbeats 4000000 in
set_option maxRecDepth 100000 in
theorem c_Row_length (l : Launch) (dC : Nat → ClassId) (dI : Nat → Nat → Nat) (cI : ClassId) (sz : Nat) (h0 : Nat) (h1 : Nat) (n : Nat) (d : Nat → Nat) (u : Nat)  : KI l y_Row_length w_Row_length rm_Row_length (dC, dI) CL_ [(cI, .int)] sz [.ref h0] [(h0, .inr (0, [.ref h1, .int (nI u)])), (h1, .inl (cI, n, .inl (nA d)))] [(h0, .inr (0, [.ref h1, .int (nI u)])), (h1, .inl (cI, n, .inl (nA d)))] (nI u) := by
  refine k_start_i (cc := b_Row_length) (maxL := 1) (by decide) (Nat.le_of_ble_eq_true rfl) ?_
  intro p e s m args below meth c A QQ ls SS hK hP hD hA hl hN hret
  obtain ⟨hx, hb, hml, hown, hts⟩ := id SS
  have hl : lv_has ls 1 [(0, .ref h0)] := hl
  have hS : va_S A s.heap s.heap [] := va_S.rf
  refine lv_aload_n hx hb d_Row_length_0 rfl (lv_at hl 0 rfl) ?_
  refine va_get (D := (dC, dI)) (ci := 0) (v := .int (nI u)) (C := R_Row) (T := F_Row) (N := 2) hx hb hts in_Row hown hK hP 0 rfl rfl 1 (by decide) (hts _ u_86) (fun _ h9 => h9) rfl d_Row_length_1 ?_
  exact hret (nI u) _ _ 4 ls d_Row_length_4 (hP.sub [0, 1] rfl) (hD.sub [0, 1] (by decide) rfl) hS rfl
abbrev rm_Row_at : Room := { frames := 0, cells := 0, slots := 0, locals := 0 }
set_option maxHeartbeats 4000000 in
set_option maxRecDepth 100000 in
theorem c_Row_at (l : Launch) (dC : Nat → ClassId) (dI : Nat → Nat → Nat) (cI : ClassId) (sz : Nat) (h0 : Nat) (h1 : Nat) (n : Nat) (d : Nat → Nat) (u : Nat) (j : Nat) (hun : u ≤ n) (hnn : n < 2 ^ 31) (hj : j < 2 ^ 31) : KI l y_Row_at w_Row_at rm_Row_at (dC, dI) CL_ [(cI, .int)] sz [.ref h0, .int (nI j)] [(h0, .inr (0, [.ref h1, .int (nI u)])), (h1, .inl (cI, n, .inl (nA d)))] [(h0, .inr (0, [.ref h1, .int (nI u)])), (h1, .inl (cI, n, .inl (nA d)))] (nI (rowAt d u j)) := by
  refine k_start_i (cc := b_Row_at) (maxL := 2) (by decide) (Nat.le_of_ble_eq_true rfl) ?_
  intro p e s m args below meth c A QQ ls SS hK hP hD hA hl hN hret
  obtain ⟨hx, hb, hml, hown, hts⟩ := id SS
  have hl : lv_has ls 2 [(0, .ref h0), (1, .int (nI j))] := hl
  have hS : va_S A s.heap s.heap [] := va_S.rf
  refine lv_iload_n hx hb d_Row_at_0 rfl (lv_at hl 1 rfl) ?_
  refine n_if_lt (tgt := 21) hx hb d_Row_at_1 (by decide) (by omega) ?_
  refine lv_iload_n hx hb d_Row_at_4 rfl (lv_at hl 1 rfl) ?_
  refine lv_aload_n hx hb d_Row_at_5 rfl (lv_at hl 0 rfl) ?_
  refine va_get (D := (dC, dI)) (ci := 0) (v := .int (nI u)) (C := R_Row) (T := F_Row) (N := 2) hx hb hts in_Row hown hK hP 0 rfl rfl 1 (by decide) (hts _ u_86) (fun _ h9 => h9) rfl d_Row_at_6 ?_
  refine n_icmp_ge (tgt := 21) hx hb d_Row_at_9 (by decide) (by omega) (by omega) (fun c_9 => ?_) (fun c_9 => ?_)
  · skip
    refine lv_iconst (v := nI 0) hx hb d_Row_at_21 (by decide) ?_
    exact hret (nI 0) _ _ 22 ls d_Row_at_22 (hP.sub [0, 1] rfl) (hD.sub [0, 1] (by decide) rfl) hS (by first | (rw [rowAt, if_pos (by omega)]) | (rw [rowAt, if_neg (by omega)]))
  · skip
    refine lv_aload_n hx hb d_Row_at_12 rfl (lv_at hl 0 rfl) ?_
    refine va_get (D := (dC, dI)) (ci := 0) (v := .ref h1) (C := R_Row) (T := F_Row) (N := 2) hx hb hts in_Row hown hK hP 0 rfl rfl 0 (by decide) (hts _ u_85) (fun _ h9 => h9) rfl d_Row_at_13 ?_
    refine lv_iload_n hx hb d_Row_at_16 rfl (lv_at hl 1 rfl) ?_
    refine n_iald (v := nI (d j)) hx hb hK hP 1 0 rfl rfl rfl (by omega) (by omega) d_Row_at_17 ?_
    refine lv_goto (tgt := 22) hx hb d_Row_at_18 (by decide) ?_
    exact hret (nI (d j)) _ _ 22 ls d_Row_at_22 (hP.sub [0, 1] rfl) (hD.sub [0, 1] (by decide) rfl) hS (by first | (rw [rowAt, if_pos (by omega)]) | (rw [rowAt, if_neg (by omega)]))
abbrev rm_Row_clear : Room := { frames := 0, cells := 0, slots := 0, locals := 0 }
set_option maxHeartbeats 4000000 in
set_option maxRecDepth 100000 in
theorem c_Row_clear (l : Launch) (dC : Nat → ClassId) (dI : Nat → Nat → Nat) (cI : ClassId) (sz : Nat) (h0 : Nat) (h1 : Nat) (n : Nat) (d : Nat → Nat) (u : Nat)  : KV l y_Row_clear w_Row_clear rm_Row_clear (dC, dI) CL_ [(cI, .int)] sz [.ref h0] [(h0, .inr (0, [.ref h1, .int (nI u)])), (h1, .inl (cI, n, .inl (nA d)))] [(h0, .inr (0, [.ref h1, .int (nI 0)])), (h1, .inl (cI, n, .inl (nA d)))] := by
  refine k_start_v (cc := b_Row_clear) (maxL := 1) (by decide) (Nat.le_of_ble_eq_true rfl) ?_
  intro p e s m args below meth c A QQ ls SS hK hP hD hA hl hN hret
  obtain ⟨hx, hb, hml, hown, hts⟩ := id SS
  have hl : lv_has ls 1 [(0, .ref h0)] := hl
  have hS : va_S A s.heap s.heap [] := va_S.rf
  refine lv_aload_n hx hb d_Row_clear_0 rfl (lv_at hl 0 rfl) ?_
  refine lv_iconst (v := nI 0) hx hb d_Row_clear_1 (by decide) ?_
  refine va_put (D := (dC, dI)) (ci := 0) (v := .int (nI 0)) (ty := .int) (C := R_Row) (T := F_Row) (N := 2) hx hb hts in_Row ty_Row tok_Row nm_Row hown hK hP hD hS 0 rfl rfl 1 (by decide) (hts _ u_86) (fun _ h9 => h9) rfl (by decide +kernel) rfl rfl (Nat.le_of_ble_eq_true rfl) d_Row_clear_2 (fun H locs hP hD hS => ?_)
  have hP : va_P (dC, dI) CL_ [(h0, .inr (0, [.ref h1, .int (nI 0)])), (h1, .inl (cI, n, .inl (nA d)))] H := hP
  have hD : va_D A [(h0, .inr (0, [.ref h1, .int (nI 0)])), (h1, .inl (cI, n, .inl (nA d)))] := hD
  exact hret _ _ 5 ls d_Row_clear_5 (hP.sub [0, 1] rfl) (hD.sub [0, 1] (by decide) rfl) hS
abbrev rm_Row_addI : Room := { frames := 0, cells := 0, slots := 0, locals := 0 }
set_option maxHeartbeats 4000000 in
set_option maxRecDepth 100000 in
theorem c_Row_addI (l : Launch) (dC : Nat → ClassId) (dI : Nat → Nat → Nat) (cI : ClassId) (sz : Nat) (h0 : Nat) (h1 : Nat) (n : Nat) (d : Nat → Nat) (u : Nat) (b : Int32) (hun : u < n) (hnn : n < 2 ^ 31) : KV l y_Row_add w_Row_add rm_Row_addI (dC, dI) CL_ [(cI, .int)] sz [.ref h0, .int b] [(h0, .inr (0, [.ref h1, .int (nI u)])), (h1, .inl (cI, n, .inl (nA d)))] [(h0, .inr (0, [.ref h1, .int (nI (u + 1))])), (h1, .inl (cI, n, .inl (nA (updN d u (b.toBitVec.toNat % 256)))))] := by
  refine k_start_v (cc := b_Row_add) (maxL := 2) (by decide) (Nat.le_of_ble_eq_true rfl) ?_
  intro p e s m args below meth c A QQ ls SS hK hP hD hA hl hN hret
  obtain ⟨hx, hb, hml, hown, hts⟩ := id SS
  have hl : lv_has ls 2 [(0, .ref h0), (1, .int b)] := hl
  have hS : va_S A s.heap s.heap [] := va_S.rf
  refine lv_aload_n hx hb d_Row_add_0 rfl (lv_at hl 0 rfl) ?_
  refine va_get (D := (dC, dI)) (ci := 0) (v := .int (nI u)) (C := R_Row) (T := F_Row) (N := 2) hx hb hts in_Row hown hK hP 0 rfl rfl 1 (by decide) (hts _ u_86) (fun _ h9 => h9) rfl d_Row_add_1 ?_
  refine n_if_lt (tgt := 43) hx hb d_Row_add_4 (by decide) (by omega) ?_
  refine lv_aload_n hx hb d_Row_add_7 rfl (lv_at hl 0 rfl) ?_
  refine va_get (D := (dC, dI)) (ci := 0) (v := .int (nI u)) (C := R_Row) (T := F_Row) (N := 2) hx hb hts in_Row hown hK hP 0 rfl rfl 1 (by decide) (hts _ u_86) (fun _ h9 => h9) rfl d_Row_add_8 ?_
  refine lv_aload_n hx hb d_Row_add_11 rfl (lv_at hl 0 rfl) ?_
  refine va_get (D := (dC, dI)) (ci := 0) (v := .ref h1) (C := R_Row) (T := F_Row) (N := 2) hx hb hts in_Row hown hK hP 0 rfl rfl 0 (by decide) (hts _ u_85) (fun _ h9 => h9) rfl d_Row_add_12 ?_
  refine va_alen (v := nI n) hx hb hK hP 1 0 rfl rfl rfl d_Row_add_15 ?_
  refine n_icmp_ge (tgt := 43) hx hb d_Row_add_16 (by decide) (by omega) (by omega) (fun c_16 => ?_) (fun c_16 => ?_)
  · exact absurd c_16 (by omega)
  · skip
    refine lv_aload_n hx hb d_Row_add_19 rfl (lv_at hl 0 rfl) ?_
    refine va_get (D := (dC, dI)) (ci := 0) (v := .ref h1) (C := R_Row) (T := F_Row) (N := 2) hx hb hts in_Row hown hK hP 0 rfl rfl 0 (by decide) (hts _ u_85) (fun _ h9 => h9) rfl d_Row_add_20 ?_
    refine lv_aload_n hx hb d_Row_add_23 rfl (lv_at hl 0 rfl) ?_
    refine va_get (D := (dC, dI)) (ci := 0) (v := .int (nI u)) (C := R_Row) (T := F_Row) (N := 2) hx hb hts in_Row hown hK hP 0 rfl rfl 1 (by decide) (hts _ u_86) (fun _ h9 => h9) rfl d_Row_add_24 ?_
    refine lv_iload_n hx hb d_Row_add_27 rfl (lv_at hl 1 rfl) ?_
    refine lv_sipush (v := nI 255) hx hb d_Row_add_28 (by decide) ?_
    refine n_iand255 hx hb d_Row_add_31 ?_
    refine n_iast (f' := nA (updN d u (b.toBitVec.toNat % 256))) hx hb hK hP hD hS 1 0 rfl rfl (nA_upd _ _ _) (by omega) (by omega) d_Row_add_32 (fun H locs hP hD hS => ?_)
    have hP : va_P (dC, dI) CL_ [(h0, .inr (0, [.ref h1, .int (nI u)])), (h1, .inl (cI, n, .inl (nA (updN d u (b.toBitVec.toNat % 256)))))] H := hP
    have hD : va_D A [(h0, .inr (0, [.ref h1, .int (nI u)])), (h1, .inl (cI, n, .inl (nA (updN d u (b.toBitVec.toNat % 256)))))] := hD
    refine lv_aload_n hx hb d_Row_add_33 rfl (lv_at hl 0 rfl) ?_
    refine lv_dup hx hb d_Row_add_34 rfl ?_
    refine va_get (D := (dC, dI)) (ci := 0) (v := .int (nI u)) (C := R_Row) (T := F_Row) (N := 2) hx hb hts in_Row hown hK hP 0 rfl rfl 1 (by decide) (hts _ u_86) (fun _ h9 => h9) rfl d_Row_add_35 ?_
    refine lv_iconst (v := nI 1) hx hb d_Row_add_38 (by decide) ?_
    refine n_iadd hx hb d_Row_add_39 ?_
    refine va_put (D := (dC, dI)) (ci := 0) (v := .int (nI (u + 1))) (ty := .int) (C := R_Row) (T := F_Row) (N := 2) hx hb hts in_Row ty_Row tok_Row nm_Row hown hK hP hD hS 0 rfl rfl 1 (by decide) (hts _ u_86) (fun _ h9 => h9) rfl (by decide +kernel) rfl rfl (Nat.le_of_ble_eq_true rfl) d_Row_add_40 (fun H locs hP hD hS => ?_)
    have hP : va_P (dC, dI) CL_ [(h0, .inr (0, [.ref h1, .int (nI (u + 1))])), (h1, .inl (cI, n, .inl (nA (updN d u (b.toBitVec.toNat % 256)))))] H := hP
    have hD : va_D A [(h0, .inr (0, [.ref h1, .int (nI (u + 1))])), (h1, .inl (cI, n, .inl (nA (updN d u (b.toBitVec.toNat % 256)))))] := hD
    exact hret _ _ 43 ls d_Row_add_43 (hP.sub [0, 1] rfl) (hD.sub [0, 1] (by decide) rfl) hS
abbrev rm_Row_add : Room := { frames := 0, cells := 0, slots := 0, locals := 0 }
set_option maxHeartbeats 4000000 in
set_option maxRecDepth 100000 in
theorem c_Row_add (l : Launch) (dC : Nat → ClassId) (dI : Nat → Nat → Nat) (cI : ClassId) (sz : Nat) (h0 : Nat) (h1 : Nat) (n : Nat) (d : Nat → Nat) (u : Nat) (v : Nat) (hun : u < n) (hnn : n < 2 ^ 31) (hv : v < 256) : KV l y_Row_add w_Row_add rm_Row_add (dC, dI) CL_ [(cI, .int)] sz [.ref h0, .int (nI v)] [(h0, .inr (0, [.ref h1, .int (nI u)])), (h1, .inl (cI, n, .inl (nA d)))] [(h0, .inr (0, [.ref h1, .int (nI (u + 1))])), (h1, .inl (cI, n, .inl (nA (updN d u v))))] := by
  refine k_start_v (cc := b_Row_add) (maxL := 2) (by decide) (Nat.le_of_ble_eq_true rfl) ?_
  intro p e s m args below meth c A QQ ls SS hK hP hD hA hl hN hret
  obtain ⟨hx, hb, hml, hown, hts⟩ := id SS
  have hl : lv_has ls 2 [(0, .ref h0), (1, .int (nI v))] := hl
  have hS : va_S A s.heap s.heap [] := va_S.rf
  refine lv_aload_n hx hb d_Row_add_0 rfl (lv_at hl 0 rfl) ?_
  refine va_get (D := (dC, dI)) (ci := 0) (v := .int (nI u)) (C := R_Row) (T := F_Row) (N := 2) hx hb hts in_Row hown hK hP 0 rfl rfl 1 (by decide) (hts _ u_86) (fun _ h9 => h9) rfl d_Row_add_1 ?_
  refine n_if_lt (tgt := 43) hx hb d_Row_add_4 (by decide) (by omega) ?_
  refine lv_aload_n hx hb d_Row_add_7 rfl (lv_at hl 0 rfl) ?_
  refine va_get (D := (dC, dI)) (ci := 0) (v := .int (nI u)) (C := R_Row) (T := F_Row) (N := 2) hx hb hts in_Row hown hK hP 0 rfl rfl 1 (by decide) (hts _ u_86) (fun _ h9 => h9) rfl d_Row_add_8 ?_
  refine lv_aload_n hx hb d_Row_add_11 rfl (lv_at hl 0 rfl) ?_
  refine va_get (D := (dC, dI)) (ci := 0) (v := .ref h1) (C := R_Row) (T := F_Row) (N := 2) hx hb hts in_Row hown hK hP 0 rfl rfl 0 (by decide) (hts _ u_85) (fun _ h9 => h9) rfl d_Row_add_12 ?_
  refine va_alen (v := nI n) hx hb hK hP 1 0 rfl rfl rfl d_Row_add_15 ?_
  refine n_icmp_ge (tgt := 43) hx hb d_Row_add_16 (by decide) (by omega) (by omega) (fun c_16 => ?_) (fun c_16 => ?_)
  · exact absurd c_16 (by omega)
  · skip
    refine lv_aload_n hx hb d_Row_add_19 rfl (lv_at hl 0 rfl) ?_
    refine va_get (D := (dC, dI)) (ci := 0) (v := .ref h1) (C := R_Row) (T := F_Row) (N := 2) hx hb hts in_Row hown hK hP 0 rfl rfl 0 (by decide) (hts _ u_85) (fun _ h9 => h9) rfl d_Row_add_20 ?_
    refine lv_aload_n hx hb d_Row_add_23 rfl (lv_at hl 0 rfl) ?_
    refine va_get (D := (dC, dI)) (ci := 0) (v := .int (nI u)) (C := R_Row) (T := F_Row) (N := 2) hx hb hts in_Row hown hK hP 0 rfl rfl 1 (by decide) (hts _ u_86) (fun _ h9 => h9) rfl d_Row_add_24 ?_
    refine lv_iload_n hx hb d_Row_add_27 rfl (lv_at hl 1 rfl) ?_
    refine lv_sipush (v := nI 255) hx hb d_Row_add_28 (by decide) ?_
    refine n_iandm hx hb d_Row_add_31 ?_
    refine top_i (nI v) (by rw [Nat.mod_eq_of_lt hv]) ?_
    refine n_iast (f' := nA (updN d u v)) hx hb hK hP hD hS 1 0 rfl rfl (nA_upd _ _ _) (by omega) (by omega) d_Row_add_32 (fun H locs hP hD hS => ?_)
    have hP : va_P (dC, dI) CL_ [(h0, .inr (0, [.ref h1, .int (nI u)])), (h1, .inl (cI, n, .inl (nA (updN d u v))))] H := hP
    have hD : va_D A [(h0, .inr (0, [.ref h1, .int (nI u)])), (h1, .inl (cI, n, .inl (nA (updN d u v))))] := hD
    refine lv_aload_n hx hb d_Row_add_33 rfl (lv_at hl 0 rfl) ?_
    refine lv_dup hx hb d_Row_add_34 rfl ?_
    refine va_get (D := (dC, dI)) (ci := 0) (v := .int (nI u)) (C := R_Row) (T := F_Row) (N := 2) hx hb hts in_Row hown hK hP 0 rfl rfl 1 (by decide) (hts _ u_86) (fun _ h9 => h9) rfl d_Row_add_35 ?_
    refine lv_iconst (v := nI 1) hx hb d_Row_add_38 (by decide) ?_
    refine n_iadd hx hb d_Row_add_39 ?_
    refine va_put (D := (dC, dI)) (ci := 0) (v := .int (nI (u + 1))) (ty := .int) (C := R_Row) (T := F_Row) (N := 2) hx hb hts in_Row ty_Row tok_Row nm_Row hown hK hP hD hS 0 rfl rfl 1 (by decide) (hts _ u_86) (fun _ h9 => h9) rfl (by decide +kernel) rfl rfl (Nat.le_of_ble_eq_true rfl) d_Row_add_40 (fun H locs hP hD hS => ?_)
    have hP : va_P (dC, dI) CL_ [(h0, .inr (0, [.ref h1, .int (nI (u + 1))])), (h1, .inl (cI, n, .inl (nA (updN d u v))))] H := hP
    have hD : va_D A [(h0, .inr (0, [.ref h1, .int (nI (u + 1))])), (h1, .inl (cI, n, .inl (nA (updN d u v))))] := hD
    exact hret _ _ 43 ls d_Row_add_43 (hP.sub [0, 1] rfl) (hD.sub [0, 1] (by decide) rfl) hS
abbrev rm_Row_change : Room := { frames := 0, cells := 0, slots := 0, locals := 0 }
set_option maxHeartbeats 4000000 in
set_option maxRecDepth 100000 in
theorem c_Row_change (l : Launch) (dC : Nat → ClassId) (dI : Nat → Nat → Nat) (cI : ClassId) (sz : Nat) (h0 : Nat) (h1 : Nat) (n : Nat) (d : Nat → Nat) (u : Nat) (k : Nat) (v : Nat) (hku : k < u) (hun : u ≤ n) (hnn : n < 2 ^ 31) (hv : v < 256) : KV l y_Row_change w_Row_change rm_Row_change (dC, dI) CL_ [(cI, .int)] sz [.ref h0, .int (nI k), .int (nI v)] [(h0, .inr (0, [.ref h1, .int (nI u)])), (h1, .inl (cI, n, .inl (nA d)))] [(h0, .inr (0, [.ref h1, .int (nI u)])), (h1, .inl (cI, n, .inl (nA (updN d k v))))] := by
  refine k_start_v (cc := b_Row_change) (maxL := 3) (by decide) (Nat.le_of_ble_eq_true rfl) ?_
  intro p e s m args below meth c A QQ ls SS hK hP hD hA hl hN hret
  obtain ⟨hx, hb, hml, hown, hts⟩ := id SS
  have hl : lv_has ls 3 [(0, .ref h0), (1, .int (nI k)), (2, .int (nI v))] := hl
  have hS : va_S A s.heap s.heap [] := va_S.rf
  refine lv_iload_n hx hb d_Row_change_0 rfl (lv_at hl 1 rfl) ?_
  refine n_if_lt (tgt := 23) hx hb d_Row_change_1 (by decide) (by omega) ?_
  refine lv_iload_n hx hb d_Row_change_4 rfl (lv_at hl 1 rfl) ?_
  refine lv_aload_n hx hb d_Row_change_5 rfl (lv_at hl 0 rfl) ?_
  refine va_get (D := (dC, dI)) (ci := 0) (v := .int (nI u)) (C := R_Row) (T := F_Row) (N := 2) hx hb hts in_Row hown hK hP 0 rfl rfl 1 (by decide) (hts _ u_86) (fun _ h9 => h9) rfl d_Row_change_6 ?_
  refine n_icmp_ge (tgt := 23) hx hb d_Row_change_9 (by decide) (by omega) (by omega) (fun c_9 => ?_) (fun c_9 => ?_)
  · exact absurd c_9 (by omega)
  · skip
    refine lv_aload_n hx hb d_Row_change_12 rfl (lv_at hl 0 rfl) ?_
    refine va_get (D := (dC, dI)) (ci := 0) (v := .ref h1) (C := R_Row) (T := F_Row) (N := 2) hx hb hts in_Row hown hK hP 0 rfl rfl 0 (by decide) (hts _ u_85) (fun _ h9 => h9) rfl d_Row_change_13 ?_
    refine lv_iload_n hx hb d_Row_change_16 rfl (lv_at hl 1 rfl) ?_
    refine lv_iload_n hx hb d_Row_change_17 rfl (lv_at hl 2 rfl) ?_
    refine lv_sipush (v := nI 255) hx hb d_Row_change_18 (by decide) ?_
    refine n_iandm hx hb d_Row_change_21 ?_
    refine top_i (nI v) (by rw [Nat.mod_eq_of_lt hv]) ?_
    refine n_iast (f' := nA (updN d k v)) hx hb hK hP hD hS 1 0 rfl rfl (nA_upd _ _ _) (by omega) (by omega) d_Row_change_22 (fun H locs hP hD hS => ?_)
    have hP : va_P (dC, dI) CL_ [(h0, .inr (0, [.ref h1, .int (nI u)])), (h1, .inl (cI, n, .inl (nA (updN d k v))))] H := hP
    have hD : va_D A [(h0, .inr (0, [.ref h1, .int (nI u)])), (h1, .inl (cI, n, .inl (nA (updN d k v))))] := hD
    exact hret _ _ 23 ls d_Row_change_23 (hP.sub [0, 1] rfl) (hD.sub [0, 1] (by decide) rfl) hS
abbrev rm_sumOf : Room := { frames := 0, cells := 0, slots := 0, locals := 0 }
set_option maxHeartbeats 4000000 in
set_option maxRecDepth 100000 in
theorem c_sumOf (l : Launch) (dC : Nat → ClassId) (dI : Nat → Nat → Nat) (cI : ClassId) (sz : Nat) (a0 : Nat) (n : Nat) (d : Nat → Nat) (o : Nat) (hon : o + 32 ≤ n) (hnn : n < 2 ^ 30) : KI l y_Top_sumOf w_Top_sumOf rm_sumOf (dC, dI) CL_ [(cI, .int)] sz [.ref a0, .int (nI o)] [(a0, .inl (cI, n, .inl (nA d)))] [(a0, .inl (cI, n, .inl (nA d)))] (nI (sumN d o)) := by
  refine k_start_i (cc := b_Top_sumOf) (maxL := 4) (by decide) (Nat.le_of_ble_eq_true rfl) ?_
  intro p e s m args below meth c A QQ ls SS hK hP hD hA hl hN hret
  obtain ⟨hx, hb, hml, hown, hts⟩ := id SS
  have hl : lv_has ls 4 [(0, .ref a0), (1, .int (nI o))] := hl
  have hS : va_S A s.heap s.heap [] := va_S.rf
  refine lv_iload_n hx hb d_Top_sumOf_0 rfl (lv_at hl 1 rfl) ?_
  refine n_if_lt (tgt := 13) hx hb d_Top_sumOf_1 (by decide) (by omega) ?_
  refine lv_iload_n hx hb d_Top_sumOf_4 rfl (lv_at hl 1 rfl) ?_
  refine lv_aload_n hx hb d_Top_sumOf_5 rfl (lv_at hl 0 rfl) ?_
  refine va_alen (v := nI n) hx hb hK hP 0 0 rfl rfl rfl d_Top_sumOf_6 ?_
  refine lv_bipush (v := nI 32) hx hb d_Top_sumOf_7 (by decide) ?_
  refine n_isub hx hb d_Top_sumOf_9 (by omega) ?_
  refine n_icmp_le (tgt := 15) hx hb d_Top_sumOf_10 (by decide) (by omega) (by omega) (fun c_10 => ?_) (fun c_10 => ?_)
  · skip
    refine lv_iconst (v := nI 0) hx hb d_Top_sumOf_15 (by decide) ?_
    refine lv_istore_n (lv' := [(2, .int (nI 0)), (0, .ref a0), (1, .int (nI o))]) hx hb d_Top_sumOf_16 rfl hl (by decide) rfl (fun ls hl => ?_)
    refine lv_iconst (v := nI 0) hx hb d_Top_sumOf_17 (by decide) ?_
    refine lv_istore_n (lv' := [(3, .int (nI 0)), (2, .int (nI 0)), (0, .ref a0), (1, .int (nI o))]) hx hb d_Top_sumOf_18 rfl hl (by decide) rfl (fun ls hl => ?_)
    have loop_19 : ∀ (n_ : Nat) (k : Nat), (k ≤ 32) → (33 ≤ k + n_) → ∀ (H : Heap) (locs : List Loc) (ls : Array Slot), va_P (dC, dI) CL_ [(a0, .inl (cI, n, .inl (nA d)))] H → va_D A [(a0, .inl (cI, n, .inl (nA d)))] → va_S A s.heap H locs → lv_has ls 4 [(0, .ref a0), (1, .int (nI o)), (2, .int (nI (sumTo d o k))), (3, .int (nI k))] → W p l e rm_sumOf s m args below meth c H locs 0 0 QQ (F0 m 19 ls []) := by
      intro n_
      induction n_ with
      | zero =>
        intro k hk hf
        exact absurd hf (by omega)
      | succ n_ ih =>
        intro k hk hf H locs ls hP hD hS hl
        refine lv_iload_n hx hb d_Top_sumOf_19 rfl (lv_at hl 3 rfl) ?_
        refine lv_bipush (v := nI 32) hx hb d_Top_sumOf_20 (by decide) ?_
        refine n_icmp_ge (tgt := 48) hx hb d_Top_sumOf_22 (by decide) (by omega) (by omega) (fun c_22 => ?_) (fun c_22 => ?_)
        · skip
          have hq : k = 32 := by omega
          refine lv_iload_n hx hb d_Top_sumOf_48 rfl (lv_at hl 2 rfl) ?_
          refine lv_sipush (v := nI 255) hx hb d_Top_sumOf_49 (by decide) ?_
          refine n_iandm hx hb d_Top_sumOf_52 ?_
          exact hret (nI ((sumTo d o k) % 256)) _ _ 53 ls d_Top_sumOf_53 (hP.sub [0] rfl) (hD.sub [0] (by decide) rfl) hS (by rw [hq]; rfl)
        · skip
          refine lv_iload_n hx hb d_Top_sumOf_25 rfl (lv_at hl 3 rfl) ?_
          refine lv_iconst (v := nI 3) hx hb d_Top_sumOf_26 (by decide) ?_
          refine n_icmp_eq (tgt := 42) hx hb d_Top_sumOf_27 (by decide) (by omega) (by omega) (fun c_27 => ?_) (fun c_27 => ?_)
          · skip
            refine lv_iinc (v := nI (k + 1)) (lv' := [(3, .int (nI (k + 1))), (0, .ref a0), (1, .int (nI o)), (2, .int (nI (sumTo d o k)))]) hx hb d_Top_sumOf_42 hl (k := 3) rfl (inc1 k) (by decide) rfl (fun ls hl => ?_)
            refine lv_goto (tgt := 19) hx hb d_Top_sumOf_45 (by decide) ?_
            first | (have e9 : sumTo d o k = sumTo d o (k + 1) := (by rw [sumTo, if_pos c_27, Nat.add_zero]); rw [e9] at hl) | (have e9 : sumTo d o k + d (o + k) * (k + 1) = sumTo d o (k + 1) := (by rw [sumTo, if_neg c_27]); rw [e9] at hl)
            exact ih (k + 1) (by omega) (by omega) _ _ _ (hP.sub [0] rfl) (hD.sub [0] (by decide) rfl) hS (lv_sub hl [1, 2, 3, 0] rfl)
          · skip
            refine lv_iload_n hx hb d_Top_sumOf_30 rfl (lv_at hl 2 rfl) ?_
            refine lv_aload_n hx hb d_Top_sumOf_31 rfl (lv_at hl 0 rfl) ?_
            refine lv_iload_n hx hb d_Top_sumOf_32 rfl (lv_at hl 1 rfl) ?_
            refine lv_iload_n hx hb d_Top_sumOf_33 rfl (lv_at hl 3 rfl) ?_
            refine n_iadd hx hb d_Top_sumOf_34 ?_
            refine n_iald (v := nI (d (o + k))) hx hb hK hP 0 0 rfl rfl rfl (by omega) (by omega) d_Top_sumOf_35 ?_
            refine lv_iload_n hx hb d_Top_sumOf_36 rfl (lv_at hl 3 rfl) ?_
            refine lv_iconst (v := nI 1) hx hb d_Top_sumOf_37 (by decide) ?_
            refine n_iadd hx hb d_Top_sumOf_38 ?_
            refine n_imul hx hb d_Top_sumOf_39 ?_
            refine n_iadd hx hb d_Top_sumOf_40 ?_
            refine lv_istore_n (lv' := [(2, .int (nI ((sumTo d o k) + ((d (o + k)) * (k + 1))))), (0, .ref a0), (1, .int (nI o)), (3, .int (nI k))]) hx hb d_Top_sumOf_41 rfl hl (by decide) rfl (fun ls hl => ?_)
            refine lv_iinc (v := nI (k + 1)) (lv' := [(3, .int (nI (k + 1))), (2, .int (nI ((sumTo d o k) + ((d (o + k)) * (k + 1))))), (0, .ref a0), (1, .int (nI o))]) hx hb d_Top_sumOf_42 hl (k := 3) rfl (inc1 k) (by decide) rfl (fun ls hl => ?_)
            refine lv_goto (tgt := 19) hx hb d_Top_sumOf_45 (by decide) ?_
            first | (have e9 : sumTo d o k = sumTo d o (k + 1) := (by rw [sumTo, if_pos c_27, Nat.add_zero]); rw [e9] at hl) | (have e9 : sumTo d o k + d (o + k) * (k + 1) = sumTo d o (k + 1) := (by rw [sumTo, if_neg c_27]); rw [e9] at hl)
            exact ih (k + 1) (by omega) (by omega) _ _ _ (hP.sub [0] rfl) (hD.sub [0] (by decide) rfl) hS (lv_sub hl [2, 3, 1, 0] rfl)
    exact loop_19 33 0 (by omega) (by omega) _ _ _ (hP.sub [0] rfl) (hD.sub [0] (by decide) rfl) hS (lv_sub hl [2, 3, 1, 0] rfl)
  · exact absurd c_10 (by omega)
