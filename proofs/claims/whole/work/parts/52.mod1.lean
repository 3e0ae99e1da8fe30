abbrev rmm_thrown : Room := { frames := 0, cells := 0, slots := 0, locals := 0 }
set_option maxHeartbeats 4000000 in
set_option maxRecDepth 100000 in
theorem m_thrown (l : Launch) (dC : Nat → ClassId) (dI : Nat → Nat → Nat) (cI : ClassId) (sz : Nat) (m0 : Nat) (a1 : Nat) (a2 : Nat) (a3 : Nat) (a4 : Nat) (a5 : Nat) (a6 : Nat) (a7 : Nat) (a8 : Nat) (a9 : Nat) (th : Nat) (vs : Nat) (bs : Nat) (ch : Nat) (mh : Nat) (me : Nat) (mb : Nat) (mn : Nat) (mw : Nat) (mr : Nat) (es : Nat) (pn : Nat) (ah : Option Nat) (fs : Nat)  : KI l y_Mod_thrown w_Mod_thrown rmm_thrown (dC, dI) CL_ [(cI, .int)] sz [.ref m0] [(m0, .inr (7, [.int (nI th), .ref a1, .ref a2, .int (nI vs), .ref a3, .int (nI bs), .int (nI ch), .int (nI mh), .int (nI me), .int (nI mb), .int (nI mn), .ref a4, .ref a5, .int (nI mw), .int (nI mr), .ref a6, .int (nI es), .int (nI pn), .ref a7, .ref a8, .int (oI ah), .ref a9, .int (nI fs)]))] [(m0, .inr (7, [.int (nI th), .ref a1, .ref a2, .int (nI vs), .ref a3, .int (nI bs), .int (nI ch), .int (nI mh), .int (nI me), .int (nI mb), .int (nI mn), .ref a4, .ref a5, .int (nI mw), .int (nI mr), .ref a6, .int (nI es), .int (nI pn), .ref a7, .ref a8, .int (oI ah), .ref a9, .int (nI fs)]))] (nI th) := by
  refine k_start_i (cc := b_Mod_thrown) (maxL := 1) (by decide) (Nat.le_of_ble_eq_true rfl) ?_
  intro p e s m args below meth c A QQ ls SS hK hP hD hA hl hN hret
  obtain ⟨hx, hb, hml, hown, hts⟩ := id SS
  have hl : lv_has ls 1 [(0, .ref m0)] := hl
  have hS : va_S A s.heap s.heap [] := va_S.rf
  refine lv_aload_n hx hb d_Mod_thrown_0 rfl (lv_at hl 0 rfl) ?_
  refine va_get (D := (dC, dI)) (ci := 7) (v := .int (nI th)) (C := R_Mod) (T := F_Mod) (N := 23) hx hb hts in_Mod hown hK hP 0 rfl rfl 0 (by decide) (hts _ u_666) (fun _ h9 => h9) rfl d_Mod_thrown_1 ?_
  exact hret (nI th) _ _ 4 ls d_Mod_thrown_4 (hP.sub [0] rfl) (hD.sub [0] (by decide) rfl) hS rfl
abbrev rmm_refuse0 : Room := { frames := 0, cells := 0, slots := 0, locals := 0 }
set_option maxHeartbeats 4000000 in
set_option maxRecDepth 100000 in
theorem m_refuse0 (l : Launch) (dC : Nat → ClassId) (dI : Nat → Nat → Nat) (cI : ClassId) (sz : Nat) (m0 : Nat) (a1 : Nat) (a2 : Nat) (a3 : Nat) (a4 : Nat) (a5 : Nat) (a6 : Nat) (a7 : Nat) (a8 : Nat) (a9 : Nat) (th : Nat) (vs : Nat) (bs : Nat) (ch : Nat) (mh : Nat) (me : Nat) (mb : Nat) (mn : Nat) (mw : Nat) (mr : Nat) (es : Nat) (pn : Nat) (ah : Option Nat) (fs : Nat)  : KI l y_Mod_refuse w_Mod_refuse rmm_refuse0 (dC, dI) CL_ [(cI, .int)] sz [.ref m0, .int (bI false), .int (bI false)] [(m0, .inr (7, [.int (nI th), .ref a1, .ref a2, .int (nI vs), .ref a3, .int (nI bs), .int (nI ch), .int (nI mh), .int (nI me), .int (nI mb), .int (nI mn), .ref a4, .ref a5, .int (nI mw), .int (nI mr), .ref a6, .int (nI es), .int (nI pn), .ref a7, .ref a8, .int (oI ah), .ref a9, .int (nI fs)]))] [(m0, .inr (7, [.int (nI 0), .ref a1, .ref a2, .int (nI vs), .ref a3, .int (nI bs), .int (nI ch), .int (nI mh), .int (nI me), .int (nI mb), .int (nI mn), .ref a4, .ref a5, .int (nI mw), .int (nI mr), .ref a6, .int (nI es), .int (nI pn), .ref a7, .ref a8, .int (oI ah), .ref a9, .int (nI fs)]))] (bI false) := by
  refine k_start_z (cc := b_Mod_refuse) (maxL := 3) (by decide) (Nat.le_of_ble_eq_true rfl) ?_
  intro p e s m args below meth c A QQ ls SS hK hP hD hA hl hN hret
  obtain ⟨hx, hb, hml, hown, hts⟩ := id SS
  have hl : lv_has ls 3 [(0, .ref m0), (1, .int (bI false)), (2, .int (bI false))] := hl
  have hS : va_S A s.heap s.heap [] := va_S.rf
  refine lv_aload_n hx hb d_Mod_refuse_0 rfl (lv_at hl 0 rfl) ?_
  refine lv_iload_n hx hb d_Mod_refuse_1 rfl (lv_at hl 1 rfl) ?_
  refine n_if_eqB (tgt := 9) hx hb d_Mod_refuse_2 (by decide) (fun c_2 => ?_) (fun c_2 => ?_)
  · skip
    refine lv_iload_n hx hb d_Mod_refuse_9 rfl (lv_at hl 2 rfl) ?_
    refine n_if_eqB (tgt := 17) hx hb d_Mod_refuse_10 (by decide) (fun c_10 => ?_) (fun c_10 => ?_)
    · skip
      refine lv_iconst (v := nI 0) hx hb d_Mod_refuse_17 (by decide) ?_
      refine va_put (D := (dC, dI)) (ci := 7) (v := .int (nI 0)) (ty := .int) (C := R_Mod) (T := F_Mod) (N := 23) hx hb hts in_Mod ty_Mod tok_Mod nm_Mod hown hK hP hD hS 0 rfl rfl 0 (by decide) (hts _ u_666) (fun _ h9 => h9) rfl (by decide +kernel) rfl rfl (Nat.le_of_ble_eq_true rfl) d_Mod_refuse_18 (fun H locs hP hD hS => ?_)
      have hP : va_P (dC, dI) CL_ [(m0, .inr (7, [.int (nI 0), .ref a1, .ref a2, .int (nI vs), .ref a3, .int (nI bs), .int (nI ch), .int (nI mh), .int (nI me), .int (nI mb), .int (nI mn), .ref a4, .ref a5, .int (nI mw), .int (nI mr), .ref a6, .int (nI es), .int (nI pn), .ref a7, .ref a8, .int (oI ah), .ref a9, .int (nI fs)]))] H := hP
      have hD : va_D A [(m0, .inr (7, [.int (nI 0), .ref a1, .ref a2, .int (nI vs), .ref a3, .int (nI bs), .int (nI ch), .int (nI mh), .int (nI me), .int (nI mb), .int (nI mn), .ref a4, .ref a5, .int (nI mw), .int (nI mr), .ref a6, .int (nI es), .int (nI pn), .ref a7, .ref a8, .int (oI ah), .ref a9, .int (nI fs)]))] := hD
      refine lv_aload_n hx hb d_Mod_refuse_21 rfl (lv_at hl 0 rfl) ?_
      refine va_get (D := (dC, dI)) (ci := 7) (v := .int (nI 0)) (C := R_Mod) (T := F_Mod) (N := 23) hx hb hts in_Mod hown hK hP 0 rfl rfl 0 (by decide) (hts _ u_666) (fun _ h9 => h9) rfl d_Mod_refuse_22 ?_
      refine n_if_le (tgt := 32) hx hb d_Mod_refuse_25 (by decide) (by decide) (fun c_25 => ?_) (fun c_25 => ?_)
      · skip
        refine lv_iconst (v := bI false) hx hb d_Mod_refuse_32 (by decide) ?_
        exact hret false _ _ 33 ls d_Mod_refuse_33 (hP.sub [0] rfl) (hD.sub [0] (by decide) rfl) hS rfl
      · exact absurd c_25 (by decide)
    · exact absurd c_10 (by decide)
  · exact absurd c_2 (by decide)
abbrev rmm_refuse1 : Room := { frames := 0, cells := 0, slots := 0, locals := 0 }
set_option maxHeartbeats 4000000 in
set_option maxRecDepth 100000 in
theorem m_refuse1 (l : Launch) (dC : Nat → ClassId) (dI : Nat → Nat → Nat) (cI : ClassId) (sz : Nat) (m0 : Nat) (a1 : Nat) (a2 : Nat) (a3 : Nat) (a4 : Nat) (a5 : Nat) (a6 : Nat) (a7 : Nat) (a8 : Nat) (a9 : Nat) (th : Nat) (vs : Nat) (bs : Nat) (ch : Nat) (mh : Nat) (me : Nat) (mb : Nat) (mn : Nat) (mw : Nat) (mr : Nat) (es : Nat) (pn : Nat) (ah : Option Nat) (fs : Nat) (tw : Bool)  : KI l y_Mod_refuse w_Mod_refuse rmm_refuse1 (dC, dI) CL_ [(cI, .int)] sz [.ref m0, .int (bI true), .int (bI tw)] [(m0, .inr (7, [.int (nI th), .ref a1, .ref a2, .int (nI vs), .ref a3, .int (nI bs), .int (nI ch), .int (nI mh), .int (nI me), .int (nI mb), .int (nI mn), .ref a4, .ref a5, .int (nI mw), .int (nI mr), .ref a6, .int (nI es), .int (nI pn), .ref a7, .ref a8, .int (oI ah), .ref a9, .int (nI fs)]))] [(m0, .inr (7, [.int (nI 1), .ref a1, .ref a2, .int (nI vs), .ref a3, .int (nI bs), .int (nI ch), .int (nI mh), .int (nI me), .int (nI mb), .int (nI mn), .ref a4, .ref a5, .int (nI mw), .int (nI mr), .ref a6, .int (nI es), .int (nI pn), .ref a7, .ref a8, .int (oI ah), .ref a9, .int (nI fs)]))] (bI true) := by
  refine k_start_z (cc := b_Mod_refuse) (maxL := 3) (by decide) (Nat.le_of_ble_eq_true rfl) ?_
  intro p e s m args below meth c A QQ ls SS hK hP hD hA hl hN hret
  obtain ⟨hx, hb, hml, hown, hts⟩ := id SS
  have hl : lv_has ls 3 [(0, .ref m0), (1, .int (bI true)), (2, .int (bI tw))] := hl
  have hS : va_S A s.heap s.heap [] := va_S.rf
  refine lv_aload_n hx hb d_Mod_refuse_0 rfl (lv_at hl 0 rfl) ?_
  refine lv_iload_n hx hb d_Mod_refuse_1 rfl (lv_at hl 1 rfl) ?_
  refine n_if_eqB (tgt := 9) hx hb d_Mod_refuse_2 (by decide) (fun c_2 => ?_) (fun c_2 => ?_)
  · exact absurd c_2 (by decide)
  · skip
    refine lv_iconst (v := nI 1) hx hb d_Mod_refuse_5 (by decide) ?_
    refine lv_goto (tgt := 18) hx hb d_Mod_refuse_6 (by decide) ?_
    refine va_put (D := (dC, dI)) (ci := 7) (v := .int (nI 1)) (ty := .int) (C := R_Mod) (T := F_Mod) (N := 23) hx hb hts in_Mod ty_Mod tok_Mod nm_Mod hown hK hP hD hS 0 rfl rfl 0 (by decide) (hts _ u_666) (fun _ h9 => h9) rfl (by decide +kernel) rfl rfl (Nat.le_of_ble_eq_true rfl) d_Mod_refuse_18 (fun H locs hP hD hS => ?_)
    have hP : va_P (dC, dI) CL_ [(m0, .inr (7, [.int (nI 1), .ref a1, .ref a2, .int (nI vs), .ref a3, .int (nI bs), .int (nI ch), .int (nI mh), .int (nI me), .int (nI mb), .int (nI mn), .ref a4, .ref a5, .int (nI mw), .int (nI mr), .ref a6, .int (nI es), .int (nI pn), .ref a7, .ref a8, .int (oI ah), .ref a9, .int (nI fs)]))] H := hP
    have hD : va_D A [(m0, .inr (7, [.int (nI 1), .ref a1, .ref a2, .int (nI vs), .ref a3, .int (nI bs), .int (nI ch), .int (nI mh), .int (nI me), .int (nI mb), .int (nI mn), .ref a4, .ref a5, .int (nI mw), .int (nI mr), .ref a6, .int (nI es), .int (nI pn), .ref a7, .ref a8, .int (oI ah), .ref a9, .int (nI fs)]))] := hD
    refine lv_aload_n hx hb d_Mod_refuse_21 rfl (lv_at hl 0 rfl) ?_
    refine va_get (D := (dC, dI)) (ci := 7) (v := .int (nI 1)) (C := R_Mod) (T := F_Mod) (N := 23) hx hb hts in_Mod hown hK hP 0 rfl rfl 0 (by decide) (hts _ u_666) (fun _ h9 => h9) rfl d_Mod_refuse_22 ?_
    refine n_if_le (tgt := 32) hx hb d_Mod_refuse_25 (by decide) (by decide) (fun c_25 => ?_) (fun c_25 => ?_)
    · exact absurd c_25 (by decide)
    · skip
      refine lv_iconst (v := bI true) hx hb d_Mod_refuse_28 (by decide) ?_
      refine lv_goto (tgt := 33) hx hb d_Mod_refuse_29 (by decide) ?_
      exact hret true _ _ 33 ls d_Mod_refuse_33 (hP.sub [0] rfl) (hD.sub [0] (by decide) rfl) hS rfl
abbrev rmm_refuse2 : Room := { frames := 0, cells := 0, slots := 0, locals := 0 }
set_option maxHeartbeats 4000000 in
set_option maxRecDepth 100000 in
theorem m_refuse2 (l : Launch) (dC : Nat → ClassId) (dI : Nat → Nat → Nat) (cI : ClassId) (sz : Nat) (m0 : Nat) (a1 : Nat) (a2 : Nat) (a3 : Nat) (a4 : Nat) (a5 : Nat) (a6 : Nat) (a7 : Nat) (a8 : Nat) (a9 : Nat) (th : Nat) (vs : Nat) (bs : Nat) (ch : Nat) (mh : Nat) (me : Nat) (mb : Nat) (mn : Nat) (mw : Nat) (mr : Nat) (es : Nat) (pn : Nat) (ah : Option Nat) (fs : Nat)  : KI l y_Mod_refuse w_Mod_refuse rmm_refuse2 (dC, dI) CL_ [(cI, .int)] sz [.ref m0, .int (bI false), .int (bI true)] [(m0, .inr (7, [.int (nI th), .ref a1, .ref a2, .int (nI vs), .ref a3, .int (nI bs), .int (nI ch), .int (nI mh), .int (nI me), .int (nI mb), .int (nI mn), .ref a4, .ref a5, .int (nI mw), .int (nI mr), .ref a6, .int (nI es), .int (nI pn), .ref a7, .ref a8, .int (oI ah), .ref a9, .int (nI fs)]))] [(m0, .inr (7, [.int (nI 2), .ref a1, .ref a2, .int (nI vs), .ref a3, .int (nI bs), .int (nI ch), .int (nI mh), .int (nI me), .int (nI mb), .int (nI mn), .ref a4, .ref a5, .int (nI mw), .int (nI mr), .ref a6, .int (nI es), .int (nI pn), .ref a7, .ref a8, .int (oI ah), .ref a9, .int (nI fs)]))] (bI true) := by
  refine k_start_z (cc := b_Mod_refuse) (maxL := 3) (by decide) (Nat.le_of_ble_eq_true rfl) ?_
  intro p e s m args below meth c A QQ ls SS hK hP hD hA hl hN hret
  obtain ⟨hx, hb, hml, hown, hts⟩ := id SS
  have hl : lv_has ls 3 [(0, .ref m0), (1, .int (bI false)), (2, .int (bI true))] := hl
  have hS : va_S A s.heap s.heap [] := va_S.rf
  refine lv_aload_n hx hb d_Mod_refuse_0 rfl (lv_at hl 0 rfl) ?_
  refine lv_iload_n hx hb d_Mod_refuse_1 rfl (lv_at hl 1 rfl) ?_
  refine n_if_eqB (tgt := 9) hx hb d_Mod_refuse_2 (by decide) (fun c_2 => ?_) (fun c_2 => ?_)
  · skip
    refine lv_iload_n hx hb d_Mod_refuse_9 rfl (lv_at hl 2 rfl) ?_
    refine n_if_eqB (tgt := 17) hx hb d_Mod_refuse_10 (by decide) (fun c_10 => ?_) (fun c_10 => ?_)
    · exact absurd c_10 (by decide)
    · skip
      refine lv_iconst (v := nI 2) hx hb d_Mod_refuse_13 (by decide) ?_
      refine lv_goto (tgt := 18) hx hb d_Mod_refuse_14 (by decide) ?_
      refine va_put (D := (dC, dI)) (ci := 7) (v := .int (nI 2)) (ty := .int) (C := R_Mod) (T := F_Mod) (N := 23) hx hb hts in_Mod ty_Mod tok_Mod nm_Mod hown hK hP hD hS 0 rfl rfl 0 (by decide) (hts _ u_666) (fun _ h9 => h9) rfl (by decide +kernel) rfl rfl (Nat.le_of_ble_eq_true rfl) d_Mod_refuse_18 (fun H locs hP hD hS => ?_)
      have hP : va_P (dC, dI) CL_ [(m0, .inr (7, [.int (nI 2), .ref a1, .ref a2, .int (nI vs), .ref a3, .int (nI bs), .int (nI ch), .int (nI mh), .int (nI me), .int (nI mb), .int (nI mn), .ref a4, .ref a5, .int (nI mw), .int (nI mr), .ref a6, .int (nI es), .int (nI pn), .ref a7, .ref a8, .int (oI ah), .ref a9, .int (nI fs)]))] H := hP
      have hD : va_D A [(m0, .inr (7, [.int (nI 2), .ref a1, .ref a2, .int (nI vs), .ref a3, .int (nI bs), .int (nI ch), .int (nI mh), .int (nI me), .int (nI mb), .int (nI mn), .ref a4, .ref a5, .int (nI mw), .int (nI mr), .ref a6, .int (nI es), .int (nI pn), .ref a7, .ref a8, .int (oI ah), .ref a9, .int (nI fs)]))] := hD
      refine lv_aload_n hx hb d_Mod_refuse_21 rfl (lv_at hl 0 rfl) ?_
      refine va_get (D := (dC, dI)) (ci := 7) (v := .int (nI 2)) (C := R_Mod) (T := F_Mod) (N := 23) hx hb hts in_Mod hown hK hP 0 rfl rfl 0 (by decide) (hts _ u_666) (fun _ h9 => h9) rfl d_Mod_refuse_22 ?_
      refine n_if_le (tgt := 32) hx hb d_Mod_refuse_25 (by decide) (by decide) (fun c_25 => ?_) (fun c_25 => ?_)
      · exact absurd c_25 (by decide)
      · skip
        refine lv_iconst (v := bI true) hx hb d_Mod_refuse_28 (by decide) ?_
        refine lv_goto (tgt := 33) hx hb d_Mod_refuse_29 (by decide) ?_
        exact hret true _ _ 33 ls d_Mod_refuse_33 (hP.sub [0] rfl) (hD.sub [0] (by decide) rfl) hS rfl
  · exact absurd c_2 (by decide)
abbrev rmm_sumAt : Room := { frames := 0, cells := 0, slots := 0, locals := 0 }
set_option maxHeartbeats 4000000 in
set_option maxRecDepth 100000 in
theorem m_sumAt (l : Launch) (dC : Nat → ClassId) (dI : Nat → Nat → Nat) (cI : ClassId) (sz : Nat) (m0 : Nat) (a1 : Nat) (a2 : Nat) (a3 : Nat) (a4 : Nat) (a5 : Nat) (a6 : Nat) (a7 : Nat) (a8 : Nat) (a9 : Nat) (th : Nat) (vs : Nat) (bs : Nat) (ch : Nat) (mh : Nat) (me : Nat) (mb : Nat) (mn : Nat) (mw : Nat) (mr : Nat) (es : Nat) (pn : Nat) (ah : Option Nat) (fs : Nat) (dd : Nat → Nat) (o : Nat) (ho : o + 32 ≤ 6144) : KI l y_Mod_sumAt w_Mod_sumAt rmm_sumAt (dC, dI) CL_ [(cI, .int)] sz [.ref m0, .int (nI o)] [(m0, .inr (7, [.int (nI th), .ref a1, .ref a2, .int (nI vs), .ref a3, .int (nI bs), .int (nI ch), .int (nI mh), .int (nI me), .int (nI mb), .int (nI mn), .ref a4, .ref a5, .int (nI mw), .int (nI mr), .ref a6, .int (nI es), .int (nI pn), .ref a7, .ref a8, .int (oI ah), .ref a9, .int (nI fs)])), (a1, .inl (cI, 6144, .inl (nA dd)))] [(m0, .inr (7, [.int (nI th), .ref a1, .ref a2, .int (nI vs), .ref a3, .int (nI bs), .int (nI ch), .int (nI mh), .int (nI me), .int (nI mb), .int (nI mn), .ref a4, .ref a5, .int (nI mw), .int (nI mr), .ref a6, .int (nI es), .int (nI pn), .ref a7, .ref a8, .int (oI ah), .ref a9, .int (nI fs)])), (a1, .inl (cI, 6144, .inl (nA dd)))] (nI (sumN dd o)) := by
  refine k_start_i (cc := b_Mod_sumAt) (maxL := 4) (by decide) (Nat.le_of_ble_eq_true rfl) ?_
  intro p e s m args below meth c A QQ ls SS hK hP hD hA hl hN hret
  obtain ⟨hx, hb, hml, hown, hts⟩ := id SS
  have hl : lv_has ls 4 [(0, .ref m0), (1, .int (nI o))] := hl
  have hS : va_S A s.heap s.heap [] := va_S.rf
  refine lv_iconst (v := nI 0) hx hb d_Mod_sumAt_0 (by decide) ?_
  refine lv_istore_n (lv' := [(2, .int (nI 0)), (0, .ref m0), (1, .int (nI o))]) hx hb d_Mod_sumAt_1 rfl hl (by decide) rfl (fun ls hl => ?_)
  refine lv_iconst (v := nI 0) hx hb d_Mod_sumAt_2 (by decide) ?_
  refine lv_istore_n (lv' := [(3, .int (nI 0)), (2, .int (nI 0)), (0, .ref m0), (1, .int (nI o))]) hx hb d_Mod_sumAt_3 rfl hl (by decide) rfl (fun ls hl => ?_)
  have loop_4 : ∀ (n_ : Nat) (k : Nat), (k ≤ 32) → (33 ≤ k + n_) → ∀ (H : Heap) (locs : List Loc) (ls : Array Slot), va_P (dC, dI) CL_ [(m0, .inr (7, [.int (nI th), .ref a1, .ref a2, .int (nI vs), .ref a3, .int (nI bs), .int (nI ch), .int (nI mh), .int (nI me), .int (nI mb), .int (nI mn), .ref a4, .ref a5, .int (nI mw), .int (nI mr), .ref a6, .int (nI es), .int (nI pn), .ref a7, .ref a8, .int (oI ah), .ref a9, .int (nI fs)])), (a1, .inl (cI, 6144, .inl (nA dd)))] H → va_D A [(m0, .inr (7, [.int (nI th), .ref a1, .ref a2, .int (nI vs), .ref a3, .int (nI bs), .int (nI ch), .int (nI mh), .int (nI me), .int (nI mb), .int (nI mn), .ref a4, .ref a5, .int (nI mw), .int (nI mr), .ref a6, .int (nI es), .int (nI pn), .ref a7, .ref a8, .int (oI ah), .ref a9, .int (nI fs)])), (a1, .inl (cI, 6144, .inl (nA dd)))] → va_S A s.heap H locs → lv_has ls 4 [(0, .ref m0), (1, .int (nI o)), (2, .int (nI (sumTo dd o k))), (3, .int (nI k))] → W p l e rmm_sumAt s m args below meth c H locs 0 0 QQ (F0 m 4 ls []) := by
    intro n_
    induction n_ with
    | zero =>
      intro k hk hf
      exact absurd hf (by omega)
    | succ n_ ih =>
      intro k hk hf H locs ls hP hD hS hl
      refine lv_iload_n hx hb d_Mod_sumAt_4 rfl (lv_at hl 3 rfl) ?_
      refine lv_bipush (v := nI 32) hx hb d_Mod_sumAt_5 (by decide) ?_
      refine n_icmp_ge (tgt := 40) hx hb d_Mod_sumAt_7 (by decide) (by omega) (by omega) (fun c_7 => ?_) (fun c_7 => ?_)
      · skip
        have hq : k = 32 := by omega
        refine lv_iload_n hx hb d_Mod_sumAt_40 rfl (lv_at hl 2 rfl) ?_
        refine lv_sipush (v := nI 255) hx hb d_Mod_sumAt_41 (by decide) ?_
        refine n_iandm hx hb d_Mod_sumAt_44 ?_
        exact hret (nI ((sumTo dd o k) % 256)) _ _ 45 ls d_Mod_sumAt_45 (hP.sub [0, 1] rfl) (hD.sub [0, 1] (by decide) rfl) hS (by rw [hq]; rfl)
      · skip
        refine lv_iload_n hx hb d_Mod_sumAt_10 rfl (lv_at hl 2 rfl) ?_
        refine lv_iload_n hx hb d_Mod_sumAt_11 rfl (lv_at hl 3 rfl) ?_
        refine lv_iconst (v := nI 3) hx hb d_Mod_sumAt_12 (by decide) ?_
        refine n_icmp_ne (tgt := 20) hx hb d_Mod_sumAt_13 (by decide) (by omega) (by omega) (fun c_13 => ?_) (fun c_13 => ?_)
        · skip
          refine lv_aload_n hx hb d_Mod_sumAt_20 rfl (lv_at hl 0 rfl) ?_
          refine va_get (D := (dC, dI)) (ci := 7) (v := .ref a1) (C := R_Mod) (T := F_Mod) (N := 23) hx hb hts in_Mod hown hK hP 0 rfl rfl 1 (by decide) (hts _ u_667) (fun _ h9 => h9) rfl d_Mod_sumAt_21 ?_
          refine lv_iload_n hx hb d_Mod_sumAt_24 rfl (lv_at hl 1 rfl) ?_
          refine lv_iload_n hx hb d_Mod_sumAt_25 rfl (lv_at hl 3 rfl) ?_
          refine n_iadd hx hb d_Mod_sumAt_26 ?_
          refine n_iald (v := nI (dd (o + k))) hx hb hK hP 1 0 rfl rfl rfl (by omega) (by omega) d_Mod_sumAt_27 ?_
          refine lv_iload_n hx hb d_Mod_sumAt_28 rfl (lv_at hl 3 rfl) ?_
          refine lv_iconst (v := nI 1) hx hb d_Mod_sumAt_29 (by decide) ?_
          refine n_iadd hx hb d_Mod_sumAt_30 ?_
          refine n_imul hx hb d_Mod_sumAt_31 ?_
          refine top_i (nI (if k = 3 then 0 else dd (o + k) * (k + 1))) (by first | rw [if_pos c_13] | rw [if_neg c_13]) ?_
          refine n_iadd hx hb d_Mod_sumAt_32 ?_
          refine lv_istore_n (lv' := [(2, .int (nI ((sumTo dd o k) + (if k = 3 then 0 else dd (o + k) * (k + 1))))), (0, .ref m0), (1, .int (nI o)), (3, .int (nI k))]) hx hb d_Mod_sumAt_33 rfl hl (by decide) rfl (fun ls hl => ?_)
          refine lv_iinc (v := nI (k + 1)) (lv' := [(3, .int (nI (k + 1))), (2, .int (nI ((sumTo dd o k) + (if k = 3 then 0 else dd (o + k) * (k + 1))))), (0, .ref m0), (1, .int (nI o))]) hx hb d_Mod_sumAt_34 hl (k := 3) rfl (inc1 k) (by decide) rfl (fun ls hl => ?_)
          refine lv_goto (tgt := 4) hx hb d_Mod_sumAt_37 (by decide) ?_
          exact ih (k + 1) (by omega) (by omega) _ _ _ (hP.sub [0, 1] rfl) (hD.sub [0, 1] (by decide) rfl) hS (lv_sub hl [2, 3, 1, 0] rfl)
        · skip
          refine lv_iconst (v := nI 0) hx hb d_Mod_sumAt_16 (by decide) ?_
          refine lv_goto (tgt := 32) hx hb d_Mod_sumAt_17 (by decide) ?_
          refine top_i (nI (if k = 3 then 0 else dd (o + k) * (k + 1))) (by first | rw [if_pos c_13] | rw [if_neg c_13]) ?_
          refine n_iadd hx hb d_Mod_sumAt_32 ?_
          refine lv_istore_n (lv' := [(2, .int (nI ((sumTo dd o k) + (if k = 3 then 0 else dd (o + k) * (k + 1))))), (0, .ref m0), (1, .int (nI o)), (3, .int (nI k))]) hx hb d_Mod_sumAt_33 rfl hl (by decide) rfl (fun ls hl => ?_)
          refine lv_iinc (v := nI (k + 1)) (lv' := [(3, .int (nI (k + 1))), (2, .int (nI ((sumTo dd o k) + (if k = 3 then 0 else dd (o + k) * (k + 1))))), (0, .ref m0), (1, .int (nI o))]) hx hb d_Mod_sumAt_34 hl (k := 3) rfl (inc1 k) (by decide) rfl (fun ls hl => ?_)
          refine lv_goto (tgt := 4) hx hb d_Mod_sumAt_37 (by decide) ?_
          exact ih (k + 1) (by omega) (by omega) _ _ _ (hP.sub [0, 1] rfl) (hD.sub [0, 1] (by decide) rfl) hS (lv_sub hl [2, 3, 1, 0] rfl)
  exact loop_4 33 0 (by omega) (by omega) _ _ _ (hP.sub [0, 1] rfl) (hD.sub [0, 1] (by decide) rfl) hS (lv_sub hl [2, 3, 1, 0] rfl)
abbrev rmm_epochAt : Room := { frames := 0, cells := 0, slots := 0, locals := 0 }
set_option maxHeartbeats 4000000 in
set_option maxRecDepth 100000 in
theorem m_epochAt (l : Launch) (dC : Nat → ClassId) (dI : Nat → Nat → Nat) (cI : ClassId) (sz : Nat) (m0 : Nat) (a1 : Nat) (a2 : Nat) (a3 : Nat) (a4 : Nat) (a5 : Nat) (a6 : Nat) (a7 : Nat) (a8 : Nat) (a9 : Nat) (th : Nat) (vs : Nat) (bs : Nat) (ch : Nat) (mh : Nat) (me : Nat) (mb : Nat) (mn : Nat) (mw : Nat) (mr : Nat) (es : Nat) (pn : Nat) (ah : Option Nat) (fs : Nat) (dd : Nat → Nat) (o : Nat) (ho : o + 1 < 6144) : KI l y_Mod_epochAt w_Mod_epochAt rmm_epochAt (dC, dI) CL_ [(cI, .int)] sz [.ref m0, .int (nI o)] [(m0, .inr (7, [.int (nI th), .ref a1, .ref a2, .int (nI vs), .ref a3, .int (nI bs), .int (nI ch), .int (nI mh), .int (nI me), .int (nI mb), .int (nI mn), .ref a4, .ref a5, .int (nI mw), .int (nI mr), .ref a6, .int (nI es), .int (nI pn), .ref a7, .ref a8, .int (oI ah), .ref a9, .int (nI fs)])), (a1, .inl (cI, 6144, .inl (nA dd)))] [(m0, .inr (7, [.int (nI th), .ref a1, .ref a2, .int (nI vs), .ref a3, .int (nI bs), .int (nI ch), .int (nI mh), .int (nI me), .int (nI mb), .int (nI mn), .ref a4, .ref a5, .int (nI mw), .int (nI mr), .ref a6, .int (nI es), .int (nI pn), .ref a7, .ref a8, .int (oI ah), .ref a9, .int (nI fs)])), (a1, .inl (cI, 6144, .inl (nA dd)))] (nI (pairN dd o)) := by
  refine k_start_i (cc := b_Mod_epochAt) (maxL := 2) (by decide) (Nat.le_of_ble_eq_true rfl) ?_
  intro p e s m args below meth c A QQ ls SS hK hP hD hA hl hN hret
  obtain ⟨hx, hb, hml, hown, hts⟩ := id SS
  have hl : lv_has ls 2 [(0, .ref m0), (1, .int (nI o))] := hl
  have hS : va_S A s.heap s.heap [] := va_S.rf
  refine lv_aload_n hx hb d_Mod_epochAt_0 rfl (lv_at hl 0 rfl) ?_
  refine va_get (D := (dC, dI)) (ci := 7) (v := .ref a1) (C := R_Mod) (T := F_Mod) (N := 23) hx hb hts in_Mod hown hK hP 0 rfl rfl 1 (by decide) (hts _ u_667) (fun _ h9 => h9) rfl d_Mod_epochAt_1 ?_
  refine lv_iload_n hx hb d_Mod_epochAt_4 rfl (lv_at hl 1 rfl) ?_
  refine n_iald (v := nI (dd o)) hx hb hK hP 1 0 rfl rfl rfl (by omega) (by omega) d_Mod_epochAt_5 ?_
  refine lv_sipush (v := nI 256) hx hb d_Mod_epochAt_6 (by decide) ?_
  refine lv_aload_n hx hb d_Mod_epochAt_9 rfl (lv_at hl 0 rfl) ?_
  refine va_get (D := (dC, dI)) (ci := 7) (v := .ref a1) (C := R_Mod) (T := F_Mod) (N := 23) hx hb hts in_Mod hown hK hP 0 rfl rfl 1 (by decide) (hts _ u_667) (fun _ h9 => h9) rfl d_Mod_epochAt_10 ?_
  refine lv_iload_n hx hb d_Mod_epochAt_13 rfl (lv_at hl 1 rfl) ?_
  refine lv_iconst (v := nI 1) hx hb d_Mod_epochAt_14 (by decide) ?_
  refine n_iadd hx hb d_Mod_epochAt_15 ?_
  refine n_iald (v := nI (dd (o + 1))) hx hb hK hP 1 0 rfl rfl rfl (by omega) (by omega) d_Mod_epochAt_16 ?_
  refine n_imul hx hb d_Mod_epochAt_17 ?_
  refine n_iadd hx hb d_Mod_epochAt_18 ?_
  refine top_i (nI (pairN dd o)) (by rw [Nat.mul_comm 256]; rfl) ?_
  exact hret (nI (pairN dd o)) _ _ 19 ls d_Mod_epochAt_19 (hP.sub [0, 1] rfl) (hD.sub [0, 1] (by decide) rfl) hS rfl
abbrev rmm_counts : Room := { frames := 1, cells := 0, slots := 0, locals := 23 }
set_option maxHeartbeats 4000000 in
set_option maxRecDepth 100000 in
theorem m_counts (l : Launch) (dC : Nat → ClassId) (dI : Nat → Nat → Nat) (cI : ClassId) (sz : Nat) (m0 : Nat) (a1 : Nat) (a2 : Nat) (a3 : Nat) (a4 : Nat) (a5 : Nat) (a6 : Nat) (a7 : Nat) (a8 : Nat) (a9 : Nat) (th : Nat) (vs : Nat) (bs : Nat) (ch : Nat) (mh : Nat) (me : Nat) (mb : Nat) (mn : Nat) (mw : Nat) (mr : Nat) (es : Nat) (pn : Nat) (ah : Option Nat) (fs : Nat) (dd : Nat → Nat) (its : Nat) (hi1 : its ≤ 1) (hdd : ∀ j, dd j < 256) : KI l y_Mod_counts w_Mod_counts rmm_counts (dC, dI) CL_ [(cI, .int)] sz [.ref m0, .int (nI its)] [(m0, .inr (7, [.int (nI th), .ref a1, .ref a2, .int (nI vs), .ref a3, .int (nI bs), .int (nI ch), .int (nI mh), .int (nI me), .int (nI mb), .int (nI mn), .ref a4, .ref a5, .int (nI mw), .int (nI mr), .ref a6, .int (nI es), .int (nI pn), .ref a7, .ref a8, .int (oI ah), .ref a9, .int (nI fs)])), (a1, .inl (cI, 6144, .inl (nA dd)))] [(m0, .inr (7, [.int (nI th), .ref a1, .ref a2, .int (nI vs), .ref a3, .int (nI bs), .int (nI ch), .int (nI mh), .int (nI me), .int (nI mb), .int (nI mn), .ref a4, .ref a5, .int (nI mw), .int (nI mr), .ref a6, .int (nI es), .int (nI pn), .ref a7, .ref a8, .int (oI ah), .ref a9, .int (nI fs)])), (a1, .inl (cI, 6144, .inl (nA dd)))] (bI (isHeadN dd (3072 * its))) := by
  refine k_start_z (cc := b_Mod_counts) (maxL := 5) (by decide) (Nat.le_of_ble_eq_true rfl) ?_
  intro p e s m args below meth c A QQ ls SS hK hP hD hA hl hN hret
  obtain ⟨hx, hb, hml, hown, hts⟩ := id SS
  have hl : lv_has ls 5 [(0, .ref m0), (1, .int (nI its))] := hl
  have hS : va_S A s.heap s.heap [] := va_S.rf
  refine lv_sipush (v := nI 3072) hx hb d_Mod_counts_0 (by decide) ?_
  refine lv_iload_n hx hb d_Mod_counts_3 rfl (lv_at hl 1 rfl) ?_
  refine n_imul hx hb d_Mod_counts_4 ?_
  refine lv_istore_n (lv' := [(2, .int (nI (3072 * its))), (0, .ref m0), (1, .int (nI its))]) hx hb d_Mod_counts_5 rfl hl (by decide) rfl (fun ls hl => ?_)
  refine lv_iconst (v := bI true) hx hb d_Mod_counts_6 (by decide) ?_
  refine lv_istore_n (lv' := [(3, .int (bI true)), (2, .int (nI (3072 * its))), (0, .ref m0), (1, .int (nI its))]) hx hb d_Mod_counts_7 rfl hl (by decide) rfl (fun ls hl => ?_)
  refine lv_iconst (v := nI 4) hx hb d_Mod_counts_8 (by decide) ?_
  refine lv_istore (lv' := [(4, .int (nI 4)), (3, .int (bI true)), (2, .int (nI (3072 * its))), (0, .ref m0), (1, .int (nI its))]) hx hb d_Mod_counts_9 hl (by decide) rfl (fun ls hl => ?_)
  have loop_11 : ∀ (n_ : Nat) (i : Nat) (rest : Bool), (4 ≤ i) → (i ≤ 32) → (33 ≤ i + n_) → (rest = cD (∀ j, j < i → 4 ≤ j → dd (3072 * its + j) = 0)) → ∀ (H : Heap) (locs : List Loc) (ls : Array Slot), va_P (dC, dI) CL_ [(m0, .inr (7, [.int (nI th), .ref a1, .ref a2, .int (nI vs), .ref a3, .int (nI bs), .int (nI ch), .int (nI mh), .int (nI me), .int (nI mb), .int (nI mn), .ref a4, .ref a5, .int (nI mw), .int (nI mr), .ref a6, .int (nI es), .int (nI pn), .ref a7, .ref a8, .int (oI ah), .ref a9, .int (nI fs)])), (a1, .inl (cI, 6144, .inl (nA dd)))] H → va_D A [(m0, .inr (7, [.int (nI th), .ref a1, .ref a2, .int (nI vs), .ref a3, .int (nI bs), .int (nI ch), .int (nI mh), .int (nI me), .int (nI mb), .int (nI mn), .ref a4, .ref a5, .int (nI mw), .int (nI mr), .ref a6, .int (nI es), .int (nI pn), .ref a7, .ref a8, .int (oI ah), .ref a9, .int (nI fs)])), (a1, .inl (cI, 6144, .inl (nA dd)))] → va_S A s.heap H locs → lv_has ls 5 [(0, .ref m0), (1, .int (nI its)), (2, .int (nI (3072 * its))), (3, .int (bI rest)), (4, .int (nI i))] → W p l e rmm_counts s m args below meth c H locs 0 0 QQ (F0 m 11 ls []) := by
    intro n_
    induction n_ with
    | zero =>
      intro i rest h4 hi hf hrest
      exact absurd hf (by omega)
    | succ n_ ih =>
      intro i rest h4 hi hf hrest H locs ls hP hD hS hl
      refine lv_iload hx hb d_Mod_counts_11 (lv_at hl 4 rfl) ?_
      refine lv_bipush (v := nI 32) hx hb d_Mod_counts_13 (by decide) ?_
      refine n_icmp_ge (tgt := 46) hx hb d_Mod_counts_15 (by decide) (by omega) (by omega) (fun c_15 => ?_) (fun c_15 => ?_)
      · skip
        refine lv_iload_n hx hb d_Mod_counts_46 rfl (lv_at hl 3 rfl) ?_
        refine n_if_eqB (tgt := 83) hx hb d_Mod_counts_47 (by decide) (fun c_47 => ?_) (fun c_47 => ?_)
        · skip
          refine lv_iconst (v := bI false) hx hb d_Mod_counts_83 (by decide) ?_
          exact hret false _ _ 84 ls d_Mod_counts_84 (hP.sub [0, 1] rfl) (hD.sub [0, 1] (by decide) rfl) hS ((cD_f (fun q => cD_of (hrest.symm.trans c_47) (fun j h1 h2 => q.1 j (by omega) h2))).symm)
        · skip
          refine lv_aload_n hx hb d_Mod_counts_50 rfl (lv_at hl 0 rfl) ?_
          refine va_get (D := (dC, dI)) (ci := 7) (v := .ref a1) (C := R_Mod) (T := F_Mod) (N := 23) hx hb hts in_Mod hown hK hP 0 rfl rfl 1 (by decide) (hts _ u_667) (fun _ h9 => h9) rfl d_Mod_counts_51 ?_
          refine lv_iload_n hx hb d_Mod_counts_54 rfl (lv_at hl 2 rfl) ?_
          refine lv_iconst (v := nI 2) hx hb d_Mod_counts_55 (by decide) ?_
          refine n_iadd hx hb d_Mod_counts_56 ?_
          refine n_iald (v := nI (dd ((3072 * its) + 2))) hx hb hK hP 1 0 rfl rfl rfl (by omega) (by omega) d_Mod_counts_57 ?_
          refine lv_bipush (v := nI 72) hx hb d_Mod_counts_58 (by decide) ?_
          refine n_icmp_ne (tgt := 83) hx hb d_Mod_counts_60 (by decide) (by have := hdd (3072 * its + 2); omega) (by omega) (fun c_60 => ?_) (fun c_60 => ?_)
          · skip
            refine lv_iconst (v := bI false) hx hb d_Mod_counts_83 (by decide) ?_
            exact hret false _ _ 84 ls d_Mod_counts_84 (hP.sub [0, 1] rfl) (hD.sub [0, 1] (by decide) rfl) hS ((cD_f (fun q => c_60 q.2.1)).symm)
          · skip
            refine lv_aload_n hx hb d_Mod_counts_63 rfl (lv_at hl 0 rfl) ?_
            refine va_get (D := (dC, dI)) (ci := 7) (v := .ref a1) (C := R_Mod) (T := F_Mod) (N := 23) hx hb hts in_Mod hown hK hP 0 rfl rfl 1 (by decide) (hts _ u_667) (fun _ h9 => h9) rfl d_Mod_counts_64 ?_
            refine lv_iload_n hx hb d_Mod_counts_67 rfl (lv_at hl 2 rfl) ?_
            refine lv_iconst (v := nI 3) hx hb d_Mod_counts_68 (by decide) ?_
            refine n_iadd hx hb d_Mod_counts_69 ?_
            refine n_iald (v := nI (dd ((3072 * its) + 3))) hx hb hK hP 1 0 rfl rfl rfl (by omega) (by omega) d_Mod_counts_70 ?_
            refine lv_aload_n hx hb d_Mod_counts_71 rfl (lv_at hl 0 rfl) ?_
            refine lv_iload_n hx hb d_Mod_counts_72 rfl (lv_at hl 2 rfl) ?_
            refine kj_i (wr := []) (va_runV (As := [.int (nI (3072 * its))]) (rest := [.int (nI (dd ((3072 * its) + 3)))]) SS (m_sumAt l dC dI cI H.size m0 a1 a2 a3 a4 a5 a6 a7 a8 a9 th vs bs ch mh me mb mn mw mr es pn ah fs dd (3072 * its) (by omega)) (k_cwV 1 hts u_634 u_636 u_17 u_43 u_637 rfl rfl (by decide +kernel) ⟨Nat.le_of_ble_eq_true rfl, Nat.le_of_ble_eq_true rfl⟩) (kp_V hN hK [0] rfl hP hD [0, 1] rfl (by decide) (ci := 7) rfl 0 rfl) rfl rfl hl.1 rfl (lv_room (Nat.le_of_ble_eq_true rfl)) d_Mod_counts_73 ⟨Nat.le_of_ble_eq_true rfl, Nat.le_of_ble_eq_true rfl⟩) hP hD hS hA [0, 1] [] rfl rfl (by decide) (by decide) (fun H locs hP hD hS => ?_)
            have hP : va_P (dC, dI) CL_ [(m0, .inr (7, [.int (nI th), .ref a1, .ref a2, .int (nI vs), .ref a3, .int (nI bs), .int (nI ch), .int (nI mh), .int (nI me), .int (nI mb), .int (nI mn), .ref a4, .ref a5, .int (nI mw), .int (nI mr), .ref a6, .int (nI es), .int (nI pn), .ref a7, .ref a8, .int (oI ah), .ref a9, .int (nI fs)])), (a1, .inl (cI, 6144, .inl (nA dd)))] H := hP
            have hD : va_D A [(m0, .inr (7, [.int (nI th), .ref a1, .ref a2, .int (nI vs), .ref a3, .int (nI bs), .int (nI ch), .int (nI mh), .int (nI me), .int (nI mb), .int (nI mn), .ref a4, .ref a5, .int (nI mw), .int (nI mr), .ref a6, .int (nI es), .int (nI pn), .ref a7, .ref a8, .int (oI ah), .ref a9, .int (nI fs)])), (a1, .inl (cI, 6144, .inl (nA dd)))] := hD
            refine n_icmp_ne (tgt := 83) hx hb d_Mod_counts_76 (by decide) (by have := hdd (3072 * its + 3); omega) (by have := sumN_b dd (3072 * its); omega) (fun c_76 => ?_) (fun c_76 => ?_)
            · skip
              refine lv_iconst (v := bI false) hx hb d_Mod_counts_83 (by decide) ?_
              exact hret false _ _ 84 ls d_Mod_counts_84 (hP.sub [0, 1] rfl) (hD.sub [0, 1] (by decide) rfl) hS ((cD_f (fun q => c_76 q.2.2)).symm)
            · skip
              refine lv_iconst (v := bI true) hx hb d_Mod_counts_79 (by decide) ?_
              refine lv_goto (tgt := 84) hx hb d_Mod_counts_80 (by decide) ?_
              exact hret true _ _ 84 ls d_Mod_counts_84 (hP.sub [0, 1] rfl) (hD.sub [0, 1] (by decide) rfl) hS ((cD_t ⟨fun j h1 h2 => cD_ot (hrest.symm.trans c_47) j (by omega) h2, c_60, c_76⟩).symm)
      · skip
        refine lv_iload_n hx hb d_Mod_counts_18 rfl (lv_at hl 3 rfl) ?_
        refine n_if_eqB (tgt := 38) hx hb d_Mod_counts_19 (by decide) (fun c_19 => ?_) (fun c_19 => ?_)
        · skip
          refine lv_iconst (v := bI false) hx hb d_Mod_counts_38 (by decide) ?_
          refine lv_istore_n (lv' := [(3, .int (bI false)), (0, .ref m0), (1, .int (nI its)), (2, .int (nI (3072 * its))), (4, .int (nI i))]) hx hb d_Mod_counts_39 rfl hl (by decide) rfl (fun ls hl => ?_)
          refine lv_iinc (v := nI (i + 1)) (lv' := [(4, .int (nI (i + 1))), (3, .int (bI false)), (0, .ref m0), (1, .int (nI its)), (2, .int (nI (3072 * its)))]) hx hb d_Mod_counts_40 hl (k := 4) rfl (inc1 i) (by decide) rfl (fun ls hl => ?_)
          refine lv_goto (tgt := 11) hx hb d_Mod_counts_43 (by decide) ?_
          exact ih (i + 1) false (by omega) (by omega) (by omega) (cD_f (fun q => cD_of (hrest.symm.trans c_19) (fun j h1 h2 => q j (by omega) h2))).symm _ _ _ (hP.sub [0, 1] rfl) (hD.sub [0, 1] (by decide) rfl) hS (lv_sub hl [2, 3, 4, 1, 0] rfl)
        · skip
          refine lv_aload_n hx hb d_Mod_counts_22 rfl (lv_at hl 0 rfl) ?_
          refine va_get (D := (dC, dI)) (ci := 7) (v := .ref a1) (C := R_Mod) (T := F_Mod) (N := 23) hx hb hts in_Mod hown hK hP 0 rfl rfl 1 (by decide) (hts _ u_667) (fun _ h9 => h9) rfl d_Mod_counts_23 ?_
          refine lv_iload_n hx hb d_Mod_counts_26 rfl (lv_at hl 2 rfl) ?_
          refine lv_iload hx hb d_Mod_counts_27 (lv_at hl 4 rfl) ?_
          refine n_iadd hx hb d_Mod_counts_29 ?_
          refine n_iald (v := nI (dd ((3072 * its) + i))) hx hb hK hP 1 0 rfl rfl rfl (by omega) (by omega) d_Mod_counts_30 ?_
          refine n_if_ne (tgt := 38) hx hb d_Mod_counts_31 (by decide) (by have := hdd (3072 * its + i); omega) (fun c_31 => ?_) (fun c_31 => ?_)
          · skip
            refine lv_iconst (v := bI false) hx hb d_Mod_counts_38 (by decide) ?_
            refine lv_istore_n (lv' := [(3, .int (bI false)), (0, .ref m0), (1, .int (nI its)), (2, .int (nI (3072 * its))), (4, .int (nI i))]) hx hb d_Mod_counts_39 rfl hl (by decide) rfl (fun ls hl => ?_)
            refine lv_iinc (v := nI (i + 1)) (lv' := [(4, .int (nI (i + 1))), (3, .int (bI false)), (0, .ref m0), (1, .int (nI its)), (2, .int (nI (3072 * its)))]) hx hb d_Mod_counts_40 hl (k := 4) rfl (inc1 i) (by decide) rfl (fun ls hl => ?_)
            refine lv_goto (tgt := 11) hx hb d_Mod_counts_43 (by decide) ?_
            exact ih (i + 1) false (by omega) (by omega) (by omega) (cD_f (fun q => c_31 (q i (by omega) h4))).symm _ _ _ (hP.sub [0, 1] rfl) (hD.sub [0, 1] (by decide) rfl) hS (lv_sub hl [2, 3, 4, 1, 0] rfl)
          · skip
            refine lv_iconst (v := bI true) hx hb d_Mod_counts_34 (by decide) ?_
            refine lv_goto (tgt := 39) hx hb d_Mod_counts_35 (by decide) ?_
            refine lv_istore_n (lv' := [(3, .int (bI true)), (0, .ref m0), (1, .int (nI its)), (2, .int (nI (3072 * its))), (4, .int (nI i))]) hx hb d_Mod_counts_39 rfl hl (by decide) rfl (fun ls hl => ?_)
            refine lv_iinc (v := nI (i + 1)) (lv' := [(4, .int (nI (i + 1))), (3, .int (bI true)), (0, .ref m0), (1, .int (nI its)), (2, .int (nI (3072 * its)))]) hx hb d_Mod_counts_40 hl (k := 4) rfl (inc1 i) (by decide) rfl (fun ls hl => ?_)
            refine lv_goto (tgt := 11) hx hb d_Mod_counts_43 (by decide) ?_
            exact ih (i + 1) true (by omega) (by omega) (by omega) (cD_t (fun j h1 h2 => by by_cases hj : j = i; (· rw [hj]; exact c_31); (· exact cD_ot (hrest.symm.trans c_19) j (by omega) h2))).symm _ _ _ (hP.sub [0, 1] rfl) (hD.sub [0, 1] (by decide) rfl) hS (lv_sub hl [2, 3, 4, 1, 0] rfl)
  exact loop_11 29 4 true (by omega) (by omega) (by omega) (cD_t (fun j h1 h2 => absurd h1 (by omega))).symm _ _ _ (hP.sub [0, 1] rfl) (hD.sub [0, 1] (by decide) rfl) hS (lv_sub hl [3, 4, 2, 1, 0] rfl)
abbrev rmm_isRight : Room := { frames := 1, cells := 0, slots := 0, locals := 23 }
set_option maxHeartbeats 4000000 in
set_option maxRecDepth 100000 in
theorem m_isRight (l : Launch) (dC : Nat → ClassId) (dI : Nat → Nat → Nat) (cI : ClassId) (sz : Nat) (m0 : Nat) (a1 : Nat) (a2 : Nat) (a3 : Nat) (a4 : Nat) (a5 : Nat) (a6 : Nat) (a7 : Nat) (a8 : Nat) (a9 : Nat) (th : Nat) (vs : Nat) (bs : Nat) (ch : Nat) (mh : Nat) (me : Nat) (mb : Nat) (mn : Nat) (mw : Nat) (mr : Nat) (es : Nat) (pn : Nat) (ah : Option Nat) (fs : Nat) (dd : Nat → Nat) (b : Nat) (fi : Bool) (hmh : mh ≤ 1) (hb9 : b ≤ 95) (hme : me < 65536) (hdd : ∀ j, dd j < 256) : KI l y_Mod_isRight w_Mod_isRight rmm_isRight (dC, dI) CL_ [(cI, .int)] sz [.ref m0, .int (nI b), .int (bI fi)] [(m0, .inr (7, [.int (nI th), .ref a1, .ref a2, .int (nI vs), .ref a3, .int (nI bs), .int (nI ch), .int (nI mh), .int (nI me), .int (nI mb), .int (nI mn), .ref a4, .ref a5, .int (nI mw), .int (nI mr), .ref a6, .int (nI es), .int (nI pn), .ref a7, .ref a8, .int (oI ah), .ref a9, .int (nI fs)])), (a1, .inl (cI, 6144, .inl (nA dd)))] [(m0, .inr (7, [.int (nI th), .ref a1, .ref a2, .int (nI vs), .ref a3, .int (nI bs), .int (nI ch), .int (nI mh), .int (nI me), .int (nI mb), .int (nI mn), .ref a4, .ref a5, .int (nI mw), .int (nI mr), .ref a6, .int (nI es), .int (nI pn), .ref a7, .ref a8, .int (oI ah), .ref a9, .int (nI fs)])), (a1, .inl (cI, 6144, .inl (nA dd)))] (bI (rightN dd (mO mh b) b me fi)) := by
  refine k_start_z (cc := b_Mod_isRight) (maxL := 6) (by decide) (Nat.le_of_ble_eq_true rfl) ?_
  intro p e s m args below meth c A QQ ls SS hK hP hD hA hl hN hret
  obtain ⟨hx, hb, hml, hown, hts⟩ := id SS
  have hl : lv_has ls 6 [(0, .ref m0), (1, .int (nI b)), (2, .int (bI fi))] := hl
  have hS : va_S A s.heap s.heap [] := va_S.rf
  refine lv_sipush (v := nI 3072) hx hb d_Mod_isRight_0 (by decide) ?_
  refine lv_aload_n hx hb d_Mod_isRight_3 rfl (lv_at hl 0 rfl) ?_
  refine va_get (D := (dC, dI)) (ci := 7) (v := .int (nI mh)) (C := R_Mod) (T := F_Mod) (N := 23) hx hb hts in_Mod hown hK hP 0 rfl rfl 7 (by decide) (hts _ u_673) (fun _ h9 => h9) rfl d_Mod_isRight_4 ?_
  refine n_imul hx hb d_Mod_isRight_7 ?_
  refine lv_bipush (v := nI 32) hx hb d_Mod_isRight_8 (by decide) ?_
  refine lv_iload_n hx hb d_Mod_isRight_10 rfl (lv_at hl 1 rfl) ?_
  refine n_imul hx hb d_Mod_isRight_11 ?_
  refine n_iadd hx hb d_Mod_isRight_12 ?_
  refine lv_istore_n (lv' := [(3, .int (nI ((3072 * mh) + (32 * b)))), (0, .ref m0), (1, .int (nI b)), (2, .int (bI fi))]) hx hb d_Mod_isRight_13 rfl hl (by decide) rfl (fun ls hl => ?_)
  refine lv_aload_n hx hb d_Mod_isRight_14 rfl (lv_at hl 1 rfl) ?_
  refine va_get (D := (dC, dI)) (ci := 7) (v := .ref a1) (C := R_Mod) (T := F_Mod) (N := 23) hx hb hts in_Mod hown hK hP 0 rfl rfl 1 (by decide) (hts _ u_667) (fun _ h9 => h9) rfl d_Mod_isRight_15 ?_
  refine lv_iload_n hx hb d_Mod_isRight_18 rfl (lv_at hl 0 rfl) ?_
  refine lv_iconst (v := nI 2) hx hb d_Mod_isRight_19 (by decide) ?_
  refine n_iadd hx hb d_Mod_isRight_20 ?_
  refine n_iald (v := nI (dd (((3072 * mh) + (32 * b)) + 2))) hx hb hK hP 1 0 rfl rfl rfl (by omega) (by omega) d_Mod_isRight_21 ?_
  refine lv_bipush (v := nI 63) hx hb d_Mod_isRight_22 (by decide) ?_
  refine n_iandm6 hx hb d_Mod_isRight_24 ?_
  refine lv_istore (lv' := [(4, .int (nI ((dd (((3072 * mh) + (32 * b)) + 2)) % 64))), (3, .int (nI ((3072 * mh) + (32 * b)))), (0, .ref m0), (1, .int (nI b)), (2, .int (bI fi))]) hx hb d_Mod_isRight_25 hl (by decide) rfl (fun ls hl => ?_)
  refine lv_aload_n hx hb d_Mod_isRight_27 rfl (lv_at hl 2 rfl) ?_
  refine lv_iload_n hx hb d_Mod_isRight_28 rfl (lv_at hl 1 rfl) ?_
  refine kj_i (wr := []) (va_runV (As := [.int (nI ((3072 * mh) + (32 * b)))]) (rest := []) SS (m_epochAt l dC dI cI s.heap.size m0 a1 a2 a3 a4 a5 a6 a7 a8 a9 th vs bs ch mh me mb mn mw mr es pn ah fs dd ((3072 * mh) + (32 * b)) (by omega)) (k_cwV 1 hts u_646 u_648 u_20 u_43 u_649 rfl rfl (by decide +kernel) ⟨Nat.le_of_ble_eq_true rfl, Nat.le_of_ble_eq_true rfl⟩) (kp_V hN hK [0] rfl hP hD [0, 1] rfl (by decide) (ci := 7) rfl 0 rfl) rfl rfl hl.1 rfl (lv_room (Nat.le_of_ble_eq_true rfl)) d_Mod_isRight_29 ⟨Nat.le_of_ble_eq_true rfl, Nat.le_of_ble_eq_true rfl⟩) hP hD hS hA [0, 1] [] rfl rfl (by decide) (by decide) (fun H locs hP hD hS => ?_)
  have hP : va_P (dC, dI) CL_ [(m0, .inr (7, [.int (nI th), .ref a1, .ref a2, .int (nI vs), .ref a3, .int (nI bs), .int (nI ch), .int (nI mh), .int (nI me), .int (nI mb), .int (nI mn), .ref a4, .ref a5, .int (nI mw), .int (nI mr), .ref a6, .int (nI es), .int (nI pn), .ref a7, .ref a8, .int (oI ah), .ref a9, .int (nI fs)])), (a1, .inl (cI, 6144, .inl (nA dd)))] H := hP
  have hD : va_D A [(m0, .inr (7, [.int (nI th), .ref a1, .ref a2, .int (nI vs), .ref a3, .int (nI bs), .int (nI ch), .int (nI mh), .int (nI me), .int (nI mb), .int (nI mn), .ref a4, .ref a5, .int (nI mw), .int (nI mr), .ref a6, .int (nI es), .int (nI pn), .ref a7, .ref a8, .int (oI ah), .ref a9, .int (nI fs)])), (a1, .inl (cI, 6144, .inl (nA dd)))] := hD
  refine lv_aload_n hx hb d_Mod_isRight_32 rfl (lv_at hl 2 rfl) ?_
  refine va_get (D := (dC, dI)) (ci := 7) (v := .int (nI me)) (C := R_Mod) (T := F_Mod) (N := 23) hx hb hts in_Mod hown hK hP 0 rfl rfl 8 (by decide) (hts _ u_674) (fun _ h9 => h9) rfl d_Mod_isRight_33 ?_
  refine n_icmp_ne (tgt := 81) hx hb d_Mod_isRight_36 (by decide) (by have := pairN_b hdd (3072 * mh + 32 * b); omega) (by omega) (fun c_36 => ?_) (fun c_36 => ?_)
  · skip
    refine lv_iconst (v := bI false) hx hb d_Mod_isRight_81 (by decide) ?_
    refine lv_istore (lv' := [(5, .int (bI false)), (4, .int (nI ((dd (((3072 * mh) + (32 * b)) + 2)) % 64))), (3, .int (nI ((3072 * mh) + (32 * b)))), (0, .ref m0), (1, .int (nI b)), (2, .int (bI fi))]) hx hb d_Mod_isRight_82 hl (by decide) rfl (fun ls hl => ?_)
    refine lv_iload hx hb d_Mod_isRight_84 (lv_at hl 0 rfl) ?_
    refine n_if_eqB (tgt := 132) hx hb d_Mod_isRight_86 (by decide) (fun c_86 => ?_) (fun c_86 => ?_)
    · skip
      refine lv_iconst (v := bI false) hx hb d_Mod_isRight_132 (by decide) ?_
      exact hret false _ _ 133 ls d_Mod_isRight_133 (hP.sub [0, 1] rfl) (hD.sub [0, 1] (by decide) rfl) hS (by unfold rightN; symm; apply decide_eq_false; intro q; obtain ⟨q1, q2, q3, q4, q5, q6⟩ := q; exact c_36 q1)
    · exact absurd c_86 (by decide)
  · skip
    refine lv_aload_n hx hb d_Mod_isRight_39 rfl (lv_at hl 2 rfl) ?_
    refine va_get (D := (dC, dI)) (ci := 7) (v := .ref a1) (C := R_Mod) (T := F_Mod) (N := 23) hx hb hts in_Mod hown hK hP 0 rfl rfl 1 (by decide) (hts _ u_667) (fun _ h9 => h9) rfl d_Mod_isRight_40 ?_
    refine lv_iload_n hx hb d_Mod_isRight_43 rfl (lv_at hl 1 rfl) ?_
    refine lv_iconst (v := nI 4) hx hb d_Mod_isRight_44 (by decide) ?_
    refine n_iadd hx hb d_Mod_isRight_45 ?_
    refine n_iald (v := nI (dd (((3072 * mh) + (32 * b)) + 4))) hx hb hK hP 1 0 rfl rfl rfl (by omega) (by omega) d_Mod_isRight_46 ?_
    refine lv_sipush (v := nI 256) hx hb d_Mod_isRight_47 (by decide) ?_
    refine lv_aload_n hx hb d_Mod_isRight_50 rfl (lv_at hl 2 rfl) ?_
    refine va_get (D := (dC, dI)) (ci := 7) (v := .ref a1) (C := R_Mod) (T := F_Mod) (N := 23) hx hb hts in_Mod hown hK hP 0 rfl rfl 1 (by decide) (hts _ u_667) (fun _ h9 => h9) rfl d_Mod_isRight_51 ?_
    refine lv_iload_n hx hb d_Mod_isRight_54 rfl (lv_at hl 1 rfl) ?_
    refine lv_iconst (v := nI 5) hx hb d_Mod_isRight_55 (by decide) ?_
    refine n_iadd hx hb d_Mod_isRight_56 ?_
    refine n_iald (v := nI (dd (((3072 * mh) + (32 * b)) + 5))) hx hb hK hP 1 0 rfl rfl rfl (by omega) (by omega) d_Mod_isRight_57 ?_
    refine n_imul hx hb d_Mod_isRight_58 ?_
    refine n_iadd hx hb d_Mod_isRight_59 ?_
    refine top_i (nI (pairN dd ((3072 * mh + 32 * b) + 4))) (by rw [show dd ((3072 * mh + 32 * b) + 4) + 256 * dd ((3072 * mh + 32 * b) + 5) = pairN dd ((3072 * mh + 32 * b) + 4) from by rw [Nat.mul_comm 256]; rfl]) ?_
    refine lv_iload_n hx hb d_Mod_isRight_60 rfl (lv_at hl 3 rfl) ?_
    refine n_icmp_ne (tgt := 81) hx hb d_Mod_isRight_61 (by decide) (by have := pairN_b hdd ((3072 * mh + 32 * b) + 4); omega) (by omega) (fun c_61 => ?_) (fun c_61 => ?_)
    · skip
      refine lv_iconst (v := bI false) hx hb d_Mod_isRight_81 (by decide) ?_
      refine lv_istore (lv' := [(5, .int (bI false)), (4, .int (nI ((dd (((3072 * mh) + (32 * b)) + 2)) % 64))), (3, .int (nI ((3072 * mh) + (32 * b)))), (0, .ref m0), (1, .int (nI b)), (2, .int (bI fi))]) hx hb d_Mod_isRight_82 hl (by decide) rfl (fun ls hl => ?_)
      refine lv_iload hx hb d_Mod_isRight_84 (lv_at hl 0 rfl) ?_
      refine n_if_eqB (tgt := 132) hx hb d_Mod_isRight_86 (by decide) (fun c_86 => ?_) (fun c_86 => ?_)
      · skip
        refine lv_iconst (v := bI false) hx hb d_Mod_isRight_132 (by decide) ?_
        exact hret false _ _ 133 ls d_Mod_isRight_133 (hP.sub [0, 1] rfl) (hD.sub [0, 1] (by decide) rfl) hS (by unfold rightN; symm; apply decide_eq_false; intro q; obtain ⟨q1, q2, q3, q4, q5, q6⟩ := q; exact c_61 q2)
      · exact absurd c_86 (by decide)
    · skip
      refine lv_iload hx hb d_Mod_isRight_64 (lv_at hl 0 rfl) ?_
      refine lv_iconst (v := nI 1) hx hb d_Mod_isRight_66 (by decide) ?_
      refine n_icmp_lt (tgt := 81) hx hb d_Mod_isRight_67 (by decide) (by omega) (by omega) (fun c_67 => ?_) (fun c_67 => ?_)
      · skip
        refine lv_iconst (v := bI false) hx hb d_Mod_isRight_81 (by decide) ?_
        refine lv_istore (lv' := [(5, .int (bI false)), (4, .int (nI ((dd (((3072 * mh) + (32 * b)) + 2)) % 64))), (3, .int (nI ((3072 * mh) + (32 * b)))), (0, .ref m0), (1, .int (nI b)), (2, .int (bI fi))]) hx hb d_Mod_isRight_82 hl (by decide) rfl (fun ls hl => ?_)
        refine lv_iload hx hb d_Mod_isRight_84 (lv_at hl 0 rfl) ?_
        refine n_if_eqB (tgt := 132) hx hb d_Mod_isRight_86 (by decide) (fun c_86 => ?_) (fun c_86 => ?_)
        · skip
          refine lv_iconst (v := bI false) hx hb d_Mod_isRight_132 (by decide) ?_
          exact hret false _ _ 133 ls d_Mod_isRight_133 (hP.sub [0, 1] rfl) (hD.sub [0, 1] (by decide) rfl) hS (by unfold rightN; symm; apply decide_eq_false; intro q; obtain ⟨q1, q2, q3, q4, q5, q6⟩ := q; unfold mO at q3 q4; omega)
        · exact absurd c_86 (by decide)
      · skip
        refine lv_iload hx hb d_Mod_isRight_70 (lv_at hl 0 rfl) ?_
        refine lv_bipush (v := nI 26) hx hb d_Mod_isRight_72 (by decide) ?_
        refine n_icmp_gt (tgt := 81) hx hb d_Mod_isRight_74 (by decide) (by omega) (by omega) (fun c_74 => ?_) (fun c_74 => ?_)
        · skip
          refine lv_iconst (v := bI false) hx hb d_Mod_isRight_81 (by decide) ?_
          refine lv_istore (lv' := [(5, .int (bI false)), (4, .int (nI ((dd (((3072 * mh) + (32 * b)) + 2)) % 64))), (3, .int (nI ((3072 * mh) + (32 * b)))), (0, .ref m0), (1, .int (nI b)), (2, .int (bI fi))]) hx hb d_Mod_isRight_82 hl (by decide) rfl (fun ls hl => ?_)
          refine lv_iload hx hb d_Mod_isRight_84 (lv_at hl 0 rfl) ?_
          refine n_if_eqB (tgt := 132) hx hb d_Mod_isRight_86 (by decide) (fun c_86 => ?_) (fun c_86 => ?_)
          · skip
            refine lv_iconst (v := bI false) hx hb d_Mod_isRight_132 (by decide) ?_
            exact hret false _ _ 133 ls d_Mod_isRight_133 (hP.sub [0, 1] rfl) (hD.sub [0, 1] (by decide) rfl) hS (by unfold rightN; symm; apply decide_eq_false; intro q; obtain ⟨q1, q2, q3, q4, q5, q6⟩ := q; unfold mO at q3 q4; omega)
          · exact absurd c_86 (by decide)
        · skip
          refine lv_iconst (v := bI true) hx hb d_Mod_isRight_77 (by decide) ?_
          refine lv_goto (tgt := 82) hx hb d_Mod_isRight_78 (by decide) ?_
          refine lv_istore (lv' := [(5, .int (bI true)), (4, .int (nI ((dd (((3072 * mh) + (32 * b)) + 2)) % 64))), (3, .int (nI ((3072 * mh) + (32 * b)))), (0, .ref m0), (1, .int (nI b)), (2, .int (bI fi))]) hx hb d_Mod_isRight_82 hl (by decide) rfl (fun ls hl => ?_)
          refine lv_iload hx hb d_Mod_isRight_84 (lv_at hl 0 rfl) ?_
          refine n_if_eqB (tgt := 132) hx hb d_Mod_isRight_86 (by decide) (fun c_86 => ?_) (fun c_86 => ?_)
          · exact absurd c_86 (by decide)
          · skip
            refine lv_aload_n hx hb d_Mod_isRight_89 rfl (lv_at hl 3 rfl) ?_
            refine va_get (D := (dC, dI)) (ci := 7) (v := .ref a1) (C := R_Mod) (T := F_Mod) (N := 23) hx hb hts in_Mod hown hK hP 0 rfl rfl 1 (by decide) (hts _ u_667) (fun _ h9 => h9) rfl d_Mod_isRight_90 ?_
            refine lv_iload_n hx hb d_Mod_isRight_93 rfl (lv_at hl 2 rfl) ?_
            refine lv_iconst (v := nI 3) hx hb d_Mod_isRight_94 (by decide) ?_
            refine n_iadd hx hb d_Mod_isRight_95 ?_
            refine n_iald (v := nI (dd (((3072 * mh) + (32 * b)) + 3))) hx hb hK hP 1 0 rfl rfl rfl (by omega) (by omega) d_Mod_isRight_96 ?_
            refine lv_aload_n hx hb d_Mod_isRight_97 rfl (lv_at hl 3 rfl) ?_
            refine lv_iload_n hx hb d_Mod_isRight_98 rfl (lv_at hl 2 rfl) ?_
            refine kj_i (wr := []) (va_runV (As := [.int (nI ((3072 * mh) + (32 * b)))]) (rest := [.int (nI (dd (((3072 * mh) + (32 * b)) + 3)))]) SS (m_sumAt l dC dI cI H.size m0 a1 a2 a3 a4 a5 a6 a7 a8 a9 th vs bs ch mh me mb mn mw mr es pn ah fs dd ((3072 * mh) + (32 * b)) (by omega)) (k_cwV 1 hts u_634 u_636 u_17 u_43 u_637 rfl rfl (by decide +kernel) ⟨Nat.le_of_ble_eq_true rfl, Nat.le_of_ble_eq_true rfl⟩) (kp_V hN hK [0] rfl hP hD [0, 1] rfl (by decide) (ci := 7) rfl 0 rfl) rfl rfl hl.1 rfl (lv_room (Nat.le_of_ble_eq_true rfl)) d_Mod_isRight_99 ⟨Nat.le_of_ble_eq_true rfl, Nat.le_of_ble_eq_true rfl⟩) hP hD hS hA [0, 1] [] rfl rfl (by decide) (by decide) (fun H locs hP hD hS => ?_)
            have hP : va_P (dC, dI) CL_ [(m0, .inr (7, [.int (nI th), .ref a1, .ref a2, .int (nI vs), .ref a3, .int (nI bs), .int (nI ch), .int (nI mh), .int (nI me), .int (nI mb), .int (nI mn), .ref a4, .ref a5, .int (nI mw), .int (nI mr), .ref a6, .int (nI es), .int (nI pn), .ref a7, .ref a8, .int (oI ah), .ref a9, .int (nI fs)])), (a1, .inl (cI, 6144, .inl (nA dd)))] H := hP
            have hD : va_D A [(m0, .inr (7, [.int (nI th), .ref a1, .ref a2, .int (nI vs), .ref a3, .int (nI bs), .int (nI ch), .int (nI mh), .int (nI me), .int (nI mb), .int (nI mn), .ref a4, .ref a5, .int (nI mw), .int (nI mr), .ref a6, .int (nI es), .int (nI pn), .ref a7, .ref a8, .int (oI ah), .ref a9, .int (nI fs)])), (a1, .inl (cI, 6144, .inl (nA dd)))] := hD
            refine n_icmp_ne (tgt := 132) hx hb d_Mod_isRight_102 (by decide) (by have := hdd ((3072 * mh + 32 * b) + 3); omega) (by have := sumN_b dd (3072 * mh + 32 * b); omega) (fun c_102 => ?_) (fun c_102 => ?_)
            · skip
              refine lv_iconst (v := bI false) hx hb d_Mod_isRight_132 (by decide) ?_
              exact hret false _ _ 133 ls d_Mod_isRight_133 (hP.sub [0, 1] rfl) (hD.sub [0, 1] (by decide) rfl) hS (by unfold rightN; symm; apply decide_eq_false; intro q; obtain ⟨q1, q2, q3, q4, q5, q6⟩ := q; exact c_102 q6)
            · skip
              refine lv_aload_n hx hb d_Mod_isRight_105 rfl (lv_at hl 3 rfl) ?_
              refine va_get (D := (dC, dI)) (ci := 7) (v := .ref a1) (C := R_Mod) (T := F_Mod) (N := 23) hx hb hts in_Mod hown hK hP 0 rfl rfl 1 (by decide) (hts _ u_667) (fun _ h9 => h9) rfl d_Mod_isRight_106 ?_
              refine lv_iload_n hx hb d_Mod_isRight_109 rfl (lv_at hl 2 rfl) ?_
              refine lv_iconst (v := nI 2) hx hb d_Mod_isRight_110 (by decide) ?_
              refine n_iadd hx hb d_Mod_isRight_111 ?_
              refine n_iald (v := nI (dd (((3072 * mh) + (32 * b)) + 2))) hx hb hK hP 1 0 rfl rfl rfl (by omega) (by omega) d_Mod_isRight_112 ?_
              refine lv_bipush (v := nI 64) hx hb d_Mod_isRight_113 (by decide) ?_
              refine n_iand hx hb d_Mod_isRight_115 ?_
              refine n_if_eq (tgt := 123) hx hb d_Mod_isRight_116 (by decide) (Nat.lt_of_le_of_lt Nat.and_le_right (by decide)) (fun c_116 => ?_) (fun c_116 => ?_)
              · skip
                refine lv_iconst (v := bI false) hx hb d_Mod_isRight_123 (by decide) ?_
                refine lv_iload_n hx hb d_Mod_isRight_124 rfl (lv_at hl 5 rfl) ?_
                refine n_icmp_neB (tgt := 132) hx hb d_Mod_isRight_125 (by decide) (fun c_125 => ?_) (fun c_125 => ?_)
                · skip
                  refine lv_iconst (v := bI false) hx hb d_Mod_isRight_132 (by decide) ?_
                  exact hret false _ _ 133 ls d_Mod_isRight_133 (hP.sub [0, 1] rfl) (hD.sub [0, 1] (by decide) rfl) hS (by unfold rightN; symm; apply decide_eq_false; intro q; obtain ⟨q1, q2, q3, q4, q5, q6⟩ := q; apply c_125; rw [← q5]; symm; exact decide_eq_false (fun q => q c_116))
                · skip
                  refine lv_iconst (v := bI true) hx hb d_Mod_isRight_128 (by decide) ?_
                  refine lv_goto (tgt := 133) hx hb d_Mod_isRight_129 (by decide) ?_
                  exact hret true _ _ 133 ls d_Mod_isRight_133 (hP.sub [0, 1] rfl) (hD.sub [0, 1] (by decide) rfl) hS (by unfold rightN; symm; apply decide_eq_true; refine ⟨c_36, c_61, by omega, by omega, ?_, c_102⟩; rw [← c_125]; exact decide_eq_false (fun q => q c_116))
              · skip
                refine lv_iconst (v := bI true) hx hb d_Mod_isRight_119 (by decide) ?_
                refine lv_goto (tgt := 124) hx hb d_Mod_isRight_120 (by decide) ?_
                refine lv_iload_n hx hb d_Mod_isRight_124 rfl (lv_at hl 5 rfl) ?_
                refine n_icmp_neB (tgt := 132) hx hb d_Mod_isRight_125 (by decide) (fun c_125 => ?_) (fun c_125 => ?_)
                · skip
                  refine lv_iconst (v := bI false) hx hb d_Mod_isRight_132 (by decide) ?_
                  exact hret false _ _ 133 ls d_Mod_isRight_133 (hP.sub [0, 1] rfl) (hD.sub [0, 1] (by decide) rfl) hS (by unfold rightN; symm; apply decide_eq_false; intro q; obtain ⟨q1, q2, q3, q4, q5, q6⟩ := q; apply c_125; rw [← q5]; symm; exact decide_eq_true c_116)
                · skip
                  refine lv_iconst (v := bI true) hx hb d_Mod_isRight_128 (by decide) ?_
                  refine lv_goto (tgt := 133) hx hb d_Mod_isRight_129 (by decide) ?_
                  exact hret true _ _ 133 ls d_Mod_isRight_133 (hP.sub [0, 1] rfl) (hD.sub [0, 1] (by decide) rfl) hS (by unfold rightN; symm; apply decide_eq_true; refine ⟨c_36, c_61, by omega, by omega, ?_, c_102⟩; rw [← c_125]; exact decide_eq_true c_116)
