abbrev rmm_setSum : Room := { frames := 0, cells := 0, slots := 0, locals := 0 }
set_option maxHeartbeats 4000000 in
set_option maxRecDepth 100000 in
theorem m_setSum (l : Launch) (dC : Nat → ClassId) (dI : Nat → Nat → Nat) (cI : ClassId) (sz : Nat) (m0 : Nat) (a1 : Nat) (a2 : Nat) (a3 : Nat) (a4 : Nat) (a5 : Nat) (a6 : Nat) (a7 : Nat) (a8 : Nat) (a9 : Nat) (th : Nat) (vs : Nat) (bs : Nat) (ch : Nat) (mh : Nat) (me : Nat) (mb : Nat) (mn : Nat) (mw : Nat) (mr : Nat) (es : Nat) (pn : Nat) (ah : Option Nat) (fs : Nat) (qq : Nat → Nat) (o : Nat) (ho : o + 32 ≤ 9600) : KV l y_Mod_setSum w_Mod_setSum rmm_setSum (dC, dI) CL_ [(cI, .int)] sz [.ref m0, .int (nI o)] [(m0, .inr (7, [.int (nI th), .ref a1, .ref a2, .int (nI vs), .ref a3, .int (nI bs), .int (nI ch), .int (nI mh), .int (nI me), .int (nI mb), .int (nI mn), .ref a4, .ref a5, .int (nI mw), .int (nI mr), .ref a6, .int (nI es), .int (nI pn), .ref a7, .ref a8, .int (oI ah), .ref a9, .int (nI fs)])), (a8, .inl (cI, 9600, .inl (nA qq)))] [(m0, .inr (7, [.int (nI th), .ref a1, .ref a2, .int (nI vs), .ref a3, .int (nI bs), .int (nI ch), .int (nI mh), .int (nI me), .int (nI mb), .int (nI mn), .ref a4, .ref a5, .int (nI mw), .int (nI mr), .ref a6, .int (nI es), .int (nI pn), .ref a7, .ref a8, .int (oI ah), .ref a9, .int (nI fs)])), (a8, .inl (cI, 9600, .inl (nA (updN qq (o + 3) (sumN qq o)))))] := by
  refine k_start_v (cc := b_Mod_setSum) (maxL := 4) (by decide) (Nat.le_of_ble_eq_true rfl) ?_
  intro p e s m args below meth c A QQ ls SS hK hP hD hA hl hN hret
  obtain ⟨hx, hb, hml, hown, hts⟩ := id SS
  have hl : lv_has ls 4 [(0, .ref m0), (1, .int (nI o))] := hl
  have hS : va_S A s.heap s.heap [] := va_S.rf
  refine lv_iconst (v := nI 0) hx hb d_Mod_setSum_0 (by decide) ?_
  refine lv_istore_n (lv' := [(2, .int (nI 0)), (0, .ref m0), (1, .int (nI o))]) hx hb d_Mod_setSum_1 rfl hl (by decide) rfl (fun ls hl => ?_)
  refine lv_iconst (v := nI 0) hx hb d_Mod_setSum_2 (by decide) ?_
  refine lv_istore_n (lv' := [(3, .int (nI 0)), (2, .int (nI 0)), (0, .ref m0), (1, .int (nI o))]) hx hb d_Mod_setSum_3 rfl hl (by decide) rfl (fun ls hl => ?_)
  have loop_4 : ∀ (n_ : Nat) (k : Nat), (k ≤ 32) → (33 ≤ k + n_) → ∀ (H : Heap) (locs : List Loc) (ls : Array Slot), va_P (dC, dI) CL_ [(m0, .inr (7, [.int (nI th), .ref a1, .ref a2, .int (nI vs), .ref a3, .int (nI bs), .int (nI ch), .int (nI mh), .int (nI me), .int (nI mb), .int (nI mn), .ref a4, .ref a5, .int (nI mw), .int (nI mr), .ref a6, .int (nI es), .int (nI pn), .ref a7, .ref a8, .int (oI ah), .ref a9, .int (nI fs)])), (a8, .inl (cI, 9600, .inl (nA qq)))] H → va_D A [(m0, .inr (7, [.int (nI th), .ref a1, .ref a2, .int (nI vs), .ref a3, .int (nI bs), .int (nI ch), .int (nI mh), .int (nI me), .int (nI mb), .int (nI mn), .ref a4, .ref a5, .int (nI mw), .int (nI mr), .ref a6, .int (nI es), .int (nI pn), .ref a7, .ref a8, .int (oI ah), .ref a9, .int (nI fs)])), (a8, .inl (cI, 9600, .inl (nA qq)))] → va_S A s.heap H locs → lv_has ls 4 [(0, .ref m0), (1, .int (nI o)), (2, .int (nI (sumTo qq o k))), (3, .int (nI k))] → W p l e rmm_setSum s m args below meth c H locs 0 0 QQ (F0 m 4 ls []) := by
    intro n_
    induction n_ with
    | zero =>
      intro k hk hf
      exact absurd hf (by omega)
    | succ n_ ih =>
      intro k hk hf H locs ls hP hD hS hl
      refine lv_iload_n hx hb d_Mod_setSum_4 rfl (lv_at hl 3 rfl) ?_
      refine lv_bipush (v := nI 32) hx hb d_Mod_setSum_5 (by decide) ?_
      refine n_icmp_ge (tgt := 40) hx hb d_Mod_setSum_7 (by decide) (by omega) (by omega) (fun c_7 => ?_) (fun c_7 => ?_)
      · skip
        have hq : k = 32 := by omega
        rw [hq] at hl
        have hl : lv_has ls 4 [(0, .ref m0), (1, .int (nI o)), (2, .int (nI (sumTo qq o 32))), (3, .int (nI 32))] := hl
        refine lv_aload_n hx hb d_Mod_setSum_40 rfl (lv_at hl 0 rfl) ?_
        refine va_get (D := (dC, dI)) (ci := 7) (v := .ref a8) (C := R_Mod) (T := F_Mod) (N := 23) hx hb hts in_Mod hown hK hP 0 rfl rfl 19 (by decide) (hts _ u_685) (fun _ h9 => h9) rfl d_Mod_setSum_41 ?_
        refine lv_iload_n hx hb d_Mod_setSum_44 rfl (lv_at hl 1 rfl) ?_
        refine lv_iconst (v := nI 3) hx hb d_Mod_setSum_45 (by decide) ?_
        refine n_iadd hx hb d_Mod_setSum_46 ?_
        refine lv_iload_n hx hb d_Mod_setSum_47 rfl (lv_at hl 2 rfl) ?_
        refine lv_sipush (v := nI 255) hx hb d_Mod_setSum_48 (by decide) ?_
        refine n_iandm hx hb d_Mod_setSum_51 ?_
        refine n_iast (f' := nA (updN qq (o + 3) ((sumTo qq o 32) % 256))) hx hb hK hP hD hS 1 0 rfl rfl (nA_upd _ _ _) (by omega) (by omega) d_Mod_setSum_52 (fun H locs hP hD hS => ?_)
        have hP : va_P (dC, dI) CL_ [(m0, .inr (7, [.int (nI th), .ref a1, .ref a2, .int (nI vs), .ref a3, .int (nI bs), .int (nI ch), .int (nI mh), .int (nI me), .int (nI mb), .int (nI mn), .ref a4, .ref a5, .int (nI mw), .int (nI mr), .ref a6, .int (nI es), .int (nI pn), .ref a7, .ref a8, .int (oI ah), .ref a9, .int (nI fs)])), (a8, .inl (cI, 9600, .inl (nA (updN qq (o + 3) ((sumTo qq o 32) % 256)))))] H := hP
        have hD : va_D A [(m0, .inr (7, [.int (nI th), .ref a1, .ref a2, .int (nI vs), .ref a3, .int (nI bs), .int (nI ch), .int (nI mh), .int (nI me), .int (nI mb), .int (nI mn), .ref a4, .ref a5, .int (nI mw), .int (nI mr), .ref a6, .int (nI es), .int (nI pn), .ref a7, .ref a8, .int (oI ah), .ref a9, .int (nI fs)])), (a8, .inl (cI, 9600, .inl (nA (updN qq (o + 3) ((sumTo qq o 32) % 256)))))] := hD
        exact hret _ _ 53 ls d_Mod_setSum_53 (hP.sub [0, 1] rfl) (hD.sub [0, 1] (by decide) rfl) hS
      · skip
        refine lv_iload_n hx hb d_Mod_setSum_10 rfl (lv_at hl 2 rfl) ?_
        refine lv_iload_n hx hb d_Mod_setSum_11 rfl (lv_at hl 3 rfl) ?_
        refine lv_iconst (v := nI 3) hx hb d_Mod_setSum_12 (by decide) ?_
        refine n_icmp_ne (tgt := 20) hx hb d_Mod_setSum_13 (by decide) (by omega) (by omega) (fun c_13 => ?_) (fun c_13 => ?_)
        · skip
          refine lv_aload_n hx hb d_Mod_setSum_20 rfl (lv_at hl 0 rfl) ?_
          refine va_get (D := (dC, dI)) (ci := 7) (v := .ref a8) (C := R_Mod) (T := F_Mod) (N := 23) hx hb hts in_Mod hown hK hP 0 rfl rfl 19 (by decide) (hts _ u_685) (fun _ h9 => h9) rfl d_Mod_setSum_21 ?_
          refine lv_iload_n hx hb d_Mod_setSum_24 rfl (lv_at hl 1 rfl) ?_
          refine lv_iload_n hx hb d_Mod_setSum_25 rfl (lv_at hl 3 rfl) ?_
          refine n_iadd hx hb d_Mod_setSum_26 ?_
          refine n_iald (v := nI (qq (o + k))) hx hb hK hP 1 0 rfl rfl rfl (by omega) (by omega) d_Mod_setSum_27 ?_
          refine lv_iload_n hx hb d_Mod_setSum_28 rfl (lv_at hl 3 rfl) ?_
          refine lv_iconst (v := nI 1) hx hb d_Mod_setSum_29 (by decide) ?_
          refine n_iadd hx hb d_Mod_setSum_30 ?_
          refine n_imul hx hb d_Mod_setSum_31 ?_
          refine top_i (nI (if k = 3 then 0 else qq (o + k) * (k + 1))) (by first | rw [if_pos c_13] | rw [if_neg c_13]) ?_
          refine n_iadd hx hb d_Mod_setSum_32 ?_
          refine lv_istore_n (lv' := [(2, .int (nI ((sumTo qq o k) + (if k = 3 then 0 else qq (o + k) * (k + 1))))), (0, .ref m0), (1, .int (nI o)), (3, .int (nI k))]) hx hb d_Mod_setSum_33 rfl hl (by decide) rfl (fun ls hl => ?_)
          refine lv_iinc (v := nI (k + 1)) (lv' := [(3, .int (nI (k + 1))), (2, .int (nI ((sumTo qq o k) + (if k = 3 then 0 else qq (o + k) * (k + 1))))), (0, .ref m0), (1, .int (nI o))]) hx hb d_Mod_setSum_34 hl (k := 3) rfl (inc1 k) (by decide) rfl (fun ls hl => ?_)
          refine lv_goto (tgt := 4) hx hb d_Mod_setSum_37 (by decide) ?_
          exact ih (k + 1) (by omega) (by omega) _ _ _ (hP.sub [0, 1] rfl) (hD.sub [0, 1] (by decide) rfl) hS (lv_sub hl [2, 3, 1, 0] rfl)
        · skip
          refine lv_iconst (v := nI 0) hx hb d_Mod_setSum_16 (by decide) ?_
          refine lv_goto (tgt := 32) hx hb d_Mod_setSum_17 (by decide) ?_
          refine top_i (nI (if k = 3 then 0 else qq (o + k) * (k + 1))) (by first | rw [if_pos c_13] | rw [if_neg c_13]) ?_
          refine n_iadd hx hb d_Mod_setSum_32 ?_
          refine lv_istore_n (lv' := [(2, .int (nI ((sumTo qq o k) + (if k = 3 then 0 else qq (o + k) * (k + 1))))), (0, .ref m0), (1, .int (nI o)), (3, .int (nI k))]) hx hb d_Mod_setSum_33 rfl hl (by decide) rfl (fun ls hl => ?_)
          refine lv_iinc (v := nI (k + 1)) (lv' := [(3, .int (nI (k + 1))), (2, .int (nI ((sumTo qq o k) + (if k = 3 then 0 else qq (o + k) * (k + 1))))), (0, .ref m0), (1, .int (nI o))]) hx hb d_Mod_setSum_34 hl (k := 3) rfl (inc1 k) (by decide) rfl (fun ls hl => ?_)
          refine lv_goto (tgt := 4) hx hb d_Mod_setSum_37 (by decide) ?_
          exact ih (k + 1) (by omega) (by omega) _ _ _ (hP.sub [0, 1] rfl) (hD.sub [0, 1] (by decide) rfl) hS (lv_sub hl [2, 3, 1, 0] rfl)
  exact loop_4 33 0 (by omega) (by omega) _ _ _ (hP.sub [0, 1] rfl) (hD.sub [0, 1] (by decide) rfl) hS (lv_sub hl [2, 3, 1, 0] rfl)
abbrev rmm_beginBlock : Room := { frames := 0, cells := 0, slots := 0, locals := 0 }
set_option maxHeartbeats 4000000 in
set_option maxRecDepth 100000 in
theorem m_beginBlock (l : Launch) (dC : Nat → ClassId) (dI : Nat → Nat → Nat) (cI : ClassId) (sz : Nat) (m0 : Nat) (a1 : Nat) (a2 : Nat) (a3 : Nat) (a4 : Nat) (a5 : Nat) (a6 : Nat) (a7 : Nat) (a8 : Nat) (a9 : Nat) (th : Nat) (vs : Nat) (bs : Nat) (ch : Nat) (mh : Nat) (me : Nat) (mb : Nat) (mn : Nat) (mw : Nat) (mr : Nat) (es : Nat) (pn : Nat) (ah : Option Nat) (fs : Nat) (pp : Nat → Nat) (qq : Nat → Nat) (its : Nat) (b : Nat) (ep : Nat) (hpn : pn < 300) (hep : ep < 2 ^ 31) : KI l y_Mod_beginBlock w_Mod_beginBlock rmm_beginBlock (dC, dI) CL_ [(cI, .int)] sz [.ref m0, .int (nI its), .int (nI b), .int (nI ep)] [(m0, .inr (7, [.int (nI th), .ref a1, .ref a2, .int (nI vs), .ref a3, .int (nI bs), .int (nI ch), .int (nI mh), .int (nI me), .int (nI mb), .int (nI mn), .ref a4, .ref a5, .int (nI mw), .int (nI mr), .ref a6, .int (nI es), .int (nI pn), .ref a7, .ref a8, .int (oI ah), .ref a9, .int (nI fs)])), (a7, .inl (cI, 300, .inl (nA pp))), (a8, .inl (cI, 9600, .inl (nA qq)))] [(m0, .inr (7, [.int (nI th), .ref a1, .ref a2, .int (nI vs), .ref a3, .int (nI bs), .int (nI ch), .int (nI mh), .int (nI me), .int (nI mb), .int (nI mn), .ref a4, .ref a5, .int (nI mw), .int (nI mr), .ref a6, .int (nI es), .int (nI (pn + 1)), .ref a7, .ref a8, .int (oI ah), .ref a9, .int (nI fs)])), (a7, .inl (cI, 300, .inl (nA (updN pp pn (96 * its + b))))), (a8, .inl (cI, 9600, .inl (nA (fillN qq (32 * pn) (mHdr ep) 32))))] (nI (32 * pn)) := by
  refine k_start_i (cc := b_Mod_beginBlock) (maxL := 6) (by decide) (Nat.le_of_ble_eq_true rfl) ?_
  intro p e s m args below meth c A QQ ls SS hK hP hD hA hl hN hret
  obtain ⟨hx, hb, hml, hown, hts⟩ := id SS
  have hl : lv_has ls 6 [(0, .ref m0), (1, .int (nI its)), (2, .int (nI b)), (3, .int (nI ep))] := hl
  have hS : va_S A s.heap s.heap [] := va_S.rf
  refine lv_bipush (v := nI 32) hx hb d_Mod_beginBlock_0 (by decide) ?_
  refine lv_aload_n hx hb d_Mod_beginBlock_2 rfl (lv_at hl 0 rfl) ?_
  refine va_get (D := (dC, dI)) (ci := 7) (v := .int (nI pn)) (C := R_Mod) (T := F_Mod) (N := 23) hx hb hts in_Mod hown hK hP 0 rfl rfl 17 (by decide) (hts _ u_683) (fun _ h9 => h9) rfl d_Mod_beginBlock_3 ?_
  refine n_imul hx hb d_Mod_beginBlock_6 ?_
  refine lv_istore (lv' := [(4, .int (nI (32 * pn))), (0, .ref m0), (1, .int (nI its)), (2, .int (nI b)), (3, .int (nI ep))]) hx hb d_Mod_beginBlock_7 hl (by decide) rfl (fun ls hl => ?_)
  refine lv_aload_n hx hb d_Mod_beginBlock_9 rfl (lv_at hl 1 rfl) ?_
  refine va_get (D := (dC, dI)) (ci := 7) (v := .ref a7) (C := R_Mod) (T := F_Mod) (N := 23) hx hb hts in_Mod hown hK hP 0 rfl rfl 18 (by decide) (hts _ u_684) (fun _ h9 => h9) rfl d_Mod_beginBlock_10 ?_
  refine lv_aload_n hx hb d_Mod_beginBlock_13 rfl (lv_at hl 1 rfl) ?_
  refine va_get (D := (dC, dI)) (ci := 7) (v := .int (nI pn)) (C := R_Mod) (T := F_Mod) (N := 23) hx hb hts in_Mod hown hK hP 0 rfl rfl 17 (by decide) (hts _ u_683) (fun _ h9 => h9) rfl d_Mod_beginBlock_14 ?_
  refine lv_bipush (v := nI 96) hx hb d_Mod_beginBlock_17 (by decide) ?_
  refine lv_iload_n hx hb d_Mod_beginBlock_19 rfl (lv_at hl 2 rfl) ?_
  refine n_imul hx hb d_Mod_beginBlock_20 ?_
  refine lv_iload_n hx hb d_Mod_beginBlock_21 rfl (lv_at hl 3 rfl) ?_
  refine n_iadd hx hb d_Mod_beginBlock_22 ?_
  refine n_iast (f' := nA (updN pp pn ((96 * its) + b))) hx hb hK hP hD hS 1 0 rfl rfl (nA_upd _ _ _) (by omega) (by omega) d_Mod_beginBlock_23 (fun H locs hP hD hS => ?_)
  have hP : va_P (dC, dI) CL_ [(m0, .inr (7, [.int (nI th), .ref a1, .ref a2, .int (nI vs), .ref a3, .int (nI bs), .int (nI ch), .int (nI mh), .int (nI me), .int (nI mb), .int (nI mn), .ref a4, .ref a5, .int (nI mw), .int (nI mr), .ref a6, .int (nI es), .int (nI pn), .ref a7, .ref a8, .int (oI ah), .ref a9, .int (nI fs)])), (a7, .inl (cI, 300, .inl (nA (updN pp pn ((96 * its) + b))))), (a8, .inl (cI, 9600, .inl (nA qq)))] H := hP
  have hD : va_D A [(m0, .inr (7, [.int (nI th), .ref a1, .ref a2, .int (nI vs), .ref a3, .int (nI bs), .int (nI ch), .int (nI mh), .int (nI me), .int (nI mb), .int (nI mn), .ref a4, .ref a5, .int (nI mw), .int (nI mr), .ref a6, .int (nI es), .int (nI pn), .ref a7, .ref a8, .int (oI ah), .ref a9, .int (nI fs)])), (a7, .inl (cI, 300, .inl (nA (updN pp pn ((96 * its) + b))))), (a8, .inl (cI, 9600, .inl (nA qq)))] := hD
  refine lv_aload_n hx hb d_Mod_beginBlock_24 rfl (lv_at hl 1 rfl) ?_
  refine lv_dup hx hb d_Mod_beginBlock_25 rfl ?_
  refine va_get (D := (dC, dI)) (ci := 7) (v := .int (nI pn)) (C := R_Mod) (T := F_Mod) (N := 23) hx hb hts in_Mod hown hK hP 0 rfl rfl 17 (by decide) (hts _ u_683) (fun _ h9 => h9) rfl d_Mod_beginBlock_26 ?_
  refine lv_iconst (v := nI 1) hx hb d_Mod_beginBlock_29 (by decide) ?_
  refine n_iadd hx hb d_Mod_beginBlock_30 ?_
  refine va_put (D := (dC, dI)) (ci := 7) (v := .int (nI (pn + 1))) (ty := .int) (C := R_Mod) (T := F_Mod) (N := 23) hx hb hts in_Mod ty_Mod tok_Mod nm_Mod hown hK hP hD hS 0 rfl rfl 17 (by decide) (hts _ u_683) (fun _ h9 => h9) rfl (by decide +kernel) rfl rfl (Nat.le_of_ble_eq_true rfl) d_Mod_beginBlock_31 (fun H locs hP hD hS => ?_)
  have hP : va_P (dC, dI) CL_ [(m0, .inr (7, [.int (nI th), .ref a1, .ref a2, .int (nI vs), .ref a3, .int (nI bs), .int (nI ch), .int (nI mh), .int (nI me), .int (nI mb), .int (nI mn), .ref a4, .ref a5, .int (nI mw), .int (nI mr), .ref a6, .int (nI es), .int (nI (pn + 1)), .ref a7, .ref a8, .int (oI ah), .ref a9, .int (nI fs)])), (a7, .inl (cI, 300, .inl (nA (updN pp pn ((96 * its) + b))))), (a8, .inl (cI, 9600, .inl (nA qq)))] H := hP
  have hD : va_D A [(m0, .inr (7, [.int (nI th), .ref a1, .ref a2, .int (nI vs), .ref a3, .int (nI bs), .int (nI ch), .int (nI mh), .int (nI me), .int (nI mb), .int (nI mn), .ref a4, .ref a5, .int (nI mw), .int (nI mr), .ref a6, .int (nI es), .int (nI (pn + 1)), .ref a7, .ref a8, .int (oI ah), .ref a9, .int (nI fs)])), (a7, .inl (cI, 300, .inl (nA (updN pp pn ((96 * its) + b))))), (a8, .inl (cI, 9600, .inl (nA qq)))] := hD
  refine lv_iconst (v := nI 0) hx hb d_Mod_beginBlock_34 (by decide) ?_
  refine lv_istore (lv' := [(5, .int (nI 0)), (4, .int (nI (32 * pn))), (0, .ref m0), (1, .int (nI its)), (2, .int (nI b)), (3, .int (nI ep))]) hx hb d_Mod_beginBlock_35 hl (by decide) rfl (fun ls hl => ?_)
  have loop_37 : ∀ (n_ : Nat) (k : Nat), (k ≤ 32) → (33 ≤ k + n_) → ∀ (H : Heap) (locs : List Loc) (ls : Array Slot), va_P (dC, dI) CL_ [(m0, .inr (7, [.int (nI th), .ref a1, .ref a2, .int (nI vs), .ref a3, .int (nI bs), .int (nI ch), .int (nI mh), .int (nI me), .int (nI mb), .int (nI mn), .ref a4, .ref a5, .int (nI mw), .int (nI mr), .ref a6, .int (nI es), .int (nI (pn + 1)), .ref a7, .ref a8, .int (oI ah), .ref a9, .int (nI fs)])), (a7, .inl (cI, 300, .inl (nA (updN pp pn (96 * its + b))))), (a8, .inl (cI, 9600, .inl (nA (fillN qq (32 * pn) (fun _ => 0) k))))] H → va_D A [(m0, .inr (7, [.int (nI th), .ref a1, .ref a2, .int (nI vs), .ref a3, .int (nI bs), .int (nI ch), .int (nI mh), .int (nI me), .int (nI mb), .int (nI mn), .ref a4, .ref a5, .int (nI mw), .int (nI mr), .ref a6, .int (nI es), .int (nI (pn + 1)), .ref a7, .ref a8, .int (oI ah), .ref a9, .int (nI fs)])), (a7, .inl (cI, 300, .inl (nA (updN pp pn (96 * its + b))))), (a8, .inl (cI, 9600, .inl (nA (fillN qq (32 * pn) (fun _ => 0) k))))] → va_S A s.heap H locs → lv_has ls 6 [(0, .ref m0), (1, .int (nI its)), (2, .int (nI b)), (3, .int (nI ep)), (4, .int (nI (32 * pn))), (5, .int (nI k))] → W p l e rmm_beginBlock s m args below meth c H locs 0 0 QQ (F0 m 37 ls []) := by
    intro n_
    induction n_ with
    | zero =>
      intro k hk hf
      exact absurd hf (by omega)
    | succ n_ ih =>
      intro k hk hf H locs ls hP hD hS hl
      refine lv_iload hx hb d_Mod_beginBlock_37 (lv_at hl 5 rfl) ?_
      refine lv_bipush (v := nI 32) hx hb d_Mod_beginBlock_39 (by decide) ?_
      refine n_icmp_ge (tgt := 61) hx hb d_Mod_beginBlock_41 (by decide) (by omega) (by omega) (fun c_41 => ?_) (fun c_41 => ?_)
      · skip
        have hq : k = 32 := by omega
        rw [hq] at hP hD
        have hP : va_P (dC, dI) CL_ [(m0, .inr (7, [.int (nI th), .ref a1, .ref a2, .int (nI vs), .ref a3, .int (nI bs), .int (nI ch), .int (nI mh), .int (nI me), .int (nI mb), .int (nI mn), .ref a4, .ref a5, .int (nI mw), .int (nI mr), .ref a6, .int (nI es), .int (nI (pn + 1)), .ref a7, .ref a8, .int (oI ah), .ref a9, .int (nI fs)])), (a7, .inl (cI, 300, .inl (nA (updN pp pn (96 * its + b))))), (a8, .inl (cI, 9600, .inl (nA (fillN qq (32 * pn) (fun _ => 0) 32))))] H := hP
        have hD : va_D A [(m0, .inr (7, [.int (nI th), .ref a1, .ref a2, .int (nI vs), .ref a3, .int (nI bs), .int (nI ch), .int (nI mh), .int (nI me), .int (nI mb), .int (nI mn), .ref a4, .ref a5, .int (nI mw), .int (nI mr), .ref a6, .int (nI es), .int (nI (pn + 1)), .ref a7, .ref a8, .int (oI ah), .ref a9, .int (nI fs)])), (a7, .inl (cI, 300, .inl (nA (updN pp pn (96 * its + b))))), (a8, .inl (cI, 9600, .inl (nA (fillN qq (32 * pn) (fun _ => 0) 32))))] := hD
        refine lv_aload_n hx hb d_Mod_beginBlock_61 rfl (lv_at hl 0 rfl) ?_
        refine va_get (D := (dC, dI)) (ci := 7) (v := .ref a8) (C := R_Mod) (T := F_Mod) (N := 23) hx hb hts in_Mod hown hK hP 0 rfl rfl 19 (by decide) (hts _ u_685) (fun _ h9 => h9) rfl d_Mod_beginBlock_62 ?_
        refine lv_iload hx hb d_Mod_beginBlock_65 (lv_at hl 4 rfl) ?_
        refine lv_iload_n hx hb d_Mod_beginBlock_67 rfl (lv_at hl 3 rfl) ?_
        refine lv_sipush (v := nI 255) hx hb d_Mod_beginBlock_68 (by decide) ?_
        refine n_iandm hx hb d_Mod_beginBlock_71 ?_
        refine n_iast (f' := nA (updN (fillN qq (32 * pn) (fun _ => 0) 32) (32 * pn) (ep % 256))) hx hb hK hP hD hS 2 0 rfl rfl (nA_upd _ _ _) (by omega) (by omega) d_Mod_beginBlock_72 (fun H locs hP hD hS => ?_)
        have hP : va_P (dC, dI) CL_ [(m0, .inr (7, [.int (nI th), .ref a1, .ref a2, .int (nI vs), .ref a3, .int (nI bs), .int (nI ch), .int (nI mh), .int (nI me), .int (nI mb), .int (nI mn), .ref a4, .ref a5, .int (nI mw), .int (nI mr), .ref a6, .int (nI es), .int (nI (pn + 1)), .ref a7, .ref a8, .int (oI ah), .ref a9, .int (nI fs)])), (a7, .inl (cI, 300, .inl (nA (updN pp pn (96 * its + b))))), (a8, .inl (cI, 9600, .inl (nA (updN (fillN qq (32 * pn) (fun _ => 0) 32) (32 * pn) (ep % 256)))))] H := hP
        have hD : va_D A [(m0, .inr (7, [.int (nI th), .ref a1, .ref a2, .int (nI vs), .ref a3, .int (nI bs), .int (nI ch), .int (nI mh), .int (nI me), .int (nI mb), .int (nI mn), .ref a4, .ref a5, .int (nI mw), .int (nI mr), .ref a6, .int (nI es), .int (nI (pn + 1)), .ref a7, .ref a8, .int (oI ah), .ref a9, .int (nI fs)])), (a7, .inl (cI, 300, .inl (nA (updN pp pn (96 * its + b))))), (a8, .inl (cI, 9600, .inl (nA (updN (fillN qq (32 * pn) (fun _ => 0) 32) (32 * pn) (ep % 256)))))] := hD
        rw [fillN_u0 (by decide)] at hP hD
        have hP : va_P (dC, dI) CL_ [(m0, .inr (7, [.int (nI th), .ref a1, .ref a2, .int (nI vs), .ref a3, .int (nI bs), .int (nI ch), .int (nI mh), .int (nI me), .int (nI mb), .int (nI mn), .ref a4, .ref a5, .int (nI mw), .int (nI mr), .ref a6, .int (nI es), .int (nI (pn + 1)), .ref a7, .ref a8, .int (oI ah), .ref a9, .int (nI fs)])), (a7, .inl (cI, 300, .inl (nA (updN pp pn (96 * its + b))))), (a8, .inl (cI, 9600, .inl (nA (fillN qq (32 * pn) (updN (fun _ => 0) 0 (ep % 256)) 32))))] H := hP
        have hD : va_D A [(m0, .inr (7, [.int (nI th), .ref a1, .ref a2, .int (nI vs), .ref a3, .int (nI bs), .int (nI ch), .int (nI mh), .int (nI me), .int (nI mb), .int (nI mn), .ref a4, .ref a5, .int (nI mw), .int (nI mr), .ref a6, .int (nI es), .int (nI (pn + 1)), .ref a7, .ref a8, .int (oI ah), .ref a9, .int (nI fs)])), (a7, .inl (cI, 300, .inl (nA (updN pp pn (96 * its + b))))), (a8, .inl (cI, 9600, .inl (nA (fillN qq (32 * pn) (updN (fun _ => 0) 0 (ep % 256)) 32))))] := hD
        refine lv_aload_n hx hb d_Mod_beginBlock_73 rfl (lv_at hl 0 rfl) ?_
        refine va_get (D := (dC, dI)) (ci := 7) (v := .ref a8) (C := R_Mod) (T := F_Mod) (N := 23) hx hb hts in_Mod hown hK hP 0 rfl rfl 19 (by decide) (hts _ u_685) (fun _ h9 => h9) rfl d_Mod_beginBlock_74 ?_
        refine lv_iload hx hb d_Mod_beginBlock_77 (lv_at hl 4 rfl) ?_
        refine lv_iconst (v := nI 1) hx hb d_Mod_beginBlock_79 (by decide) ?_
        refine n_iadd hx hb d_Mod_beginBlock_80 ?_
        refine lv_iload_n hx hb d_Mod_beginBlock_81 rfl (lv_at hl 3 rfl) ?_
        refine lv_bipush (v := nI 8) hx hb d_Mod_beginBlock_82 (by decide) ?_
        refine n_ishr8 hx hb d_Mod_beginBlock_84 (by omega) ?_
        refine n_iast (f' := nA (updN (fillN qq (32 * pn) (updN (fun _ => 0) 0 (ep % 256)) 32) ((32 * pn) + 1) (ep / 256))) hx hb hK hP hD hS 2 0 rfl rfl (nA_upd _ _ _) (by omega) (by omega) d_Mod_beginBlock_85 (fun H locs hP hD hS => ?_)
        have hP : va_P (dC, dI) CL_ [(m0, .inr (7, [.int (nI th), .ref a1, .ref a2, .int (nI vs), .ref a3, .int (nI bs), .int (nI ch), .int (nI mh), .int (nI me), .int (nI mb), .int (nI mn), .ref a4, .ref a5, .int (nI mw), .int (nI mr), .ref a6, .int (nI es), .int (nI (pn + 1)), .ref a7, .ref a8, .int (oI ah), .ref a9, .int (nI fs)])), (a7, .inl (cI, 300, .inl (nA (updN pp pn (96 * its + b))))), (a8, .inl (cI, 9600, .inl (nA (updN (fillN qq (32 * pn) (updN (fun _ => 0) 0 (ep % 256)) 32) ((32 * pn) + 1) (ep / 256)))))] H := hP
        have hD : va_D A [(m0, .inr (7, [.int (nI th), .ref a1, .ref a2, .int (nI vs), .ref a3, .int (nI bs), .int (nI ch), .int (nI mh), .int (nI me), .int (nI mb), .int (nI mn), .ref a4, .ref a5, .int (nI mw), .int (nI mr), .ref a6, .int (nI es), .int (nI (pn + 1)), .ref a7, .ref a8, .int (oI ah), .ref a9, .int (nI fs)])), (a7, .inl (cI, 300, .inl (nA (updN pp pn (96 * its + b))))), (a8, .inl (cI, 9600, .inl (nA (updN (fillN qq (32 * pn) (updN (fun _ => 0) 0 (ep % 256)) 32) ((32 * pn) + 1) (ep / 256)))))] := hD
        rw [fillN_u (by decide)] at hP hD
        have hP : va_P (dC, dI) CL_ [(m0, .inr (7, [.int (nI th), .ref a1, .ref a2, .int (nI vs), .ref a3, .int (nI bs), .int (nI ch), .int (nI mh), .int (nI me), .int (nI mb), .int (nI mn), .ref a4, .ref a5, .int (nI mw), .int (nI mr), .ref a6, .int (nI es), .int (nI (pn + 1)), .ref a7, .ref a8, .int (oI ah), .ref a9, .int (nI fs)])), (a7, .inl (cI, 300, .inl (nA (updN pp pn (96 * its + b))))), (a8, .inl (cI, 9600, .inl (nA (fillN qq (32 * pn) (mHdr ep) 32))))] H := hP
        have hD : va_D A [(m0, .inr (7, [.int (nI th), .ref a1, .ref a2, .int (nI vs), .ref a3, .int (nI bs), .int (nI ch), .int (nI mh), .int (nI me), .int (nI mb), .int (nI mn), .ref a4, .ref a5, .int (nI mw), .int (nI mr), .ref a6, .int (nI es), .int (nI (pn + 1)), .ref a7, .ref a8, .int (oI ah), .ref a9, .int (nI fs)])), (a7, .inl (cI, 300, .inl (nA (updN pp pn (96 * its + b))))), (a8, .inl (cI, 9600, .inl (nA (fillN qq (32 * pn) (mHdr ep) 32))))] := hD
        refine lv_iload hx hb d_Mod_beginBlock_86 (lv_at hl 4 rfl) ?_
        exact hret (nI (32 * pn)) _ _ 88 ls d_Mod_beginBlock_88 (hP.sub [0, 1, 2] rfl) (hD.sub [0, 1, 2] (by decide) rfl) hS rfl
      · skip
        refine lv_aload_n hx hb d_Mod_beginBlock_44 rfl (lv_at hl 0 rfl) ?_
        refine va_get (D := (dC, dI)) (ci := 7) (v := .ref a8) (C := R_Mod) (T := F_Mod) (N := 23) hx hb hts in_Mod hown hK hP 0 rfl rfl 19 (by decide) (hts _ u_685) (fun _ h9 => h9) rfl d_Mod_beginBlock_45 ?_
        refine lv_iload hx hb d_Mod_beginBlock_48 (lv_at hl 4 rfl) ?_
        refine lv_iload hx hb d_Mod_beginBlock_50 (lv_at hl 5 rfl) ?_
        refine n_iadd hx hb d_Mod_beginBlock_52 ?_
        refine lv_iconst (v := nI 0) hx hb d_Mod_beginBlock_53 (by decide) ?_
        refine n_iast (f' := nA (updN (fillN qq (32 * pn) (fun _ => 0) k) ((32 * pn) + k) 0)) hx hb hK hP hD hS 2 0 rfl rfl (nA_upd _ _ _) (by omega) (by omega) d_Mod_beginBlock_54 (fun H locs hP hD hS => ?_)
        have hP : va_P (dC, dI) CL_ [(m0, .inr (7, [.int (nI th), .ref a1, .ref a2, .int (nI vs), .ref a3, .int (nI bs), .int (nI ch), .int (nI mh), .int (nI me), .int (nI mb), .int (nI mn), .ref a4, .ref a5, .int (nI mw), .int (nI mr), .ref a6, .int (nI es), .int (nI (pn + 1)), .ref a7, .ref a8, .int (oI ah), .ref a9, .int (nI fs)])), (a7, .inl (cI, 300, .inl (nA (updN pp pn (96 * its + b))))), (a8, .inl (cI, 9600, .inl (nA (updN (fillN qq (32 * pn) (fun _ => 0) k) ((32 * pn) + k) 0))))] H := hP
        have hD : va_D A [(m0, .inr (7, [.int (nI th), .ref a1, .ref a2, .int (nI vs), .ref a3, .int (nI bs), .int (nI ch), .int (nI mh), .int (nI me), .int (nI mb), .int (nI mn), .ref a4, .ref a5, .int (nI mw), .int (nI mr), .ref a6, .int (nI es), .int (nI (pn + 1)), .ref a7, .ref a8, .int (oI ah), .ref a9, .int (nI fs)])), (a7, .inl (cI, 300, .inl (nA (updN pp pn (96 * its + b))))), (a8, .inl (cI, 9600, .inl (nA (updN (fillN qq (32 * pn) (fun _ => 0) k) ((32 * pn) + k) 0))))] := hD
        refine lv_iinc (v := nI (k + 1)) (lv' := [(5, .int (nI (k + 1))), (0, .ref m0), (1, .int (nI its)), (2, .int (nI b)), (3, .int (nI ep)), (4, .int (nI (32 * pn)))]) hx hb d_Mod_beginBlock_55 hl (k := 5) rfl (inc1 k) (by decide) rfl (fun ls hl => ?_)
        refine lv_goto (tgt := 37) hx hb d_Mod_beginBlock_58 (by decide) ?_
        have e9 : updN (fillN qq (32 * pn) (fun _ => 0) k) ((32 * pn) + k) 0 = fillN qq (32 * pn) (fun _ => 0) (k + 1) := fillN_s _ _ _ _
        rw [e9] at hP hD
        exact ih (k + 1) (by omega) (by omega) _ _ _ (hP.sub [0, 1, 2] rfl) (hD.sub [0, 1, 2] (by decide) rfl) hS (lv_sub hl [1, 2, 3, 4, 5, 0] rfl)
  rw [← fillN_0 qq (32 * pn) (fun _ => 0)] at hP hD
  exact loop_37 33 0 (by omega) (by omega) _ _ _ (hP.sub [0, 1, 2] rfl) (hD.sub [0, 1, 2] (by decide) rfl) hS (lv_sub hl [2, 3, 4, 5, 1, 0] rfl)
abbrev rmm_planEntry : Room := { frames := 1, cells := 0, slots := 0, locals := 25 }
set_option maxHeartbeats 4000000 in
set_option maxRecDepth 100000 in
theorem m_planEntry (l : Launch) (dC : Nat → ClassId) (dI : Nat → Nat → Nat) (cI : ClassId) (sz : Nat) (m0 : Nat) (a1 : Nat) (a2 : Nat) (a3 : Nat) (a4 : Nat) (a5 : Nat) (a6 : Nat) (a7 : Nat) (a8 : Nat) (a9 : Nat) (th : Nat) (vs : Nat) (bs : Nat) (ch : Nat) (mh : Nat) (me : Nat) (mb : Nat) (mn : Nat) (mw : Nat) (mr : Nat) (es : Nat) (pn : Nat) (ah : Option Nat) (fs : Nat) (pp : Nat → Nat) (qq : Nat → Nat) (x0 : Nat) (gd : Nat → Nat) (gu : Nat) (its : Nat) (ep : Nat) (b : Nat) (hgu : gu ≤ 400) (hpn : pn + (gu + 25) / 26 ≤ 300) (hep : ep < 2 ^ 31) (hb0 : b < 2 ^ 20) : KI l y_Mod_planEntry w_Mod_planEntry rmm_planEntry (dC, dI) CL_ [(cI, .int)] sz [.ref m0, .ref x0, .int (nI gu), .int (nI its), .int (nI ep), .int (nI b)] [(m0, .inr (7, [.int (nI th), .ref a1, .ref a2, .int (nI vs), .ref a3, .int (nI bs), .int (nI ch), .int (nI mh), .int (nI me), .int (nI mb), .int (nI mn), .ref a4, .ref a5, .int (nI mw), .int (nI mr), .ref a6, .int (nI es), .int (nI pn), .ref a7, .ref a8, .int (oI ah), .ref a9, .int (nI fs)])), (a7, .inl (cI, 300, .inl (nA pp))), (a8, .inl (cI, 9600, .inl (nA qq))), (x0, .inl (cI, 400, .inl (nA gd)))] [(m0, .inr (7, [.int (nI th), .ref a1, .ref a2, .int (nI vs), .ref a3, .int (nI bs), .int (nI ch), .int (nI mh), .int (nI me), .int (nI mb), .int (nI mn), .ref a4, .ref a5, .int (nI mw), .int (nI mr), .ref a6, .int (nI es), .int (nI (pn + ((gu + 25) / 26))), .ref a7, .ref a8, .int (oI ah), .ref a9, .int (nI fs)])), (a7, .inl (cI, 300, .inl (nA (fillN pp pn (fun j => 96 * its + (b + j)) ((gu + 25) / 26))))), (a8, .inl (cI, 9600, .inl (nA (peB gd gu ep b qq pn ((gu + 25) / 26))))), (x0, .inl (cI, 400, .inl (nA gd)))] (nI (b + ((gu + 25) / 26))) := by
  refine k_start_i (cc := b_Mod_planEntry) (maxL := 11) (by decide) (Nat.le_of_ble_eq_true rfl) ?_
  intro p e s m args below meth c A QQ ls SS hK hP hD hA hl hN hret
  obtain ⟨hx, hb, hml, hown, hts⟩ := id SS
  have hl : lv_has ls 11 [(0, .ref m0), (1, .ref x0), (2, .int (nI gu)), (3, .int (nI its)), (4, .int (nI ep)), (5, .int (nI b))] := hl
  have hS : va_S A s.heap s.heap [] := va_S.rf
  refine lv_iload hx hb d_Mod_planEntry_0 (lv_at hl 5 rfl) ?_
  refine lv_istore (lv' := [(6, .int (nI b)), (0, .ref m0), (1, .ref x0), (2, .int (nI gu)), (3, .int (nI its)), (4, .int (nI ep)), (5, .int (nI b))]) hx hb d_Mod_planEntry_2 hl (by decide) rfl (fun ls hl => ?_)
  refine lv_iconst (v := nI 0) hx hb d_Mod_planEntry_4 (by decide) ?_
  refine lv_istore (lv' := [(7, .int (nI 0)), (6, .int (nI b)), (0, .ref m0), (1, .ref x0), (2, .int (nI gu)), (3, .int (nI its)), (4, .int (nI ep)), (5, .int (nI b))]) hx hb d_Mod_planEntry_5 hl (by decide) rfl (fun ls hl => ?_)
  have loop_7 : ∀ (n1 : Nat) (i : Nat), (i ≤ ((gu + 25) / 26)) → (((gu + 25) / 26) + 1 ≤ i + n1) → ∀ (H : Heap) (locs : List Loc) (ls : Array Slot), va_P (dC, dI) CL_ [(m0, .inr (7, [.int (nI th), .ref a1, .ref a2, .int (nI vs), .ref a3, .int (nI bs), .int (nI ch), .int (nI mh), .int (nI me), .int (nI mb), .int (nI mn), .ref a4, .ref a5, .int (nI mw), .int (nI mr), .ref a6, .int (nI es), .int (nI (pn + i)), .ref a7, .ref a8, .int (oI ah), .ref a9, .int (nI fs)])), (a7, .inl (cI, 300, .inl (nA (fillN pp pn (fun j => 96 * its + (b + j)) i)))), (a8, .inl (cI, 9600, .inl (nA (peB gd gu ep b qq pn i)))), (x0, .inl (cI, 400, .inl (nA gd)))] H → va_D A [(m0, .inr (7, [.int (nI th), .ref a1, .ref a2, .int (nI vs), .ref a3, .int (nI bs), .int (nI ch), .int (nI mh), .int (nI me), .int (nI mb), .int (nI mn), .ref a4, .ref a5, .int (nI mw), .int (nI mr), .ref a6, .int (nI es), .int (nI (pn + i)), .ref a7, .ref a8, .int (oI ah), .ref a9, .int (nI fs)])), (a7, .inl (cI, 300, .inl (nA (fillN pp pn (fun j => 96 * its + (b + j)) i)))), (a8, .inl (cI, 9600, .inl (nA (peB gd gu ep b qq pn i)))), (x0, .inl (cI, 400, .inl (nA gd)))] → va_S A s.heap H locs → lv_has ls 11 [(0, .ref m0), (1, .ref x0), (2, .int (nI gu)), (3, .int (nI its)), (4, .int (nI ep)), (5, .int (nI b)), (6, .int (nI (b + i))), (7, .int (nI (26 * i)))] → W p l e rmm_planEntry s m args below meth c H locs 0 0 QQ (F0 m 7 ls []) := by
    intro n1
    induction n1 with
    | zero =>
      intro i hi hf
      exact absurd hf (by omega)
    | succ n1 ih_n1 =>
      intro i hi hf H locs ls hP hD hS hl
      have join_82 : (26 * i < gu) → ∀ (H : Heap) (locs : List Loc) (ls : Array Slot), va_P (dC, dI) CL_ [(m0, .inr (7, [.int (nI th), .ref a1, .ref a2, .int (nI vs), .ref a3, .int (nI bs), .int (nI ch), .int (nI mh), .int (nI me), .int (nI mb), .int (nI mn), .ref a4, .ref a5, .int (nI mw), .int (nI mr), .ref a6, .int (nI es), .int (nI (pn + i + 1)), .ref a7, .ref a8, .int (oI ah), .ref a9, .int (nI fs)])), (a7, .inl (cI, 300, .inl (nA (fillN pp pn (fun j => 96 * its + (b + j)) (i + 1))))), (a8, .inl (cI, 9600, .inl (nA (fillN (peB gd gu ep b qq pn i) (32 * (pn + i)) (mHdr ep) 32)))), (x0, .inl (cI, 400, .inl (nA gd)))] H → va_D A [(m0, .inr (7, [.int (nI th), .ref a1, .ref a2, .int (nI vs), .ref a3, .int (nI bs), .int (nI ch), .int (nI mh), .int (nI me), .int (nI mb), .int (nI mn), .ref a4, .ref a5, .int (nI mw), .int (nI mr), .ref a6, .int (nI es), .int (nI (pn + i + 1)), .ref a7, .ref a8, .int (oI ah), .ref a9, .int (nI fs)])), (a7, .inl (cI, 300, .inl (nA (fillN pp pn (fun j => 96 * its + (b + j)) (i + 1))))), (a8, .inl (cI, 9600, .inl (nA (fillN (peB gd gu ep b qq pn i) (32 * (pn + i)) (mHdr ep) 32)))), (x0, .inl (cI, 400, .inl (nA gd)))] → va_S A s.heap H locs → lv_has ls 11 [(0, .ref m0), (1, .ref x0), (2, .int (nI gu)), (3, .int (nI its)), (4, .int (nI ep)), (5, .int (nI b)), (6, .int (nI (b + i))), (7, .int (nI (26 * i))), (8, .int (nI (min (gu - 26 * i) 26))), (9, .int (nI (32 * (pn + i))))] → W p l e rmm_planEntry s m args below meth c H locs 0 0 QQ (F0 m 82 ls [.int (nI (if 26 * i + (min (gu - 26 * i) 26) = gu then 128 else 0)), .int (nI ((min (gu - 26 * i) 26) + (if 26 * i = 0 then 64 else 0))), .int (nI (32 * (pn + i) + 2)), .ref a8]) := by
        intro  hlt H locs ls hP hD hS hl
        have hm1 : (min (gu - 26 * i) 26) ≤ 26 := Nat.min_le_right _ _
        have hm2 : (min (gu - 26 * i) 26) ≤ gu - 26 * i := Nat.min_le_left _ _
        refine n_iadd hx hb d_Mod_planEntry_82 ?_
        refine n_iast (f' := nA (updN (fillN (peB gd gu ep b qq pn i) (32 * (pn + i)) (mHdr ep) 32) (32 * (pn + i) + 2) (((min (gu - 26 * i) 26) + (if 26 * i = 0 then 64 else 0)) + (if 26 * i + (min (gu - 26 * i) 26) = gu then 128 else 0)))) hx hb hK hP hD hS 2 0 rfl rfl (nA_upd _ _ _) (by omega) (by omega) d_Mod_planEntry_83 (fun H locs hP hD hS => ?_)
        have hP : va_P (dC, dI) CL_ [(m0, .inr (7, [.int (nI th), .ref a1, .ref a2, .int (nI vs), .ref a3, .int (nI bs), .int (nI ch), .int (nI mh), .int (nI me), .int (nI mb), .int (nI mn), .ref a4, .ref a5, .int (nI mw), .int (nI mr), .ref a6, .int (nI es), .int (nI (pn + i + 1)), .ref a7, .ref a8, .int (oI ah), .ref a9, .int (nI fs)])), (a7, .inl (cI, 300, .inl (nA (fillN pp pn (fun j => 96 * its + (b + j)) (i + 1))))), (a8, .inl (cI, 9600, .inl (nA (updN (fillN (peB gd gu ep b qq pn i) (32 * (pn + i)) (mHdr ep) 32) (32 * (pn + i) + 2) (((min (gu - 26 * i) 26) + (if 26 * i = 0 then 64 else 0)) + (if 26 * i + (min (gu - 26 * i) 26) = gu then 128 else 0)))))), (x0, .inl (cI, 400, .inl (nA gd)))] H := hP
        have hD : va_D A [(m0, .inr (7, [.int (nI th), .ref a1, .ref a2, .int (nI vs), .ref a3, .int (nI bs), .int (nI ch), .int (nI mh), .int (nI me), .int (nI mb), .int (nI mn), .ref a4, .ref a5, .int (nI mw), .int (nI mr), .ref a6, .int (nI es), .int (nI (pn + i + 1)), .ref a7, .ref a8, .int (oI ah), .ref a9, .int (nI fs)])), (a7, .inl (cI, 300, .inl (nA (fillN pp pn (fun j => 96 * its + (b + j)) (i + 1))))), (a8, .inl (cI, 9600, .inl (nA (updN (fillN (peB gd gu ep b qq pn i) (32 * (pn + i)) (mHdr ep) 32) (32 * (pn + i) + 2) (((min (gu - 26 * i) 26) + (if 26 * i = 0 then 64 else 0)) + (if 26 * i + (min (gu - 26 * i) 26) = gu then 128 else 0)))))), (x0, .inl (cI, 400, .inl (nA gd)))] := hD
        rw [fillN_u (by decide)] at hP hD
        have hP : va_P (dC, dI) CL_ [(m0, .inr (7, [.int (nI th), .ref a1, .ref a2, .int (nI vs), .ref a3, .int (nI bs), .int (nI ch), .int (nI mh), .int (nI me), .int (nI mb), .int (nI mn), .ref a4, .ref a5, .int (nI mw), .int (nI mr), .ref a6, .int (nI es), .int (nI (pn + i + 1)), .ref a7, .ref a8, .int (oI ah), .ref a9, .int (nI fs)])), (a7, .inl (cI, 300, .inl (nA (fillN pp pn (fun j => 96 * its + (b + j)) (i + 1))))), (a8, .inl (cI, 9600, .inl (nA (fillN (peB gd gu ep b qq pn i) (32 * (pn + i)) (updN (mHdr ep) 2 ((min (gu - 26 * i) 26) + (if 26 * i = 0 then 64 else 0) + (if 26 * i + (min (gu - 26 * i) 26) = gu then 128 else 0))) 32)))), (x0, .inl (cI, 400, .inl (nA gd)))] H := hP
        have hD : va_D A [(m0, .inr (7, [.int (nI th), .ref a1, .ref a2, .int (nI vs), .ref a3, .int (nI bs), .int (nI ch), .int (nI mh), .int (nI me), .int (nI mb), .int (nI mn), .ref a4, .ref a5, .int (nI mw), .int (nI mr), .ref a6, .int (nI es), .int (nI (pn + i + 1)), .ref a7, .ref a8, .int (oI ah), .ref a9, .int (nI fs)])), (a7, .inl (cI, 300, .inl (nA (fillN pp pn (fun j => 96 * its + (b + j)) (i + 1))))), (a8, .inl (cI, 9600, .inl (nA (fillN (peB gd gu ep b qq pn i) (32 * (pn + i)) (updN (mHdr ep) 2 ((min (gu - 26 * i) 26) + (if 26 * i = 0 then 64 else 0) + (if 26 * i + (min (gu - 26 * i) 26) = gu then 128 else 0))) 32)))), (x0, .inl (cI, 400, .inl (nA gd)))] := hD
        refine lv_aload_n hx hb d_Mod_planEntry_84 rfl (lv_at hl 0 rfl) ?_
        refine va_get (D := (dC, dI)) (ci := 7) (v := .ref a8) (C := R_Mod) (T := F_Mod) (N := 23) hx hb hts in_Mod hown hK hP 0 rfl rfl 19 (by decide) (hts _ u_685) (fun _ h9 => h9) rfl d_Mod_planEntry_85 ?_
        refine lv_iload hx hb d_Mod_planEntry_88 (lv_at hl 9 rfl) ?_
        refine lv_iconst (v := nI 4) hx hb d_Mod_planEntry_90 (by decide) ?_
        refine n_iadd hx hb d_Mod_planEntry_91 ?_
        refine lv_iload hx hb d_Mod_planEntry_92 (lv_at hl 6 rfl) ?_
        refine lv_sipush (v := nI 255) hx hb d_Mod_planEntry_94 (by decide) ?_
        refine n_iandm hx hb d_Mod_planEntry_97 ?_
        refine n_iast (f' := nA (updN (fillN (peB gd gu ep b qq pn i) (32 * (pn + i)) (updN (mHdr ep) 2 ((min (gu - 26 * i) 26) + (if 26 * i = 0 then 64 else 0) + (if 26 * i + (min (gu - 26 * i) 26) = gu then 128 else 0))) 32) ((32 * (pn + i)) + 4) ((b + i) % 256))) hx hb hK hP hD hS 2 0 rfl rfl (nA_upd _ _ _) (by omega) (by omega) d_Mod_planEntry_98 (fun H locs hP hD hS => ?_)
        have hP : va_P (dC, dI) CL_ [(m0, .inr (7, [.int (nI th), .ref a1, .ref a2, .int (nI vs), .ref a3, .int (nI bs), .int (nI ch), .int (nI mh), .int (nI me), .int (nI mb), .int (nI mn), .ref a4, .ref a5, .int (nI mw), .int (nI mr), .ref a6, .int (nI es), .int (nI (pn + i + 1)), .ref a7, .ref a8, .int (oI ah), .ref a9, .int (nI fs)])), (a7, .inl (cI, 300, .inl (nA (fillN pp pn (fun j => 96 * its + (b + j)) (i + 1))))), (a8, .inl (cI, 9600, .inl (nA (updN (fillN (peB gd gu ep b qq pn i) (32 * (pn + i)) (updN (mHdr ep) 2 ((min (gu - 26 * i) 26) + (if 26 * i = 0 then 64 else 0) + (if 26 * i + (min (gu - 26 * i) 26) = gu then 128 else 0))) 32) ((32 * (pn + i)) + 4) ((b + i) % 256))))), (x0, .inl (cI, 400, .inl (nA gd)))] H := hP
        have hD : va_D A [(m0, .inr (7, [.int (nI th), .ref a1, .ref a2, .int (nI vs), .ref a3, .int (nI bs), .int (nI ch), .int (nI mh), .int (nI me), .int (nI mb), .int (nI mn), .ref a4, .ref a5, .int (nI mw), .int (nI mr), .ref a6, .int (nI es), .int (nI (pn + i + 1)), .ref a7, .ref a8, .int (oI ah), .ref a9, .int (nI fs)])), (a7, .inl (cI, 300, .inl (nA (fillN pp pn (fun j => 96 * its + (b + j)) (i + 1))))), (a8, .inl (cI, 9600, .inl (nA (updN (fillN (peB gd gu ep b qq pn i) (32 * (pn + i)) (updN (mHdr ep) 2 ((min (gu - 26 * i) 26) + (if 26 * i = 0 then 64 else 0) + (if 26 * i + (min (gu - 26 * i) 26) = gu then 128 else 0))) 32) ((32 * (pn + i)) + 4) ((b + i) % 256))))), (x0, .inl (cI, 400, .inl (nA gd)))] := hD
        rw [fillN_u (by decide)] at hP hD
        have hP : va_P (dC, dI) CL_ [(m0, .inr (7, [.int (nI th), .ref a1, .ref a2, .int (nI vs), .ref a3, .int (nI bs), .int (nI ch), .int (nI mh), .int (nI me), .int (nI mb), .int (nI mn), .ref a4, .ref a5, .int (nI mw), .int (nI mr), .ref a6, .int (nI es), .int (nI (pn + i + 1)), .ref a7, .ref a8, .int (oI ah), .ref a9, .int (nI fs)])), (a7, .inl (cI, 300, .inl (nA (fillN pp pn (fun j => 96 * its + (b + j)) (i + 1))))), (a8, .inl (cI, 9600, .inl (nA (fillN (peB gd gu ep b qq pn i) (32 * (pn + i)) (updN (updN (mHdr ep) 2 ((min (gu - 26 * i) 26) + (if 26 * i = 0 then 64 else 0) + (if 26 * i + (min (gu - 26 * i) 26) = gu then 128 else 0))) 4 ((b + i) % 256)) 32)))), (x0, .inl (cI, 400, .inl (nA gd)))] H := hP
        have hD : va_D A [(m0, .inr (7, [.int (nI th), .ref a1, .ref a2, .int (nI vs), .ref a3, .int (nI bs), .int (nI ch), .int (nI mh), .int (nI me), .int (nI mb), .int (nI mn), .ref a4, .ref a5, .int (nI mw), .int (nI mr), .ref a6, .int (nI es), .int (nI (pn + i + 1)), .ref a7, .ref a8, .int (oI ah), .ref a9, .int (nI fs)])), (a7, .inl (cI, 300, .inl (nA (fillN pp pn (fun j => 96 * its + (b + j)) (i + 1))))), (a8, .inl (cI, 9600, .inl (nA (fillN (peB gd gu ep b qq pn i) (32 * (pn + i)) (updN (updN (mHdr ep) 2 ((min (gu - 26 * i) 26) + (if 26 * i = 0 then 64 else 0) + (if 26 * i + (min (gu - 26 * i) 26) = gu then 128 else 0))) 4 ((b + i) % 256)) 32)))), (x0, .inl (cI, 400, .inl (nA gd)))] := hD
        refine lv_aload_n hx hb d_Mod_planEntry_99 rfl (lv_at hl 0 rfl) ?_
        refine va_get (D := (dC, dI)) (ci := 7) (v := .ref a8) (C := R_Mod) (T := F_Mod) (N := 23) hx hb hts in_Mod hown hK hP 0 rfl rfl 19 (by decide) (hts _ u_685) (fun _ h9 => h9) rfl d_Mod_planEntry_100 ?_
        refine lv_iload hx hb d_Mod_planEntry_103 (lv_at hl 9 rfl) ?_
        refine lv_iconst (v := nI 5) hx hb d_Mod_planEntry_105 (by decide) ?_
        refine n_iadd hx hb d_Mod_planEntry_106 ?_
        refine lv_iload hx hb d_Mod_planEntry_107 (lv_at hl 6 rfl) ?_
        refine lv_bipush (v := nI 8) hx hb d_Mod_planEntry_109 (by decide) ?_
        refine n_ishr8 hx hb d_Mod_planEntry_111 (by omega) ?_
        refine n_iast (f' := nA (updN (fillN (peB gd gu ep b qq pn i) (32 * (pn + i)) (updN (updN (mHdr ep) 2 ((min (gu - 26 * i) 26) + (if 26 * i = 0 then 64 else 0) + (if 26 * i + (min (gu - 26 * i) 26) = gu then 128 else 0))) 4 ((b + i) % 256)) 32) ((32 * (pn + i)) + 5) ((b + i) / 256))) hx hb hK hP hD hS 2 0 rfl rfl (nA_upd _ _ _) (by omega) (by omega) d_Mod_planEntry_112 (fun H locs hP hD hS => ?_)
        have hP : va_P (dC, dI) CL_ [(m0, .inr (7, [.int (nI th), .ref a1, .ref a2, .int (nI vs), .ref a3, .int (nI bs), .int (nI ch), .int (nI mh), .int (nI me), .int (nI mb), .int (nI mn), .ref a4, .ref a5, .int (nI mw), .int (nI mr), .ref a6, .int (nI es), .int (nI (pn + i + 1)), .ref a7, .ref a8, .int (oI ah), .ref a9, .int (nI fs)])), (a7, .inl (cI, 300, .inl (nA (fillN pp pn (fun j => 96 * its + (b + j)) (i + 1))))), (a8, .inl (cI, 9600, .inl (nA (updN (fillN (peB gd gu ep b qq pn i) (32 * (pn + i)) (updN (updN (mHdr ep) 2 ((min (gu - 26 * i) 26) + (if 26 * i = 0 then 64 else 0) + (if 26 * i + (min (gu - 26 * i) 26) = gu then 128 else 0))) 4 ((b + i) % 256)) 32) ((32 * (pn + i)) + 5) ((b + i) / 256))))), (x0, .inl (cI, 400, .inl (nA gd)))] H := hP
        have hD : va_D A [(m0, .inr (7, [.int (nI th), .ref a1, .ref a2, .int (nI vs), .ref a3, .int (nI bs), .int (nI ch), .int (nI mh), .int (nI me), .int (nI mb), .int (nI mn), .ref a4, .ref a5, .int (nI mw), .int (nI mr), .ref a6, .int (nI es), .int (nI (pn + i + 1)), .ref a7, .ref a8, .int (oI ah), .ref a9, .int (nI fs)])), (a7, .inl (cI, 300, .inl (nA (fillN pp pn (fun j => 96 * its + (b + j)) (i + 1))))), (a8, .inl (cI, 9600, .inl (nA (updN (fillN (peB gd gu ep b qq pn i) (32 * (pn + i)) (updN (updN (mHdr ep) 2 ((min (gu - 26 * i) 26) + (if 26 * i = 0 then 64 else 0) + (if 26 * i + (min (gu - 26 * i) 26) = gu then 128 else 0))) 4 ((b + i) % 256)) 32) ((32 * (pn + i)) + 5) ((b + i) / 256))))), (x0, .inl (cI, 400, .inl (nA gd)))] := hD
        rw [fillN_u (by decide)] at hP hD
        have hP : va_P (dC, dI) CL_ [(m0, .inr (7, [.int (nI th), .ref a1, .ref a2, .int (nI vs), .ref a3, .int (nI bs), .int (nI ch), .int (nI mh), .int (nI me), .int (nI mb), .int (nI mn), .ref a4, .ref a5, .int (nI mw), .int (nI mr), .ref a6, .int (nI es), .int (nI (pn + i + 1)), .ref a7, .ref a8, .int (oI ah), .ref a9, .int (nI fs)])), (a7, .inl (cI, 300, .inl (nA (fillN pp pn (fun j => 96 * its + (b + j)) (i + 1))))), (a8, .inl (cI, 9600, .inl (nA (fillN (peB gd gu ep b qq pn i) (32 * (pn + i)) (updN (updN (updN (mHdr ep) 2 ((min (gu - 26 * i) 26) + (if 26 * i = 0 then 64 else 0) + (if 26 * i + (min (gu - 26 * i) 26) = gu then 128 else 0))) 4 ((b + i) % 256)) 5 ((b + i) / 256)) 32)))), (x0, .inl (cI, 400, .inl (nA gd)))] H := hP
        have hD : va_D A [(m0, .inr (7, [.int (nI th), .ref a1, .ref a2, .int (nI vs), .ref a3, .int (nI bs), .int (nI ch), .int (nI mh), .int (nI me), .int (nI mb), .int (nI mn), .ref a4, .ref a5, .int (nI mw), .int (nI mr), .ref a6, .int (nI es), .int (nI (pn + i + 1)), .ref a7, .ref a8, .int (oI ah), .ref a9, .int (nI fs)])), (a7, .inl (cI, 300, .inl (nA (fillN pp pn (fun j => 96 * its + (b + j)) (i + 1))))), (a8, .inl (cI, 9600, .inl (nA (fillN (peB gd gu ep b qq pn i) (32 * (pn + i)) (updN (updN (updN (mHdr ep) 2 ((min (gu - 26 * i) 26) + (if 26 * i = 0 then 64 else 0) + (if 26 * i + (min (gu - 26 * i) 26) = gu then 128 else 0))) 4 ((b + i) % 256)) 5 ((b + i) / 256)) 32)))), (x0, .inl (cI, 400, .inl (nA gd)))] := hD
        refine lv_iconst (v := nI 0) hx hb d_Mod_planEntry_113 (by decide) ?_
        refine lv_istore (lv' := [(10, .int (nI 0)), (0, .ref m0), (1, .ref x0), (2, .int (nI gu)), (3, .int (nI its)), (4, .int (nI ep)), (5, .int (nI b)), (6, .int (nI (b + i))), (7, .int (nI (26 * i))), (8, .int (nI (min (gu - 26 * i) 26))), (9, .int (nI (32 * (pn + i))))]) hx hb d_Mod_planEntry_114 hl (by decide) rfl (fun ls hl => ?_)
        have loop_116 : ∀ (n2 : Nat) (k : Nat), (k ≤ (min (gu - 26 * i) 26)) → ((min (gu - 26 * i) 26) + 1 ≤ k + n2) → ∀ (H : Heap) (locs : List Loc) (ls : Array Slot), va_P (dC, dI) CL_ [(m0, .inr (7, [.int (nI th), .ref a1, .ref a2, .int (nI vs), .ref a3, .int (nI bs), .int (nI ch), .int (nI mh), .int (nI me), .int (nI mb), .int (nI mn), .ref a4, .ref a5, .int (nI mw), .int (nI mr), .ref a6, .int (nI es), .int (nI (pn + i + 1)), .ref a7, .ref a8, .int (oI ah), .ref a9, .int (nI fs)])), (a7, .inl (cI, 300, .inl (nA (fillN pp pn (fun j => 96 * its + (b + j)) (i + 1))))), (a8, .inl (cI, 9600, .inl (nA (fillN (peB gd gu ep b qq pn i) (32 * (pn + i)) (fillN (updN (updN (updN (mHdr ep) 2 ((min (gu - 26 * i) 26) + (if 26 * i = 0 then 64 else 0) + (if 26 * i + (min (gu - 26 * i) 26) = gu then 128 else 0))) 4 ((b + i) % 256)) 5 ((b + i) / 256)) 6 (fun k => gd (26 * i + k)) k) 32)))), (x0, .inl (cI, 400, .inl (nA gd)))] H → va_D A [(m0, .inr (7, [.int (nI th), .ref a1, .ref a2, .int (nI vs), .ref a3, .int (nI bs), .int (nI ch), .int (nI mh), .int (nI me), .int (nI mb), .int (nI mn), .ref a4, .ref a5, .int (nI mw), .int (nI mr), .ref a6, .int (nI es), .int (nI (pn + i + 1)), .ref a7, .ref a8, .int (oI ah), .ref a9, .int (nI fs)])), (a7, .inl (cI, 300, .inl (nA (fillN pp pn (fun j => 96 * its + (b + j)) (i + 1))))), (a8, .inl (cI, 9600, .inl (nA (fillN (peB gd gu ep b qq pn i) (32 * (pn + i)) (fillN (updN (updN (updN (mHdr ep) 2 ((min (gu - 26 * i) 26) + (if 26 * i = 0 then 64 else 0) + (if 26 * i + (min (gu - 26 * i) 26) = gu then 128 else 0))) 4 ((b + i) % 256)) 5 ((b + i) / 256)) 6 (fun k => gd (26 * i + k)) k) 32)))), (x0, .inl (cI, 400, .inl (nA gd)))] → va_S A s.heap H locs → lv_has ls 11 [(0, .ref m0), (1, .ref x0), (2, .int (nI gu)), (3, .int (nI its)), (4, .int (nI ep)), (5, .int (nI b)), (6, .int (nI (b + i))), (7, .int (nI (26 * i))), (8, .int (nI (min (gu - 26 * i) 26))), (9, .int (nI (32 * (pn + i)))), (10, .int (nI k))] → W p l e rmm_planEntry s m args below meth c H locs 0 0 QQ (F0 m 116 ls []) := by
          intro n2
          induction n2 with
          | zero =>
            intro k hk hf2
            exact absurd hf2 (by omega)
          | succ n2 ih_n2 =>
            intro k hk hf2 H locs ls hP hD hS hl
            refine lv_iload hx hb d_Mod_planEntry_116 (lv_at hl 10 rfl) ?_
            refine lv_iload hx hb d_Mod_planEntry_118 (lv_at hl 8 rfl) ?_
            refine n_icmp_ge (tgt := 149) hx hb d_Mod_planEntry_120 (by decide) (by omega) (by omega) (fun c_120 => ?_) (fun c_120 => ?_)
            · skip
              have hq : k = (min (gu - 26 * i) 26) := by omega
              rw [hq] at hP hD
              have hP : va_P (dC, dI) CL_ [(m0, .inr (7, [.int (nI th), .ref a1, .ref a2, .int (nI vs), .ref a3, .int (nI bs), .int (nI ch), .int (nI mh), .int (nI me), .int (nI mb), .int (nI mn), .ref a4, .ref a5, .int (nI mw), .int (nI mr), .ref a6, .int (nI es), .int (nI (pn + i + 1)), .ref a7, .ref a8, .int (oI ah), .ref a9, .int (nI fs)])), (a7, .inl (cI, 300, .inl (nA (fillN pp pn (fun j => 96 * its + (b + j)) (i + 1))))), (a8, .inl (cI, 9600, .inl (nA (fillN (peB gd gu ep b qq pn i) (32 * (pn + i)) (fillN (updN (updN (updN (mHdr ep) 2 ((min (gu - 26 * i) 26) + (if 26 * i = 0 then 64 else 0) + (if 26 * i + (min (gu - 26 * i) 26) = gu then 128 else 0))) 4 ((b + i) % 256)) 5 ((b + i) / 256)) 6 (fun k => gd (26 * i + k)) (min (gu - 26 * i) 26)) 32)))), (x0, .inl (cI, 400, .inl (nA gd)))] H := hP
              have hD : va_D A [(m0, .inr (7, [.int (nI th), .ref a1, .ref a2, .int (nI vs), .ref a3, .int (nI bs), .int (nI ch), .int (nI mh), .int (nI me), .int (nI mb), .int (nI mn), .ref a4, .ref a5, .int (nI mw), .int (nI mr), .ref a6, .int (nI es), .int (nI (pn + i + 1)), .ref a7, .ref a8, .int (oI ah), .ref a9, .int (nI fs)])), (a7, .inl (cI, 300, .inl (nA (fillN pp pn (fun j => 96 * its + (b + j)) (i + 1))))), (a8, .inl (cI, 9600, .inl (nA (fillN (peB gd gu ep b qq pn i) (32 * (pn + i)) (fillN (updN (updN (updN (mHdr ep) 2 ((min (gu - 26 * i) 26) + (if 26 * i = 0 then 64 else 0) + (if 26 * i + (min (gu - 26 * i) 26) = gu then 128 else 0))) 4 ((b + i) % 256)) 5 ((b + i) / 256)) 6 (fun k => gd (26 * i + k)) (min (gu - 26 * i) 26)) 32)))), (x0, .inl (cI, 400, .inl (nA gd)))] := hD
              refine lv_aload_n hx hb d_Mod_planEntry_149 rfl (lv_at hl 0 rfl) ?_
              refine lv_iload hx hb d_Mod_planEntry_150 (lv_at hl 9 rfl) ?_
              refine kj_v (wr := [(a7, .inl (cI, 300, .inl (nA (fillN pp pn (fun j => 96 * its + (b + j)) (i + 1))))), (x0, .inl (cI, 400, .inl (nA gd)))]) (va_runV (As := [.int (nI (32 * (pn + i)))]) (rest := []) SS (m_setSum l dC dI cI H.size m0 a1 a2 a3 a4 a5 a6 a7 a8 a9 th vs bs ch mh me mb mn mw mr es (pn + i + 1) ah fs (fillN (peB gd gu ep b qq pn i) (32 * (pn + i)) (fillN (updN (updN (updN (mHdr ep) 2 ((min (gu - 26 * i) 26) + (if 26 * i = 0 then 64 else 0) + (if 26 * i + (min (gu - 26 * i) 26) = gu then 128 else 0))) 4 ((b + i) % 256)) 5 ((b + i) / 256)) 6 (fun k => gd (26 * i + k)) (min (gu - 26 * i) 26)) 32) (32 * (pn + i)) (by omega)) (k_cwV 1 hts u_783 u_785 u_30 u_43 u_786 rfl rfl (by decide +kernel) ⟨Nat.le_of_ble_eq_true rfl, Nat.le_of_ble_eq_true rfl⟩) (kp_V hN hK [0] rfl hP hD [0, 2] rfl (by decide) (ci := 7) rfl 0 rfl) rfl rfl hl.1 rfl (lv_room (Nat.le_of_ble_eq_true rfl)) d_Mod_planEntry_152 ⟨Nat.le_of_ble_eq_true rfl, Nat.le_of_ble_eq_true rfl⟩) hP hD hS hA [0, 2] [1, 3] rfl rfl (by decide) (by decide) (fun H locs hP hD hS => ?_)
              have hP : va_P (dC, dI) CL_ [(a7, .inl (cI, 300, .inl (nA (fillN pp pn (fun j => 96 * its + (b + j)) (i + 1))))), (x0, .inl (cI, 400, .inl (nA gd))), (m0, .inr (7, [.int (nI th), .ref a1, .ref a2, .int (nI vs), .ref a3, .int (nI bs), .int (nI ch), .int (nI mh), .int (nI me), .int (nI mb), .int (nI mn), .ref a4, .ref a5, .int (nI mw), .int (nI mr), .ref a6, .int (nI es), .int (nI (pn + i + 1)), .ref a7, .ref a8, .int (oI ah), .ref a9, .int (nI fs)])), (a8, .inl (cI, 9600, .inl (nA (updN (fillN (peB gd gu ep b qq pn i) (32 * (pn + i)) (fillN (updN (updN (updN (mHdr ep) 2 ((min (gu - 26 * i) 26) + (if 26 * i = 0 then 64 else 0) + (if 26 * i + (min (gu - 26 * i) 26) = gu then 128 else 0))) 4 ((b + i) % 256)) 5 ((b + i) / 256)) 6 (fun k => gd (26 * i + k)) (min (gu - 26 * i) 26)) 32) ((32 * (pn + i)) + 3) (sumN (fillN (peB gd gu ep b qq pn i) (32 * (pn + i)) (fillN (updN (updN (updN (mHdr ep) 2 ((min (gu - 26 * i) 26) + (if 26 * i = 0 then 64 else 0) + (if 26 * i + (min (gu - 26 * i) 26) = gu then 128 else 0))) 4 ((b + i) % 256)) 5 ((b + i) / 256)) 6 (fun k => gd (26 * i + k)) (min (gu - 26 * i) 26)) 32) (32 * (pn + i)))))))] H := hP
              have hD : va_D A [(a7, .inl (cI, 300, .inl (nA (fillN pp pn (fun j => 96 * its + (b + j)) (i + 1))))), (x0, .inl (cI, 400, .inl (nA gd))), (m0, .inr (7, [.int (nI th), .ref a1, .ref a2, .int (nI vs), .ref a3, .int (nI bs), .int (nI ch), .int (nI mh), .int (nI me), .int (nI mb), .int (nI mn), .ref a4, .ref a5, .int (nI mw), .int (nI mr), .ref a6, .int (nI es), .int (nI (pn + i + 1)), .ref a7, .ref a8, .int (oI ah), .ref a9, .int (nI fs)])), (a8, .inl (cI, 9600, .inl (nA (updN (fillN (peB gd gu ep b qq pn i) (32 * (pn + i)) (fillN (updN (updN (updN (mHdr ep) 2 ((min (gu - 26 * i) 26) + (if 26 * i = 0 then 64 else 0) + (if 26 * i + (min (gu - 26 * i) 26) = gu then 128 else 0))) 4 ((b + i) % 256)) 5 ((b + i) / 256)) 6 (fun k => gd (26 * i + k)) (min (gu - 26 * i) 26)) 32) ((32 * (pn + i)) + 3) (sumN (fillN (peB gd gu ep b qq pn i) (32 * (pn + i)) (fillN (updN (updN (updN (mHdr ep) 2 ((min (gu - 26 * i) 26) + (if 26 * i = 0 then 64 else 0) + (if 26 * i + (min (gu - 26 * i) 26) = gu then 128 else 0))) 4 ((b + i) % 256)) 5 ((b + i) / 256)) 6 (fun k => gd (26 * i + k)) (min (gu - 26 * i) 26)) 32) (32 * (pn + i)))))))] := hD
              rw [sumN_fill, fillN_u (by decide)] at hP hD
              have hP : va_P (dC, dI) CL_ [(a7, .inl (cI, 300, .inl (nA (fillN pp pn (fun j => 96 * its + (b + j)) (i + 1))))), (x0, .inl (cI, 400, .inl (nA gd))), (m0, .inr (7, [.int (nI th), .ref a1, .ref a2, .int (nI vs), .ref a3, .int (nI bs), .int (nI ch), .int (nI mh), .int (nI me), .int (nI mb), .int (nI mn), .ref a4, .ref a5, .int (nI mw), .int (nI mr), .ref a6, .int (nI es), .int (nI (pn + i + 1)), .ref a7, .ref a8, .int (oI ah), .ref a9, .int (nI fs)])), (a8, .inl (cI, 9600, .inl (nA (peB gd gu ep b qq pn (i + 1)))))] H := hP
              have hD : va_D A [(a7, .inl (cI, 300, .inl (nA (fillN pp pn (fun j => 96 * its + (b + j)) (i + 1))))), (x0, .inl (cI, 400, .inl (nA gd))), (m0, .inr (7, [.int (nI th), .ref a1, .ref a2, .int (nI vs), .ref a3, .int (nI bs), .int (nI ch), .int (nI mh), .int (nI me), .int (nI mb), .int (nI mn), .ref a4, .ref a5, .int (nI mw), .int (nI mr), .ref a6, .int (nI es), .int (nI (pn + i + 1)), .ref a7, .ref a8, .int (oI ah), .ref a9, .int (nI fs)])), (a8, .inl (cI, 9600, .inl (nA (peB gd gu ep b qq pn (i + 1)))))] := hD
              refine lv_iinc (v := nI ((b + i) + 1)) (lv' := [(6, .int (nI ((b + i) + 1))), (0, .ref m0), (1, .ref x0), (2, .int (nI gu)), (3, .int (nI its)), (4, .int (nI ep)), (5, .int (nI b)), (7, .int (nI (26 * i))), (8, .int (nI (min (gu - 26 * i) 26))), (9, .int (nI (32 * (pn + i)))), (10, .int (nI k))]) hx hb d_Mod_planEntry_155 hl (k := 6) rfl (inc1 (b + i)) (by decide) rfl (fun ls hl => ?_)
              refine lv_iinc (v := nI ((26 * i) + 26)) (lv' := [(7, .int (nI ((26 * i) + 26))), (6, .int (nI ((b + i) + 1))), (0, .ref m0), (1, .ref x0), (2, .int (nI gu)), (3, .int (nI its)), (4, .int (nI ep)), (5, .int (nI b)), (8, .int (nI (min (gu - 26 * i) 26))), (9, .int (nI (32 * (pn + i)))), (10, .int (nI k))]) hx hb d_Mod_planEntry_158 hl (k := 7) rfl (incn (26 * i) 26 rfl) (by decide) rfl (fun ls hl => ?_)
              refine lv_goto (tgt := 7) hx hb d_Mod_planEntry_161 (by decide) ?_
              exact ih_n1 (i + 1) (by omega) (by omega) _ _ _ (hP.sub [2, 0, 3, 1] rfl) (hD.sub [2, 0, 3, 1] (by decide) rfl) hS (lv_sub hl [2, 3, 4, 5, 6, 7, 1, 0] rfl)
            · skip
              refine lv_aload_n hx hb d_Mod_planEntry_123 rfl (lv_at hl 0 rfl) ?_
              refine va_get (D := (dC, dI)) (ci := 7) (v := .ref a8) (C := R_Mod) (T := F_Mod) (N := 23) hx hb hts in_Mod hown hK hP 0 rfl rfl 19 (by decide) (hts _ u_685) (fun _ h9 => h9) rfl d_Mod_planEntry_124 ?_
              refine lv_iload hx hb d_Mod_planEntry_127 (lv_at hl 9 rfl) ?_
              refine lv_bipush (v := nI 6) hx hb d_Mod_planEntry_129 (by decide) ?_
              refine n_iadd hx hb d_Mod_planEntry_131 ?_
              refine lv_iload hx hb d_Mod_planEntry_132 (lv_at hl 10 rfl) ?_
              refine n_iadd hx hb d_Mod_planEntry_134 ?_
              refine lv_aload_n hx hb d_Mod_planEntry_135 rfl (lv_at hl 1 rfl) ?_
              refine lv_iload hx hb d_Mod_planEntry_136 (lv_at hl 7 rfl) ?_
              refine lv_iload hx hb d_Mod_planEntry_138 (lv_at hl 10 rfl) ?_
              refine n_iadd hx hb d_Mod_planEntry_140 ?_
              refine n_iald (v := nI (gd ((26 * i) + k))) hx hb hK hP 3 0 rfl rfl rfl (by omega) (by omega) d_Mod_planEntry_141 ?_
              refine n_iast (f' := nA (updN (fillN (peB gd gu ep b qq pn i) (32 * (pn + i)) (fillN (updN (updN (updN (mHdr ep) 2 ((min (gu - 26 * i) 26) + (if 26 * i = 0 then 64 else 0) + (if 26 * i + (min (gu - 26 * i) 26) = gu then 128 else 0))) 4 ((b + i) % 256)) 5 ((b + i) / 256)) 6 (fun k => gd (26 * i + k)) k) 32) (((32 * (pn + i)) + 6) + k) (gd ((26 * i) + k)))) hx hb hK hP hD hS 2 0 rfl rfl (nA_upd _ _ _) (by omega) (by omega) d_Mod_planEntry_142 (fun H locs hP hD hS => ?_)
              have hP : va_P (dC, dI) CL_ [(m0, .inr (7, [.int (nI th), .ref a1, .ref a2, .int (nI vs), .ref a3, .int (nI bs), .int (nI ch), .int (nI mh), .int (nI me), .int (nI mb), .int (nI mn), .ref a4, .ref a5, .int (nI mw), .int (nI mr), .ref a6, .int (nI es), .int (nI (pn + i + 1)), .ref a7, .ref a8, .int (oI ah), .ref a9, .int (nI fs)])), (a7, .inl (cI, 300, .inl (nA (fillN pp pn (fun j => 96 * its + (b + j)) (i + 1))))), (a8, .inl (cI, 9600, .inl (nA (updN (fillN (peB gd gu ep b qq pn i) (32 * (pn + i)) (fillN (updN (updN (updN (mHdr ep) 2 ((min (gu - 26 * i) 26) + (if 26 * i = 0 then 64 else 0) + (if 26 * i + (min (gu - 26 * i) 26) = gu then 128 else 0))) 4 ((b + i) % 256)) 5 ((b + i) / 256)) 6 (fun k => gd (26 * i + k)) k) 32) (((32 * (pn + i)) + 6) + k) (gd ((26 * i) + k)))))), (x0, .inl (cI, 400, .inl (nA gd)))] H := hP
              have hD : va_D A [(m0, .inr (7, [.int (nI th), .ref a1, .ref a2, .int (nI vs), .ref a3, .int (nI bs), .int (nI ch), .int (nI mh), .int (nI me), .int (nI mb), .int (nI mn), .ref a4, .ref a5, .int (nI mw), .int (nI mr), .ref a6, .int (nI es), .int (nI (pn + i + 1)), .ref a7, .ref a8, .int (oI ah), .ref a9, .int (nI fs)])), (a7, .inl (cI, 300, .inl (nA (fillN pp pn (fun j => 96 * its + (b + j)) (i + 1))))), (a8, .inl (cI, 9600, .inl (nA (updN (fillN (peB gd gu ep b qq pn i) (32 * (pn + i)) (fillN (updN (updN (updN (mHdr ep) 2 ((min (gu - 26 * i) 26) + (if 26 * i = 0 then 64 else 0) + (if 26 * i + (min (gu - 26 * i) 26) = gu then 128 else 0))) 4 ((b + i) % 256)) 5 ((b + i) / 256)) 6 (fun k => gd (26 * i + k)) k) 32) (((32 * (pn + i)) + 6) + k) (gd ((26 * i) + k)))))), (x0, .inl (cI, 400, .inl (nA gd)))] := hD
              refine lv_iinc (v := nI (k + 1)) (lv' := [(10, .int (nI (k + 1))), (0, .ref m0), (1, .ref x0), (2, .int (nI gu)), (3, .int (nI its)), (4, .int (nI ep)), (5, .int (nI b)), (6, .int (nI (b + i))), (7, .int (nI (26 * i))), (8, .int (nI (min (gu - 26 * i) 26))), (9, .int (nI (32 * (pn + i))))]) hx hb d_Mod_planEntry_143 hl (k := 10) rfl (inc1 k) (by decide) rfl (fun ls hl => ?_)
              refine lv_goto (tgt := 116) hx hb d_Mod_planEntry_146 (by decide) ?_
              have e9 : updN (fillN (peB gd gu ep b qq pn i) (32 * (pn + i)) (fillN (updN (updN (updN (mHdr ep) 2 ((min (gu - 26 * i) 26) + (if 26 * i = 0 then 64 else 0) + (if 26 * i + (min (gu - 26 * i) 26) = gu then 128 else 0))) 4 ((b + i) % 256)) 5 ((b + i) / 256)) 6 (fun k => gd (26 * i + k)) k) 32) ((32 * (pn + i)) + 6 + k) (gd (26 * i + k)) = fillN (peB gd gu ep b qq pn i) (32 * (pn + i)) (fillN (updN (updN (updN (mHdr ep) 2 ((min (gu - 26 * i) 26) + (if 26 * i = 0 then 64 else 0) + (if 26 * i + (min (gu - 26 * i) 26) = gu then 128 else 0))) 4 ((b + i) % 256)) 5 ((b + i) / 256)) 6 (fun k => gd (26 * i + k)) (k + 1)) 32 := by rw [Nat.add_assoc (32 * (pn + i)) 6 k, fillN_u (by omega : 6 + k < 32)]; rw [show updN (fillN (updN (updN (updN (mHdr ep) 2 ((min (gu - 26 * i) 26) + (if 26 * i = 0 then 64 else 0) + (if 26 * i + (min (gu - 26 * i) 26) = gu then 128 else 0))) 4 ((b + i) % 256)) 5 ((b + i) / 256)) 6 (fun k => gd (26 * i + k)) k) (6 + k) (gd (26 * i + k)) = fillN (updN (updN (updN (mHdr ep) 2 ((min (gu - 26 * i) 26) + (if 26 * i = 0 then 64 else 0) + (if 26 * i + (min (gu - 26 * i) 26) = gu then 128 else 0))) 4 ((b + i) % 256)) 5 ((b + i) / 256)) 6 (fun k => gd (26 * i + k)) (k + 1) from fillN_s _ _ _ _]
              rw [e9] at hP hD
              exact ih_n2 (k + 1) (by omega) (by omega) _ _ _ (hP.sub [0, 1, 2, 3] rfl) (hD.sub [0, 1, 2, 3] (by decide) rfl) hS (lv_sub hl [1, 2, 3, 4, 5, 6, 7, 8, 9, 10, 0] rfl)
        rw [← fillN_0 (updN (updN (updN (mHdr ep) 2 ((min (gu - 26 * i) 26) + (if 26 * i = 0 then 64 else 0) + (if 26 * i + (min (gu - 26 * i) 26) = gu then 128 else 0))) 4 ((b + i) % 256)) 5 ((b + i) / 256)) 6 (fun k => gd (26 * i + k))] at hP hD
        exact loop_116 ((min (gu - 26 * i) 26) + 1) 0 (by omega) (by omega) _ _ _ (hP.sub [0, 1, 2, 3] rfl) (hD.sub [0, 1, 2, 3] (by decide) rfl) hS (lv_sub hl [1, 2, 3, 4, 5, 6, 7, 8, 9, 10, 0] rfl)
      have join_65 : (26 * i < gu) → ∀ (H : Heap) (locs : List Loc) (ls : Array Slot), va_P (dC, dI) CL_ [(m0, .inr (7, [.int (nI th), .ref a1, .ref a2, .int (nI vs), .ref a3, .int (nI bs), .int (nI ch), .int (nI mh), .int (nI me), .int (nI mb), .int (nI mn), .ref a4, .ref a5, .int (nI mw), .int (nI mr), .ref a6, .int (nI es), .int (nI (pn + i + 1)), .ref a7, .ref a8, .int (oI ah), .ref a9, .int (nI fs)])), (a7, .inl (cI, 300, .inl (nA (fillN pp pn (fun j => 96 * its + (b + j)) (i + 1))))), (a8, .inl (cI, 9600, .inl (nA (fillN (peB gd gu ep b qq pn i) (32 * (pn + i)) (mHdr ep) 32)))), (x0, .inl (cI, 400, .inl (nA gd)))] H → va_D A [(m0, .inr (7, [.int (nI th), .ref a1, .ref a2, .int (nI vs), .ref a3, .int (nI bs), .int (nI ch), .int (nI mh), .int (nI me), .int (nI mb), .int (nI mn), .ref a4, .ref a5, .int (nI mw), .int (nI mr), .ref a6, .int (nI es), .int (nI (pn + i + 1)), .ref a7, .ref a8, .int (oI ah), .ref a9, .int (nI fs)])), (a7, .inl (cI, 300, .inl (nA (fillN pp pn (fun j => 96 * its + (b + j)) (i + 1))))), (a8, .inl (cI, 9600, .inl (nA (fillN (peB gd gu ep b qq pn i) (32 * (pn + i)) (mHdr ep) 32)))), (x0, .inl (cI, 400, .inl (nA gd)))] → va_S A s.heap H locs → lv_has ls 11 [(0, .ref m0), (1, .ref x0), (2, .int (nI gu)), (3, .int (nI its)), (4, .int (nI ep)), (5, .int (nI b)), (6, .int (nI (b + i))), (7, .int (nI (26 * i))), (8, .int (nI (min (gu - 26 * i) 26))), (9, .int (nI (32 * (pn + i))))] → W p l e rmm_planEntry s m args below meth c H locs 0 0 QQ (F0 m 65 ls [.int (nI (if 26 * i = 0 then 64 else 0)), .int (nI (min (gu - 26 * i) 26)), .int (nI (32 * (pn + i) + 2)), .ref a8]) := by
        intro  hlt H locs ls hP hD hS hl
        have hm1 : (min (gu - 26 * i) 26) ≤ 26 := Nat.min_le_right _ _
        have hm2 : (min (gu - 26 * i) 26) ≤ gu - 26 * i := Nat.min_le_left _ _
        refine n_iadd hx hb d_Mod_planEntry_65 ?_
        refine lv_iload hx hb d_Mod_planEntry_66 (lv_at hl 7 rfl) ?_
        refine lv_iload hx hb d_Mod_planEntry_68 (lv_at hl 8 rfl) ?_
        refine n_iadd hx hb d_Mod_planEntry_70 ?_
        refine lv_iload_n hx hb d_Mod_planEntry_71 rfl (lv_at hl 2 rfl) ?_
        refine n_icmp_ne (tgt := 81) hx hb d_Mod_planEntry_72 (by decide) (by omega) (by omega) (fun c_72 => ?_) (fun c_72 => ?_)
        · skip
          refine lv_iconst (v := nI 0) hx hb d_Mod_planEntry_81 (by decide) ?_
          refine top_i (nI (if 26 * i + (min (gu - 26 * i) 26) = gu then 128 else 0)) (by first | rw [if_pos c_72] | rw [if_neg c_72]) ?_
          exact join_82 hlt _ _ _ (hP.sub [0, 1, 2, 3] rfl) (hD.sub [0, 1, 2, 3] (by decide) rfl) hS (lv_sub hl [0, 1, 2, 3, 4, 5, 6, 7, 8, 9] rfl)
        · skip
          refine lv_sipush (v := nI 128) hx hb d_Mod_planEntry_75 (by decide) ?_
          refine lv_goto (tgt := 82) hx hb d_Mod_planEntry_78 (by decide) ?_
          refine top_i (nI (if 26 * i + (min (gu - 26 * i) 26) = gu then 128 else 0)) (by first | rw [if_pos c_72] | rw [if_neg c_72]) ?_
          exact join_82 hlt _ _ _ (hP.sub [0, 1, 2, 3] rfl) (hD.sub [0, 1, 2, 3] (by decide) rfl) hS (lv_sub hl [0, 1, 2, 3, 4, 5, 6, 7, 8, 9] rfl)
      have join_31 : (26 * i < gu) → ∀ (H : Heap) (locs : List Loc) (ls : Array Slot), va_P (dC, dI) CL_ [(m0, .inr (7, [.int (nI th), .ref a1, .ref a2, .int (nI vs), .ref a3, .int (nI bs), .int (nI ch), .int (nI mh), .int (nI me), .int (nI mb), .int (nI mn), .ref a4, .ref a5, .int (nI mw), .int (nI mr), .ref a6, .int (nI es), .int (nI (pn + i)), .ref a7, .ref a8, .int (oI ah), .ref a9, .int (nI fs)])), (a7, .inl (cI, 300, .inl (nA (fillN pp pn (fun j => 96 * its + (b + j)) i)))), (a8, .inl (cI, 9600, .inl (nA (peB gd gu ep b qq pn i)))), (x0, .inl (cI, 400, .inl (nA gd)))] H → va_D A [(m0, .inr (7, [.int (nI th), .ref a1, .ref a2, .int (nI vs), .ref a3, .int (nI bs), .int (nI ch), .int (nI mh), .int (nI me), .int (nI mb), .int (nI mn), .ref a4, .ref a5, .int (nI mw), .int (nI mr), .ref a6, .int (nI es), .int (nI (pn + i)), .ref a7, .ref a8, .int (oI ah), .ref a9, .int (nI fs)])), (a7, .inl (cI, 300, .inl (nA (fillN pp pn (fun j => 96 * its + (b + j)) i)))), (a8, .inl (cI, 9600, .inl (nA (peB gd gu ep b qq pn i)))), (x0, .inl (cI, 400, .inl (nA gd)))] → va_S A s.heap H locs → lv_has ls 11 [(0, .ref m0), (1, .ref x0), (2, .int (nI gu)), (3, .int (nI its)), (4, .int (nI ep)), (5, .int (nI b)), (6, .int (nI (b + i))), (7, .int (nI (26 * i)))] → W p l e rmm_planEntry s m args below meth c H locs 0 0 QQ (F0 m 31 ls [.int (nI (min (gu - 26 * i) 26))]) := by
        intro  hlt H locs ls hP hD hS hl
        have hm1 : (min (gu - 26 * i) 26) ≤ 26 := Nat.min_le_right _ _
        have hm2 : (min (gu - 26 * i) 26) ≤ gu - 26 * i := Nat.min_le_left _ _
        refine lv_istore (lv' := [(8, .int (nI (min (gu - 26 * i) 26))), (0, .ref m0), (1, .ref x0), (2, .int (nI gu)), (3, .int (nI its)), (4, .int (nI ep)), (5, .int (nI b)), (6, .int (nI (b + i))), (7, .int (nI (26 * i)))]) hx hb d_Mod_planEntry_31 hl (by decide) rfl (fun ls hl => ?_)
        refine lv_aload_n hx hb d_Mod_planEntry_33 rfl (lv_at hl 1 rfl) ?_
        refine lv_iload_n hx hb d_Mod_planEntry_34 rfl (lv_at hl 4 rfl) ?_
        refine lv_iload hx hb d_Mod_planEntry_35 (lv_at hl 7 rfl) ?_
        refine lv_iload hx hb d_Mod_planEntry_37 (lv_at hl 5 rfl) ?_
        refine kj_i (wr := [(x0, .inl (cI, 400, .inl (nA gd)))]) (va_runV (As := [.int (nI its), .int (nI (b + i)), .int (nI ep)]) (rest := []) SS (m_beginBlock l dC dI cI H.size m0 a1 a2 a3 a4 a5 a6 a7 a8 a9 th vs bs ch mh me mb mn mw mr es (pn + i) ah fs (fillN pp pn (fun j => 96 * its + (b + j)) i) (peB gd gu ep b qq pn i) its (b + i) ep (by omega) (by omega)) (k_cwV 3 hts u_779 u_781 u_29 u_43 u_782 rfl rfl (by decide +kernel) ⟨Nat.le_of_ble_eq_true rfl, Nat.le_of_ble_eq_true rfl⟩) (kp_V hN hK [0] rfl hP hD [0, 1, 2] rfl (by decide) (ci := 7) rfl 0 rfl) rfl rfl hl.1 rfl (lv_room (Nat.le_of_ble_eq_true rfl)) d_Mod_planEntry_39 ⟨Nat.le_of_ble_eq_true rfl, Nat.le_of_ble_eq_true rfl⟩) hP hD hS hA [0, 1, 2] [3] rfl rfl (by decide) (by decide) (fun H locs hP hD hS => ?_)
        have hP : va_P (dC, dI) CL_ [(x0, .inl (cI, 400, .inl (nA gd))), (m0, .inr (7, [.int (nI th), .ref a1, .ref a2, .int (nI vs), .ref a3, .int (nI bs), .int (nI ch), .int (nI mh), .int (nI me), .int (nI mb), .int (nI mn), .ref a4, .ref a5, .int (nI mw), .int (nI mr), .ref a6, .int (nI es), .int (nI ((pn + i) + 1)), .ref a7, .ref a8, .int (oI ah), .ref a9, .int (nI fs)])), (a7, .inl (cI, 300, .inl (nA (updN (fillN pp pn (fun j => 96 * its + (b + j)) i) (pn + i) (96 * its + (b + i)))))), (a8, .inl (cI, 9600, .inl (nA (fillN (peB gd gu ep b qq pn i) (32 * (pn + i)) (mHdr ep) 32))))] H := hP
        have hD : va_D A [(x0, .inl (cI, 400, .inl (nA gd))), (m0, .inr (7, [.int (nI th), .ref a1, .ref a2, .int (nI vs), .ref a3, .int (nI bs), .int (nI ch), .int (nI mh), .int (nI me), .int (nI mb), .int (nI mn), .ref a4, .ref a5, .int (nI mw), .int (nI mr), .ref a6, .int (nI es), .int (nI ((pn + i) + 1)), .ref a7, .ref a8, .int (oI ah), .ref a9, .int (nI fs)])), (a7, .inl (cI, 300, .inl (nA (updN (fillN pp pn (fun j => 96 * its + (b + j)) i) (pn + i) (96 * its + (b + i)))))), (a8, .inl (cI, 9600, .inl (nA (fillN (peB gd gu ep b qq pn i) (32 * (pn + i)) (mHdr ep) 32))))] := hD
        rw [fillN_s pp pn (fun j => 96 * its + (b + j)) i] at hP hD
        have hP : va_P (dC, dI) CL_ [(x0, .inl (cI, 400, .inl (nA gd))), (m0, .inr (7, [.int (nI th), .ref a1, .ref a2, .int (nI vs), .ref a3, .int (nI bs), .int (nI ch), .int (nI mh), .int (nI me), .int (nI mb), .int (nI mn), .ref a4, .ref a5, .int (nI mw), .int (nI mr), .ref a6, .int (nI es), .int (nI ((pn + i) + 1)), .ref a7, .ref a8, .int (oI ah), .ref a9, .int (nI fs)])), (a7, .inl (cI, 300, .inl (nA (fillN pp pn (fun j => 96 * its + (b + j)) (i + 1))))), (a8, .inl (cI, 9600, .inl (nA (fillN (peB gd gu ep b qq pn i) (32 * (pn + i)) (mHdr ep) 32))))] H := hP
        have hD : va_D A [(x0, .inl (cI, 400, .inl (nA gd))), (m0, .inr (7, [.int (nI th), .ref a1, .ref a2, .int (nI vs), .ref a3, .int (nI bs), .int (nI ch), .int (nI mh), .int (nI me), .int (nI mb), .int (nI mn), .ref a4, .ref a5, .int (nI mw), .int (nI mr), .ref a6, .int (nI es), .int (nI ((pn + i) + 1)), .ref a7, .ref a8, .int (oI ah), .ref a9, .int (nI fs)])), (a7, .inl (cI, 300, .inl (nA (fillN pp pn (fun j => 96 * its + (b + j)) (i + 1))))), (a8, .inl (cI, 9600, .inl (nA (fillN (peB gd gu ep b qq pn i) (32 * (pn + i)) (mHdr ep) 32))))] := hD
        refine lv_istore (lv' := [(9, .int (nI (32 * (pn + i)))), (8, .int (nI (min (gu - 26 * i) 26))), (0, .ref m0), (1, .ref x0), (2, .int (nI gu)), (3, .int (nI its)), (4, .int (nI ep)), (5, .int (nI b)), (6, .int (nI (b + i))), (7, .int (nI (26 * i)))]) hx hb d_Mod_planEntry_42 hl (by decide) rfl (fun ls hl => ?_)
        refine lv_aload_n hx hb d_Mod_planEntry_44 rfl (lv_at hl 2 rfl) ?_
        refine va_get (D := (dC, dI)) (ci := 7) (v := .ref a8) (C := R_Mod) (T := F_Mod) (N := 23) hx hb hts in_Mod hown hK hP 1 rfl rfl 19 (by decide) (hts _ u_685) (fun _ h9 => h9) rfl d_Mod_planEntry_45 ?_
        refine lv_iload hx hb d_Mod_planEntry_48 (lv_at hl 0 rfl) ?_
        refine lv_iconst (v := nI 2) hx hb d_Mod_planEntry_50 (by decide) ?_
        refine n_iadd hx hb d_Mod_planEntry_51 ?_
        refine lv_iload hx hb d_Mod_planEntry_52 (lv_at hl 1 rfl) ?_
        refine lv_iload hx hb d_Mod_planEntry_54 (lv_at hl 9 rfl) ?_
        refine n_if_ne (tgt := 64) hx hb d_Mod_planEntry_56 (by decide) (by omega) (fun c_56 => ?_) (fun c_56 => ?_)
        · skip
          refine lv_iconst (v := nI 0) hx hb d_Mod_planEntry_64 (by decide) ?_
          refine top_i (nI (if 26 * i = 0 then 64 else 0)) (by first | rw [if_pos c_56] | rw [if_neg c_56]) ?_
          exact join_65 hlt _ _ _ (hP.sub [1, 2, 3, 0] rfl) (hD.sub [1, 2, 3, 0] (by decide) rfl) hS (lv_sub hl [2, 3, 4, 5, 6, 7, 8, 9, 1, 0] rfl)
        · skip
          refine lv_bipush (v := nI 64) hx hb d_Mod_planEntry_59 (by decide) ?_
          refine lv_goto (tgt := 65) hx hb d_Mod_planEntry_61 (by decide) ?_
          refine top_i (nI (if 26 * i = 0 then 64 else 0)) (by first | rw [if_pos c_56] | rw [if_neg c_56]) ?_
          exact join_65 hlt _ _ _ (hP.sub [1, 2, 3, 0] rfl) (hD.sub [1, 2, 3, 0] (by decide) rfl) hS (lv_sub hl [2, 3, 4, 5, 6, 7, 8, 9, 1, 0] rfl)
      refine lv_iload hx hb d_Mod_planEntry_7 (lv_at hl 7 rfl) ?_
      refine lv_iload_n hx hb d_Mod_planEntry_9 rfl (lv_at hl 2 rfl) ?_
      refine n_icmp_ge (tgt := 164) hx hb d_Mod_planEntry_10 (by decide) (by omega) (by omega) (fun c_10 => ?_) (fun c_10 => ?_)
      · skip
        have hq : i = ((gu + 25) / 26) := by omega
        rw [← hq] at hret
        refine lv_iload hx hb d_Mod_planEntry_164 (lv_at hl 6 rfl) ?_
        exact hret (nI (b + i)) _ _ 166 ls d_Mod_planEntry_166 (hP.sub [0, 1, 2, 3] rfl) (hD.sub [0, 1, 2, 3] (by decide) rfl) hS rfl
      · skip
        refine lv_iload_n hx hb d_Mod_planEntry_13 rfl (lv_at hl 2 rfl) ?_
        refine lv_iload hx hb d_Mod_planEntry_14 (lv_at hl 7 rfl) ?_
        refine n_isub hx hb d_Mod_planEntry_16 (by omega) ?_
        refine lv_bipush (v := nI 26) hx hb d_Mod_planEntry_17 (by decide) ?_
        refine n_icmp_ge (tgt := 29) hx hb d_Mod_planEntry_19 (by decide) (by omega) (by omega) (fun c_19 => ?_) (fun c_19 => ?_)
        · skip
          refine lv_bipush (v := nI 26) hx hb d_Mod_planEntry_29 (by decide) ?_
          refine top_i (nI (min (gu - 26 * i) 26)) (by first | rw [Nat.min_eq_left (by omega)] | rw [Nat.min_eq_right (by omega)]) ?_
          exact join_31 (by omega) _ _ _ (hP.sub [0, 1, 2, 3] rfl) (hD.sub [0, 1, 2, 3] (by decide) rfl) hS (lv_sub hl [0, 1, 2, 3, 4, 5, 6, 7] rfl)
        · skip
          refine lv_iload_n hx hb d_Mod_planEntry_22 rfl (lv_at hl 2 rfl) ?_
          refine lv_iload hx hb d_Mod_planEntry_23 (lv_at hl 7 rfl) ?_
          refine n_isub hx hb d_Mod_planEntry_25 (by omega) ?_
          refine lv_goto (tgt := 31) hx hb d_Mod_planEntry_26 (by decide) ?_
          refine top_i (nI (min (gu - 26 * i) 26)) (by first | rw [Nat.min_eq_left (by omega)] | rw [Nat.min_eq_right (by omega)]) ?_
          exact join_31 (by omega) _ _ _ (hP.sub [0, 1, 2, 3] rfl) (hD.sub [0, 1, 2, 3] (by decide) rfl) hS (lv_sub hl [0, 1, 2, 3, 4, 5, 6, 7] rfl)
  rw [← fillN_0 pp pn (fun j => 96 * its + (b + j))] at hP hD
  exact loop_7 (((gu + 25) / 26) + 1) 0 (by omega) (by omega) _ _ _ (hP.sub [0, 1, 2, 3] rfl) (hD.sub [0, 1, 2, 3] (by decide) rfl) hS (lv_sub hl [2, 3, 4, 5, 6, 7, 1, 0] rfl)
abbrev rmm_blocksOf : Room := { frames := 0, cells := 0, slots := 0, locals := 0 }
set_option maxHeartbeats 4000000 in
set_option maxRecDepth 100000 in
theorem m_blocksOf (l : Launch) (dC : Nat → ClassId) (dI : Nat → Nat → Nat) (cI : ClassId) (sz : Nat) (k : Nat) (hk : k < 2 ^ 30) : KI l y_Mod_blocksOf w_Mod_blocksOf rmm_blocksOf (dC, dI) CL_ [(cI, .int)] sz [.int (nI k)] [] [] (nI ((k + 25) / 26)) := by
  refine k_start_i (cc := b_Mod_blocksOf) (maxL := 1) (by decide) (Nat.le_of_ble_eq_true rfl) ?_
  intro p e s m args below meth c A QQ ls SS hK hP hD hA hl hN hret
  obtain ⟨hx, hb, hml, hown, hts⟩ := id SS
  have hl : lv_has ls 1 [(0, .int (nI k))] := hl
  have hS : va_S A s.heap s.heap [] := va_S.rf
  refine lv_iload_n hx hb d_Mod_blocksOf_0 rfl (lv_at hl 0 rfl) ?_
  refine lv_bipush (v := nI 25) hx hb d_Mod_blocksOf_1 (by decide) ?_
  refine n_iadd hx hb d_Mod_blocksOf_3 ?_
  refine lv_bipush (v := nI 26) hx hb d_Mod_blocksOf_4 (by decide) ?_
  refine n_idiv hx hb d_Mod_blocksOf_6 (by omega) (by omega) (by omega) ?_
  exact hret (nI ((k + 25) / 26)) _ _ 7 ls d_Mod_blocksOf_7 (hP.sub [] rfl) (hD.sub [] (by decide) rfl) hS rfl
abbrev rmm_gather : Room := { frames := 0, cells := 0, slots := 0, locals := 0 }
set_option maxHeartbeats 4000000 in
set_option maxRecDepth 100000 in
theorem m_gather (l : Launch) (dC : Nat → ClassId) (dI : Nat → Nat → Nat) (cI : ClassId) (sz : Nat) (m0 : Nat) (a1 : Nat) (a2 : Nat) (a3 : Nat) (a4 : Nat) (a5 : Nat) (a6 : Nat) (a7 : Nat) (a8 : Nat) (a9 : Nat) (th : Nat) (vs : Nat) (bs : Nat) (ch : Nat) (mh : Nat) (me : Nat) (mb : Nat) (mn : Nat) (mw : Nat) (mr : Nat) (es : Nat) (pn : Nat) (ah : Option Nat) (fs : Nat) (zz : Nat → Option Nat) (ll : Nat → Nat) (ff : Nat → Nat) (key : Nat) (hkey : key < 200) (hzz : lzOk zz) : KI l y_Mod_gather w_Mod_gather rmm_gather (dC, dI) CL_ [(cI, .int)] sz [.ref m0, .int (nI key)] [(m0, .inr (7, [.int (nI th), .ref a1, .ref a2, .int (nI vs), .ref a3, .int (nI bs), .int (nI ch), .int (nI mh), .int (nI me), .int (nI mb), .int (nI mn), .ref a4, .ref a5, .int (nI mw), .int (nI mr), .ref a6, .int (nI es), .int (nI pn), .ref a7, .ref a8, .int (oI ah), .ref a9, .int (nI fs)])), (a4, .inl (cI, 200, .inl (oA zz))), (a5, .inl (cI, 8000, .inl (nA ll))), (a9, .inl (cI, 400, .inl (nA ff)))] [(m0, .inr (7, [.int (nI th), .ref a1, .ref a2, .int (nI vs), .ref a3, .int (nI bs), .int (nI ch), .int (nI mh), .int (nI me), .int (nI mb), .int (nI mn), .ref a4, .ref a5, .int (nI mw), .int (nI mr), .ref a6, .int (nI es), .int (nI pn), .ref a7, .ref a8, .int (oI ah), .ref a9, .int (nI ((gaLoop zz ll (201 - key) key (updN ff 0 0) 1).2.2))])), (a4, .inl (cI, 200, .inl (oA zz))), (a5, .inl (cI, 8000, .inl (nA ll))), (a9, .inl (cI, 400, .inl (nA ((gaLoop zz ll (201 - key) key (updN ff 0 0) 1).2.1))))] (nI ((gaLoop zz ll (201 - key) key (updN ff 0 0) 1).1)) := by
  refine k_start_i (cc := b_Mod_gather) (maxL := 4) (by decide) (Nat.le_of_ble_eq_true rfl) ?_
  intro p e s m args below meth c A QQ ls SS hK hP hD hA hl hN hret
  obtain ⟨hx, hb, hml, hown, hts⟩ := id SS
  have hl : lv_has ls 4 [(0, .ref m0), (1, .int (nI key))] := hl
  have hS : va_S A s.heap s.heap [] := va_S.rf
  refine lv_iload_n hx hb d_Mod_gather_0 rfl (lv_at hl 1 rfl) ?_
  refine lv_istore_n (lv' := [(2, .int (nI key)), (0, .ref m0), (1, .int (nI key))]) hx hb d_Mod_gather_1 rfl hl (by decide) rfl (fun ls hl => ?_)
  refine lv_aload_n hx hb d_Mod_gather_2 rfl (lv_at hl 1 rfl) ?_
  refine va_get (D := (dC, dI)) (ci := 7) (v := .ref a9) (C := R_Mod) (T := F_Mod) (N := 23) hx hb hts in_Mod hown hK hP 0 rfl rfl 21 (by decide) (hts _ u_687) (fun _ h9 => h9) rfl d_Mod_gather_3 ?_
  refine lv_iconst (v := nI 0) hx hb d_Mod_gather_6 (by decide) ?_
  refine lv_iconst (v := nI 0) hx hb d_Mod_gather_7 (by decide) ?_
  refine n_iast (f' := nA (updN ff 0 0)) hx hb hK hP hD hS 3 0 rfl rfl (nA_upd _ _ _) (by omega) (by omega) d_Mod_gather_8 (fun H locs hP hD hS => ?_)
  have hP : va_P (dC, dI) CL_ [(m0, .inr (7, [.int (nI th), .ref a1, .ref a2, .int (nI vs), .ref a3, .int (nI bs), .int (nI ch), .int (nI mh), .int (nI me), .int (nI mb), .int (nI mn), .ref a4, .ref a5, .int (nI mw), .int (nI mr), .ref a6, .int (nI es), .int (nI pn), .ref a7, .ref a8, .int (oI ah), .ref a9, .int (nI fs)])), (a4, .inl (cI, 200, .inl (oA zz))), (a5, .inl (cI, 8000, .inl (nA ll))), (a9, .inl (cI, 400, .inl (nA (updN ff 0 0))))] H := hP
  have hD : va_D A [(m0, .inr (7, [.int (nI th), .ref a1, .ref a2, .int (nI vs), .ref a3, .int (nI bs), .int (nI ch), .int (nI mh), .int (nI me), .int (nI mb), .int (nI mn), .ref a4, .ref a5, .int (nI mw), .int (nI mr), .ref a6, .int (nI es), .int (nI pn), .ref a7, .ref a8, .int (oI ah), .ref a9, .int (nI fs)])), (a4, .inl (cI, 200, .inl (oA zz))), (a5, .inl (cI, 8000, .inl (nA ll))), (a9, .inl (cI, 400, .inl (nA (updN ff 0 0))))] := hD
  refine lv_aload_n hx hb d_Mod_gather_9 rfl (lv_at hl 1 rfl) ?_
  refine lv_iconst (v := nI 1) hx hb d_Mod_gather_10 (by decide) ?_
  refine va_put (D := (dC, dI)) (ci := 7) (v := .int (nI 1)) (ty := .int) (C := R_Mod) (T := F_Mod) (N := 23) hx hb hts in_Mod ty_Mod tok_Mod nm_Mod hown hK hP hD hS 0 rfl rfl 22 (by decide) (hts _ u_688) (fun _ h9 => h9) rfl (by decide +kernel) rfl rfl (Nat.le_of_ble_eq_true rfl) d_Mod_gather_11 (fun H locs hP hD hS => ?_)
  have hP : va_P (dC, dI) CL_ [(m0, .inr (7, [.int (nI th), .ref a1, .ref a2, .int (nI vs), .ref a3, .int (nI bs), .int (nI ch), .int (nI mh), .int (nI me), .int (nI mb), .int (nI mn), .ref a4, .ref a5, .int (nI mw), .int (nI mr), .ref a6, .int (nI es), .int (nI pn), .ref a7, .ref a8, .int (oI ah), .ref a9, .int (nI 1)])), (a4, .inl (cI, 200, .inl (oA zz))), (a5, .inl (cI, 8000, .inl (nA ll))), (a9, .inl (cI, 400, .inl (nA (updN ff 0 0))))] H := hP
  have hD : va_D A [(m0, .inr (7, [.int (nI th), .ref a1, .ref a2, .int (nI vs), .ref a3, .int (nI bs), .int (nI ch), .int (nI mh), .int (nI me), .int (nI mb), .int (nI mn), .ref a4, .ref a5, .int (nI mw), .int (nI mr), .ref a6, .int (nI es), .int (nI pn), .ref a7, .ref a8, .int (oI ah), .ref a9, .int (nI 1)])), (a4, .inl (cI, 200, .inl (oA zz))), (a5, .inl (cI, 8000, .inl (nA ll))), (a9, .inl (cI, 400, .inl (nA (updN ff 0 0))))] := hD
  have loop_14 : ∀ (n1 : Nat) (key' u' : Nat) (g' : Nat → Nat), (key' ≤ 200) → (201 ≤ key' + n1) → (mgOk g' u') → (gaLoop zz ll (201 - key) key (updN ff 0 0) 1 = gaLoop zz ll (201 - key') key' g' u') → ∀ (H : Heap) (locs : List Loc) (ls : Array Slot), va_P (dC, dI) CL_ [(m0, .inr (7, [.int (nI th), .ref a1, .ref a2, .int (nI vs), .ref a3, .int (nI bs), .int (nI ch), .int (nI mh), .int (nI me), .int (nI mb), .int (nI mn), .ref a4, .ref a5, .int (nI mw), .int (nI mr), .ref a6, .int (nI es), .int (nI pn), .ref a7, .ref a8, .int (oI ah), .ref a9, .int (nI u')])), (a4, .inl (cI, 200, .inl (oA zz))), (a5, .inl (cI, 8000, .inl (nA ll))), (a9, .inl (cI, 400, .inl (nA g')))] H → va_D A [(m0, .inr (7, [.int (nI th), .ref a1, .ref a2, .int (nI vs), .ref a3, .int (nI bs), .int (nI ch), .int (nI mh), .int (nI me), .int (nI mb), .int (nI mn), .ref a4, .ref a5, .int (nI mw), .int (nI mr), .ref a6, .int (nI es), .int (nI pn), .ref a7, .ref a8, .int (oI ah), .ref a9, .int (nI u')])), (a4, .inl (cI, 200, .inl (oA zz))), (a5, .inl (cI, 8000, .inl (nA ll))), (a9, .inl (cI, 400, .inl (nA g')))] → va_S A s.heap H locs → lv_has ls 4 [(0, .ref m0), (1, .int (nI key)), (2, .int (nI key'))] → W p l e rmm_gather s m args below meth c H locs 0 0 QQ (F0 m 14 ls []) := by
    intro n1
    induction n1 with
    | zero =>
      intro key' u' g' hk hf hok hinv
      exact absurd hf (by omega)
    | succ n1 ih_n1 =>
      intro key' u' g' hk hf hok hinv H locs ls hP hD hS hl
      obtain ⟨h1, h2, h3⟩ := hok
      refine lv_iload_n hx hb d_Mod_gather_14 rfl (lv_at hl 2 rfl) ?_
      refine lv_sipush (v := nI 200) hx hb d_Mod_gather_15 (by decide) ?_
      refine n_icmp_ge (tgt := 143) hx hb d_Mod_gather_18 (by decide) (by omega) (by omega) (fun c_18 => ?_) (fun c_18 => ?_)
      · skip
        rw [hinv, show 201 - key' = (200 - key') + 1 by omega, gaLoop, if_neg (fun q => by omega)] at hret
        refine lv_iload_n hx hb d_Mod_gather_143 rfl (lv_at hl 2 rfl) ?_
        exact hret (nI key') _ _ 144 ls d_Mod_gather_144 (hP.sub [0, 1, 2, 3] rfl) (hD.sub [0, 1, 2, 3] (by decide) rfl) hS rfl
      · skip
        refine lv_aload_n hx hb d_Mod_gather_21 rfl (lv_at hl 0 rfl) ?_
        refine va_get (D := (dC, dI)) (ci := 7) (v := .ref a9) (C := R_Mod) (T := F_Mod) (N := 23) hx hb hts in_Mod hown hK hP 0 rfl rfl 21 (by decide) (hts _ u_687) (fun _ h9 => h9) rfl d_Mod_gather_22 ?_
        refine lv_iconst (v := nI 0) hx hb d_Mod_gather_25 (by decide) ?_
        refine n_iald (v := nI (g' 0)) hx hb hK hP 3 0 rfl rfl rfl (by omega) (by omega) d_Mod_gather_26 ?_
        refine lv_bipush (v := nI 8) hx hb d_Mod_gather_27 (by decide) ?_
        refine n_icmp_ge (tgt := 143) hx hb d_Mod_gather_29 (by decide) (by omega) (by omega) (fun c_29 => ?_) (fun c_29 => ?_)
        · skip
          rw [hinv, show 201 - key' = (200 - key') + 1 by omega, gaLoop, if_neg (fun q => by omega)] at hret
          refine lv_iload_n hx hb d_Mod_gather_143 rfl (lv_at hl 2 rfl) ?_
          exact hret (nI key') _ _ 144 ls d_Mod_gather_144 (hP.sub [0, 1, 2, 3] rfl) (hD.sub [0, 1, 2, 3] (by decide) rfl) hS rfl
        · skip
          refine lv_aload_n hx hb d_Mod_gather_32 rfl (lv_at hl 0 rfl) ?_
          refine va_get (D := (dC, dI)) (ci := 7) (v := .ref a4) (C := R_Mod) (T := F_Mod) (N := 23) hx hb hts in_Mod hown hK hP 0 rfl rfl 11 (by decide) (hts _ u_677) (fun _ h9 => h9) rfl d_Mod_gather_33 ?_
          refine lv_iload_n hx hb d_Mod_gather_36 rfl (lv_at hl 2 rfl) ?_
          refine n_iald (v := oI (zz key')) hx hb hK hP 1 0 rfl rfl rfl (by omega) (by omega) d_Mod_gather_37 ?_
          refine n_if_ltO (tgt := 137) hx hb d_Mod_gather_38 (by decide) (fun n q => by have := hzz key' n q; omega) (fun c_38 => ?_) (fun c_38 => ?_)
          · skip
            refine lv_iinc (v := nI (key' + 1)) (lv' := [(2, .int (nI (key' + 1))), (0, .ref m0), (1, .int (nI key))]) hx hb d_Mod_gather_137 hl (k := 2) rfl (inc1 key') (by decide) rfl (fun ls hl => ?_)
            refine lv_goto (tgt := 14) hx hb d_Mod_gather_140 (by decide) ?_
            exact ih_n1 (key' + 1) u' g' (by omega) (by omega) ⟨h1, h2, h3⟩ (by rw [hinv, show 201 - key' = (201 - (key' + 1)) + 1 by omega, gaLoop, if_pos ⟨c_18, c_29⟩, mgath_none c_38]) _ _ _ (hP.sub [0, 1, 2, 3] rfl) (hD.sub [0, 1, 2, 3] (by decide) rfl) hS (lv_sub hl [1, 2, 0] rfl)
          · skip
            obtain ⟨nz, hnz⟩ := Option.ne_none_iff_exists'.mp c_38
            have hn40 := hzz key' nz hnz
            have hok2 := mgath_ok (v := ll) (key := key') hzz c_29 ⟨h1, h2, h3⟩
            rw [mgath_some hnz] at hok2
            refine lv_aload_n hx hb d_Mod_gather_41 rfl (lv_at hl 0 rfl) ?_
            refine va_get (D := (dC, dI)) (ci := 7) (v := .ref a9) (C := R_Mod) (T := F_Mod) (N := 23) hx hb hts in_Mod hown hK hP 0 rfl rfl 21 (by decide) (hts _ u_687) (fun _ h9 => h9) rfl d_Mod_gather_42 ?_
            refine lv_iconst (v := nI 0) hx hb d_Mod_gather_45 (by decide) ?_
            refine lv_dup2_11 hx hb d_Mod_gather_46 rfl rfl ?_
            refine n_iald (v := nI (g' 0)) hx hb hK hP 3 0 rfl rfl rfl (by omega) (by omega) d_Mod_gather_47 ?_
            refine lv_iconst (v := nI 1) hx hb d_Mod_gather_48 (by decide) ?_
            refine n_iadd hx hb d_Mod_gather_49 ?_
            refine n_iast (f' := nA (updN g' 0 ((g' 0) + 1))) hx hb hK hP hD hS 3 0 rfl rfl (nA_upd _ _ _) (by omega) (by omega) d_Mod_gather_50 (fun H locs hP hD hS => ?_)
            have hP : va_P (dC, dI) CL_ [(m0, .inr (7, [.int (nI th), .ref a1, .ref a2, .int (nI vs), .ref a3, .int (nI bs), .int (nI ch), .int (nI mh), .int (nI me), .int (nI mb), .int (nI mn), .ref a4, .ref a5, .int (nI mw), .int (nI mr), .ref a6, .int (nI es), .int (nI pn), .ref a7, .ref a8, .int (oI ah), .ref a9, .int (nI u')])), (a4, .inl (cI, 200, .inl (oA zz))), (a5, .inl (cI, 8000, .inl (nA ll))), (a9, .inl (cI, 400, .inl (nA (updN g' 0 ((g' 0) + 1)))))] H := hP
            have hD : va_D A [(m0, .inr (7, [.int (nI th), .ref a1, .ref a2, .int (nI vs), .ref a3, .int (nI bs), .int (nI ch), .int (nI mh), .int (nI me), .int (nI mb), .int (nI mn), .ref a4, .ref a5, .int (nI mw), .int (nI mr), .ref a6, .int (nI es), .int (nI pn), .ref a7, .ref a8, .int (oI ah), .ref a9, .int (nI u')])), (a4, .inl (cI, 200, .inl (oA zz))), (a5, .inl (cI, 8000, .inl (nA ll))), (a9, .inl (cI, 400, .inl (nA (updN g' 0 ((g' 0) + 1)))))] := hD
            refine lv_aload_n hx hb d_Mod_gather_51 rfl (lv_at hl 0 rfl) ?_
            refine va_get (D := (dC, dI)) (ci := 7) (v := .ref a9) (C := R_Mod) (T := F_Mod) (N := 23) hx hb hts in_Mod hown hK hP 0 rfl rfl 21 (by decide) (hts _ u_687) (fun _ h9 => h9) rfl d_Mod_gather_52 ?_
            refine lv_aload_n hx hb d_Mod_gather_55 rfl (lv_at hl 0 rfl) ?_
            refine va_get (D := (dC, dI)) (ci := 7) (v := .int (nI u')) (C := R_Mod) (T := F_Mod) (N := 23) hx hb hts in_Mod hown hK hP 0 rfl rfl 22 (by decide) (hts _ u_688) (fun _ h9 => h9) rfl d_Mod_gather_56 ?_
            refine lv_iload_n hx hb d_Mod_gather_59 rfl (lv_at hl 2 rfl) ?_
            refine n_iast (f' := nA (updN (updN g' 0 ((g' 0) + 1)) u' key')) hx hb hK hP hD hS 3 0 rfl rfl (nA_upd _ _ _) (by omega) (by omega) d_Mod_gather_60 (fun H locs hP hD hS => ?_)
            have hP : va_P (dC, dI) CL_ [(m0, .inr (7, [.int (nI th), .ref a1, .ref a2, .int (nI vs), .ref a3, .int (nI bs), .int (nI ch), .int (nI mh), .int (nI me), .int (nI mb), .int (nI mn), .ref a4, .ref a5, .int (nI mw), .int (nI mr), .ref a6, .int (nI es), .int (nI pn), .ref a7, .ref a8, .int (oI ah), .ref a9, .int (nI u')])), (a4, .inl (cI, 200, .inl (oA zz))), (a5, .inl (cI, 8000, .inl (nA ll))), (a9, .inl (cI, 400, .inl (nA (updN (updN g' 0 ((g' 0) + 1)) u' key'))))] H := hP
            have hD : va_D A [(m0, .inr (7, [.int (nI th), .ref a1, .ref a2, .int (nI vs), .ref a3, .int (nI bs), .int (nI ch), .int (nI mh), .int (nI me), .int (nI mb), .int (nI mn), .ref a4, .ref a5, .int (nI mw), .int (nI mr), .ref a6, .int (nI es), .int (nI pn), .ref a7, .ref a8, .int (oI ah), .ref a9, .int (nI u')])), (a4, .inl (cI, 200, .inl (oA zz))), (a5, .inl (cI, 8000, .inl (nA ll))), (a9, .inl (cI, 400, .inl (nA (updN (updN g' 0 ((g' 0) + 1)) u' key'))))] := hD
            refine lv_aload_n hx hb d_Mod_gather_61 rfl (lv_at hl 0 rfl) ?_
            refine va_get (D := (dC, dI)) (ci := 7) (v := .ref a9) (C := R_Mod) (T := F_Mod) (N := 23) hx hb hts in_Mod hown hK hP 0 rfl rfl 21 (by decide) (hts _ u_687) (fun _ h9 => h9) rfl d_Mod_gather_62 ?_
            refine lv_aload_n hx hb d_Mod_gather_65 rfl (lv_at hl 0 rfl) ?_
            refine va_get (D := (dC, dI)) (ci := 7) (v := .int (nI u')) (C := R_Mod) (T := F_Mod) (N := 23) hx hb hts in_Mod hown hK hP 0 rfl rfl 22 (by decide) (hts _ u_688) (fun _ h9 => h9) rfl d_Mod_gather_66 ?_
            refine lv_iconst (v := nI 1) hx hb d_Mod_gather_69 (by decide) ?_
            refine n_iadd hx hb d_Mod_gather_70 ?_
            refine lv_aload_n hx hb d_Mod_gather_71 rfl (lv_at hl 0 rfl) ?_
            refine va_get (D := (dC, dI)) (ci := 7) (v := .ref a4) (C := R_Mod) (T := F_Mod) (N := 23) hx hb hts in_Mod hown hK hP 0 rfl rfl 11 (by decide) (hts _ u_677) (fun _ h9 => h9) rfl d_Mod_gather_72 ?_
            refine lv_iload_n hx hb d_Mod_gather_75 rfl (lv_at hl 2 rfl) ?_
            refine n_iald (v := oI (zz key')) hx hb hK hP 1 0 rfl rfl rfl (by omega) (by omega) d_Mod_gather_76 ?_
            refine top_i (nI nz) (by exact congrArg oI hnz) ?_
            refine n_iast (f' := nA (updN (updN (updN g' 0 ((g' 0) + 1)) u' key') (u' + 1) nz)) hx hb hK hP hD hS 3 0 rfl rfl (nA_upd _ _ _) (by omega) (by omega) d_Mod_gather_77 (fun H locs hP hD hS => ?_)
            have hP : va_P (dC, dI) CL_ [(m0, .inr (7, [.int (nI th), .ref a1, .ref a2, .int (nI vs), .ref a3, .int (nI bs), .int (nI ch), .int (nI mh), .int (nI me), .int (nI mb), .int (nI mn), .ref a4, .ref a5, .int (nI mw), .int (nI mr), .ref a6, .int (nI es), .int (nI pn), .ref a7, .ref a8, .int (oI ah), .ref a9, .int (nI u')])), (a4, .inl (cI, 200, .inl (oA zz))), (a5, .inl (cI, 8000, .inl (nA ll))), (a9, .inl (cI, 400, .inl (nA (updN (updN (updN g' 0 ((g' 0) + 1)) u' key') (u' + 1) nz))))] H := hP
            have hD : va_D A [(m0, .inr (7, [.int (nI th), .ref a1, .ref a2, .int (nI vs), .ref a3, .int (nI bs), .int (nI ch), .int (nI mh), .int (nI me), .int (nI mb), .int (nI mn), .ref a4, .ref a5, .int (nI mw), .int (nI mr), .ref a6, .int (nI es), .int (nI pn), .ref a7, .ref a8, .int (oI ah), .ref a9, .int (nI u')])), (a4, .inl (cI, 200, .inl (oA zz))), (a5, .inl (cI, 8000, .inl (nA ll))), (a9, .inl (cI, 400, .inl (nA (updN (updN (updN g' 0 ((g' 0) + 1)) u' key') (u' + 1) nz))))] := hD
            refine lv_iconst (v := nI 0) hx hb d_Mod_gather_78 (by decide) ?_
            refine lv_istore_n (lv' := [(3, .int (nI 0)), (0, .ref m0), (1, .int (nI key)), (2, .int (nI key'))]) hx hb d_Mod_gather_79 rfl hl (by decide) rfl (fun ls hl => ?_)
            have loop_80 : ∀ (n2 : Nat) (i : Nat), (i ≤ nz) → (nz + 1 ≤ i + n2) → ∀ (H : Heap) (locs : List Loc) (ls : Array Slot), va_P (dC, dI) CL_ [(m0, .inr (7, [.int (nI th), .ref a1, .ref a2, .int (nI vs), .ref a3, .int (nI bs), .int (nI ch), .int (nI mh), .int (nI me), .int (nI mb), .int (nI mn), .ref a4, .ref a5, .int (nI mw), .int (nI mr), .ref a6, .int (nI es), .int (nI pn), .ref a7, .ref a8, .int (oI ah), .ref a9, .int (nI u')])), (a4, .inl (cI, 200, .inl (oA zz))), (a5, .inl (cI, 8000, .inl (nA ll))), (a9, .inl (cI, 400, .inl (nA (fillN (updN (updN (updN g' 0 (g' 0 + 1)) u' key') (u' + 1) nz) (u' + 2) (fun i => ll (40 * key' + i)) i))))] H → va_D A [(m0, .inr (7, [.int (nI th), .ref a1, .ref a2, .int (nI vs), .ref a3, .int (nI bs), .int (nI ch), .int (nI mh), .int (nI me), .int (nI mb), .int (nI mn), .ref a4, .ref a5, .int (nI mw), .int (nI mr), .ref a6, .int (nI es), .int (nI pn), .ref a7, .ref a8, .int (oI ah), .ref a9, .int (nI u')])), (a4, .inl (cI, 200, .inl (oA zz))), (a5, .inl (cI, 8000, .inl (nA ll))), (a9, .inl (cI, 400, .inl (nA (fillN (updN (updN (updN g' 0 (g' 0 + 1)) u' key') (u' + 1) nz) (u' + 2) (fun i => ll (40 * key' + i)) i))))] → va_S A s.heap H locs → lv_has ls 4 [(0, .ref m0), (1, .int (nI key)), (2, .int (nI key')), (3, .int (nI i))] → W p l e rmm_gather s m args below meth c H locs 0 0 QQ (F0 m 80 ls []) := by
              intro n2
              induction n2 with
              | zero =>
                intro i hi hf2
                exact absurd hf2 (by omega)
              | succ n2 ih_n2 =>
                intro i hi hf2 H locs ls hP hD hS hl
                refine lv_iload_n hx hb d_Mod_gather_80 rfl (lv_at hl 3 rfl) ?_
                refine lv_aload_n hx hb d_Mod_gather_81 rfl (lv_at hl 0 rfl) ?_
                refine va_get (D := (dC, dI)) (ci := 7) (v := .ref a4) (C := R_Mod) (T := F_Mod) (N := 23) hx hb hts in_Mod hown hK hP 0 rfl rfl 11 (by decide) (hts _ u_677) (fun _ h9 => h9) rfl d_Mod_gather_82 ?_
                refine lv_iload_n hx hb d_Mod_gather_85 rfl (lv_at hl 2 rfl) ?_
                refine n_iald (v := oI (zz key')) hx hb hK hP 1 0 rfl rfl rfl (by omega) (by omega) d_Mod_gather_86 ?_
                refine top_i (nI nz) (by exact congrArg oI hnz) ?_
                refine n_icmp_ge (tgt := 120) hx hb d_Mod_gather_87 (by decide) (by omega) (by omega) (fun c_87 => ?_) (fun c_87 => ?_)
                · skip
                  have hq : i = nz := by omega
                  rw [hq] at hP hD
                  have hP : va_P (dC, dI) CL_ [(m0, .inr (7, [.int (nI th), .ref a1, .ref a2, .int (nI vs), .ref a3, .int (nI bs), .int (nI ch), .int (nI mh), .int (nI me), .int (nI mb), .int (nI mn), .ref a4, .ref a5, .int (nI mw), .int (nI mr), .ref a6, .int (nI es), .int (nI pn), .ref a7, .ref a8, .int (oI ah), .ref a9, .int (nI u')])), (a4, .inl (cI, 200, .inl (oA zz))), (a5, .inl (cI, 8000, .inl (nA ll))), (a9, .inl (cI, 400, .inl (nA (fillN (updN (updN (updN g' 0 (g' 0 + 1)) u' key') (u' + 1) nz) (u' + 2) (fun i => ll (40 * key' + i)) nz))))] H := hP
                  have hD : va_D A [(m0, .inr (7, [.int (nI th), .ref a1, .ref a2, .int (nI vs), .ref a3, .int (nI bs), .int (nI ch), .int (nI mh), .int (nI me), .int (nI mb), .int (nI mn), .ref a4, .ref a5, .int (nI mw), .int (nI mr), .ref a6, .int (nI es), .int (nI pn), .ref a7, .ref a8, .int (oI ah), .ref a9, .int (nI u')])), (a4, .inl (cI, 200, .inl (oA zz))), (a5, .inl (cI, 8000, .inl (nA ll))), (a9, .inl (cI, 400, .inl (nA (fillN (updN (updN (updN g' 0 (g' 0 + 1)) u' key') (u' + 1) nz) (u' + 2) (fun i => ll (40 * key' + i)) nz))))] := hD
                  refine lv_aload_n hx hb d_Mod_gather_120 rfl (lv_at hl 0 rfl) ?_
                  refine lv_dup hx hb d_Mod_gather_121 rfl ?_
                  refine va_get (D := (dC, dI)) (ci := 7) (v := .int (nI u')) (C := R_Mod) (T := F_Mod) (N := 23) hx hb hts in_Mod hown hK hP 0 rfl rfl 22 (by decide) (hts _ u_688) (fun _ h9 => h9) rfl d_Mod_gather_122 ?_
                  refine lv_iconst (v := nI 2) hx hb d_Mod_gather_125 (by decide) ?_
                  refine lv_aload_n hx hb d_Mod_gather_126 rfl (lv_at hl 0 rfl) ?_
                  refine va_get (D := (dC, dI)) (ci := 7) (v := .ref a4) (C := R_Mod) (T := F_Mod) (N := 23) hx hb hts in_Mod hown hK hP 0 rfl rfl 11 (by decide) (hts _ u_677) (fun _ h9 => h9) rfl d_Mod_gather_127 ?_
                  refine lv_iload_n hx hb d_Mod_gather_130 rfl (lv_at hl 2 rfl) ?_
                  refine n_iald (v := oI (zz key')) hx hb hK hP 1 0 rfl rfl rfl (by omega) (by omega) d_Mod_gather_131 ?_
                  refine top_i (nI nz) (by exact congrArg oI hnz) ?_
                  refine n_iadd hx hb d_Mod_gather_132 ?_
                  refine n_iadd hx hb d_Mod_gather_133 ?_
                  refine va_put (D := (dC, dI)) (ci := 7) (v := .int (nI (u' + (2 + nz)))) (ty := .int) (C := R_Mod) (T := F_Mod) (N := 23) hx hb hts in_Mod ty_Mod tok_Mod nm_Mod hown hK hP hD hS 0 rfl rfl 22 (by decide) (hts _ u_688) (fun _ h9 => h9) rfl (by decide +kernel) rfl rfl (Nat.le_of_ble_eq_true rfl) d_Mod_gather_134 (fun H locs hP hD hS => ?_)
                  have hP : va_P (dC, dI) CL_ [(m0, .inr (7, [.int (nI th), .ref a1, .ref a2, .int (nI vs), .ref a3, .int (nI bs), .int (nI ch), .int (nI mh), .int (nI me), .int (nI mb), .int (nI mn), .ref a4, .ref a5, .int (nI mw), .int (nI mr), .ref a6, .int (nI es), .int (nI pn), .ref a7, .ref a8, .int (oI ah), .ref a9, .int (nI (u' + (2 + nz)))])), (a4, .inl (cI, 200, .inl (oA zz))), (a5, .inl (cI, 8000, .inl (nA ll))), (a9, .inl (cI, 400, .inl (nA (fillN (updN (updN (updN g' 0 (g' 0 + 1)) u' key') (u' + 1) nz) (u' + 2) (fun i => ll (40 * key' + i)) nz))))] H := hP
                  have hD : va_D A [(m0, .inr (7, [.int (nI th), .ref a1, .ref a2, .int (nI vs), .ref a3, .int (nI bs), .int (nI ch), .int (nI mh), .int (nI me), .int (nI mb), .int (nI mn), .ref a4, .ref a5, .int (nI mw), .int (nI mr), .ref a6, .int (nI es), .int (nI pn), .ref a7, .ref a8, .int (oI ah), .ref a9, .int (nI (u' + (2 + nz)))])), (a4, .inl (cI, 200, .inl (oA zz))), (a5, .inl (cI, 8000, .inl (nA ll))), (a9, .inl (cI, 400, .inl (nA (fillN (updN (updN (updN g' 0 (g' 0 + 1)) u' key') (u' + 1) nz) (u' + 2) (fun i => ll (40 * key' + i)) nz))))] := hD
                  refine lv_iinc (v := nI (key' + 1)) (lv' := [(2, .int (nI (key' + 1))), (0, .ref m0), (1, .int (nI key)), (3, .int (nI i))]) hx hb d_Mod_gather_137 hl (k := 2) rfl (inc1 key') (by decide) rfl (fun ls hl => ?_)
                  refine lv_goto (tgt := 14) hx hb d_Mod_gather_140 (by decide) ?_
                  exact ih_n1 (key' + 1) _ _ (by omega) (by omega) hok2 (by rw [hinv, show 201 - key' = (201 - (key' + 1)) + 1 by omega, gaLoop, if_pos ⟨c_18, c_29⟩, mgath_some hnz]) _ _ _ (hP.sub [0, 1, 2, 3] rfl) (hD.sub [0, 1, 2, 3] (by decide) rfl) hS (lv_sub hl [1, 2, 0] rfl)
                · skip
                  refine lv_aload_n hx hb d_Mod_gather_90 rfl (lv_at hl 0 rfl) ?_
                  refine va_get (D := (dC, dI)) (ci := 7) (v := .ref a9) (C := R_Mod) (T := F_Mod) (N := 23) hx hb hts in_Mod hown hK hP 0 rfl rfl 21 (by decide) (hts _ u_687) (fun _ h9 => h9) rfl d_Mod_gather_91 ?_
                  refine lv_aload_n hx hb d_Mod_gather_94 rfl (lv_at hl 0 rfl) ?_
                  refine va_get (D := (dC, dI)) (ci := 7) (v := .int (nI u')) (C := R_Mod) (T := F_Mod) (N := 23) hx hb hts in_Mod hown hK hP 0 rfl rfl 22 (by decide) (hts _ u_688) (fun _ h9 => h9) rfl d_Mod_gather_95 ?_
                  refine lv_iconst (v := nI 2) hx hb d_Mod_gather_98 (by decide) ?_
                  refine n_iadd hx hb d_Mod_gather_99 ?_
                  refine lv_iload_n hx hb d_Mod_gather_100 rfl (lv_at hl 3 rfl) ?_
                  refine n_iadd hx hb d_Mod_gather_101 ?_
                  refine lv_aload_n hx hb d_Mod_gather_102 rfl (lv_at hl 0 rfl) ?_
                  refine va_get (D := (dC, dI)) (ci := 7) (v := .ref a5) (C := R_Mod) (T := F_Mod) (N := 23) hx hb hts in_Mod hown hK hP 0 rfl rfl 12 (by decide) (hts _ u_678) (fun _ h9 => h9) rfl d_Mod_gather_103 ?_
                  refine lv_bipush (v := nI 40) hx hb d_Mod_gather_106 (by decide) ?_
                  refine lv_iload_n hx hb d_Mod_gather_108 rfl (lv_at hl 2 rfl) ?_
                  refine n_imul hx hb d_Mod_gather_109 ?_
                  refine lv_iload_n hx hb d_Mod_gather_110 rfl (lv_at hl 3 rfl) ?_
                  refine n_iadd hx hb d_Mod_gather_111 ?_
                  refine n_iald (v := nI (ll ((40 * key') + i))) hx hb hK hP 2 0 rfl rfl rfl (by omega) (by omega) d_Mod_gather_112 ?_
                  refine n_iast (f' := nA (updN (fillN (updN (updN (updN g' 0 (g' 0 + 1)) u' key') (u' + 1) nz) (u' + 2) (fun i => ll (40 * key' + i)) i) ((u' + 2) + i) (ll ((40 * key') + i)))) hx hb hK hP hD hS 3 0 rfl rfl (nA_upd _ _ _) (by omega) (by omega) d_Mod_gather_113 (fun H locs hP hD hS => ?_)
                  have hP : va_P (dC, dI) CL_ [(m0, .inr (7, [.int (nI th), .ref a1, .ref a2, .int (nI vs), .ref a3, .int (nI bs), .int (nI ch), .int (nI mh), .int (nI me), .int (nI mb), .int (nI mn), .ref a4, .ref a5, .int (nI mw), .int (nI mr), .ref a6, .int (nI es), .int (nI pn), .ref a7, .ref a8, .int (oI ah), .ref a9, .int (nI u')])), (a4, .inl (cI, 200, .inl (oA zz))), (a5, .inl (cI, 8000, .inl (nA ll))), (a9, .inl (cI, 400, .inl (nA (updN (fillN (updN (updN (updN g' 0 (g' 0 + 1)) u' key') (u' + 1) nz) (u' + 2) (fun i => ll (40 * key' + i)) i) ((u' + 2) + i) (ll ((40 * key') + i))))))] H := hP
                  have hD : va_D A [(m0, .inr (7, [.int (nI th), .ref a1, .ref a2, .int (nI vs), .ref a3, .int (nI bs), .int (nI ch), .int (nI mh), .int (nI me), .int (nI mb), .int (nI mn), .ref a4, .ref a5, .int (nI mw), .int (nI mr), .ref a6, .int (nI es), .int (nI pn), .ref a7, .ref a8, .int (oI ah), .ref a9, .int (nI u')])), (a4, .inl (cI, 200, .inl (oA zz))), (a5, .inl (cI, 8000, .inl (nA ll))), (a9, .inl (cI, 400, .inl (nA (updN (fillN (updN (updN (updN g' 0 (g' 0 + 1)) u' key') (u' + 1) nz) (u' + 2) (fun i => ll (40 * key' + i)) i) ((u' + 2) + i) (ll ((40 * key') + i))))))] := hD
                  refine lv_iinc (v := nI (i + 1)) (lv' := [(3, .int (nI (i + 1))), (0, .ref m0), (1, .int (nI key)), (2, .int (nI key'))]) hx hb d_Mod_gather_114 hl (k := 3) rfl (inc1 i) (by decide) rfl (fun ls hl => ?_)
                  refine lv_goto (tgt := 80) hx hb d_Mod_gather_117 (by decide) ?_
                  have e9 : updN (fillN (updN (updN (updN g' 0 (g' 0 + 1)) u' key') (u' + 1) nz) (u' + 2) (fun i => ll (40 * key' + i)) i) (u' + 2 + i) (ll (40 * key' + i)) = fillN (updN (updN (updN g' 0 (g' 0 + 1)) u' key') (u' + 1) nz) (u' + 2) (fun i => ll (40 * key' + i)) (i + 1) := fillN_s _ _ _ _
                  rw [e9] at hP hD
                  exact ih_n2 (i + 1) (by omega) (by omega) _ _ _ (hP.sub [0, 1, 2, 3] rfl) (hD.sub [0, 1, 2, 3] (by decide) rfl) hS (lv_sub hl [1, 2, 3, 0] rfl)
            rw [← fillN_0 (updN (updN (updN g' 0 (g' 0 + 1)) u' key') (u' + 1) nz) (u' + 2) (fun i => ll (40 * key' + i))] at hP hD
            exact loop_80 (nz + 1) 0 (by omega) (by omega) _ _ _ (hP.sub [0, 1, 2, 3] rfl) (hD.sub [0, 1, 2, 3] (by decide) rfl) hS (lv_sub hl [1, 2, 3, 0] rfl)
  exact loop_14 201 key 1 (updN ff 0 0) (by omega) (by omega) (mg0 ff) rfl _ _ _ (hP.sub [0, 1, 2, 3] rfl) (hD.sub [0, 1, 2, 3] (by decide) rfl) hS (lv_sub hl [1, 2, 0] rfl)
abbrev rmm_greatestEpoch : Room := { frames := 1, cells := 0, slots := 0, locals := 21 }
set_option maxHeartbeats 4000000 in
set_option maxRecDepth 100000 in
theorem m_greatestEpoch (l : Launch) (dC : Nat → ClassId) (dI : Nat → Nat → Nat) (cI : ClassId) (sz : Nat) (m0 : Nat) (a1 : Nat) (a2 : Nat) (a3 : Nat) (a4 : Nat) (a5 : Nat) (a6 : Nat) (a7 : Nat) (a8 : Nat) (a9 : Nat) (th : Nat) (vs : Nat) (bs : Nat) (ch : Nat) (mh : Nat) (me : Nat) (mb : Nat) (mn : Nat) (mw : Nat) (mr : Nat) (es : Nat) (pn : Nat) (ah : Option Nat) (fs : Nat) (dd : Nat → Nat) (hmh : mh ≤ 1) (hme : me < 65536) (hdd : ∀ j, dd j < 256) : KI l y_Mod_greatestEpoch w_Mod_greatestEpoch rmm_greatestEpoch (dC, dI) CL_ [(cI, .int)] sz [.ref m0] [(m0, .inr (7, [.int (nI th), .ref a1, .ref a2, .int (nI vs), .ref a3, .int (nI bs), .int (nI ch), .int (nI mh), .int (nI me), .int (nI mb), .int (nI mn), .ref a4, .ref a5, .int (nI mw), .int (nI mr), .ref a6, .int (nI es), .int (nI pn), .ref a7, .ref a8, .int (oI ah), .ref a9, .int (nI fs)])), (a1, .inl (cI, 6144, .inl (nA dd)))] [(m0, .inr (7, [.int (nI th), .ref a1, .ref a2, .int (nI vs), .ref a3, .int (nI bs), .int (nI ch), .int (nI mh), .int (nI me), .int (nI mb), .int (nI mn), .ref a4, .ref a5, .int (nI mw), .int (nI mr), .ref a6, .int (nI es), .int (nI pn), .ref a7, .ref a8, .int (oI ah), .ref a9, .int (nI fs)])), (a1, .inl (cI, 6144, .inl (nA dd)))] (nI (max (gEp dd ((1 - mh) * 96) 96) me)) := by
  refine k_start_i (cc := b_Mod_greatestEpoch) (maxL := 4) (by decide) (Nat.le_of_ble_eq_true rfl) ?_
  intro p e s m args below meth c A QQ ls SS hK hP hD hA hl hN hret
  obtain ⟨hx, hb, hml, hown, hts⟩ := id SS
  have hl : lv_has ls 4 [(0, .ref m0)] := hl
  have hS : va_S A s.heap s.heap [] := va_S.rf
  refine lv_aload_n hx hb d_Mod_greatestEpoch_0 rfl (lv_at hl 0 rfl) ?_
  refine va_get (D := (dC, dI)) (ci := 7) (v := .int (nI me)) (C := R_Mod) (T := F_Mod) (N := 23) hx hb hts in_Mod hown hK hP 0 rfl rfl 8 (by decide) (hts _ u_674) (fun _ h9 => h9) rfl d_Mod_greatestEpoch_1 ?_
  refine lv_istore_n (lv' := [(1, .int (nI me)), (0, .ref m0)]) hx hb d_Mod_greatestEpoch_4 rfl hl (by decide) rfl (fun ls hl => ?_)
  refine lv_iconst (v := nI 0) hx hb d_Mod_greatestEpoch_5 (by decide) ?_
  refine lv_istore_n (lv' := [(2, .int (nI 0)), (1, .int (nI me)), (0, .ref m0)]) hx hb d_Mod_greatestEpoch_6 rfl hl (by decide) rfl (fun ls hl => ?_)
  have loop_7 : ∀ (n_ : Nat) (k : Nat), (k ≤ 96) → (97 ≤ k + n_) → ∀ (H : Heap) (locs : List Loc) (ls : Array Slot), va_P (dC, dI) CL_ [(m0, .inr (7, [.int (nI th), .ref a1, .ref a2, .int (nI vs), .ref a3, .int (nI bs), .int (nI ch), .int (nI mh), .int (nI me), .int (nI mb), .int (nI mn), .ref a4, .ref a5, .int (nI mw), .int (nI mr), .ref a6, .int (nI es), .int (nI pn), .ref a7, .ref a8, .int (oI ah), .ref a9, .int (nI fs)])), (a1, .inl (cI, 6144, .inl (nA dd)))] H → va_D A [(m0, .inr (7, [.int (nI th), .ref a1, .ref a2, .int (nI vs), .ref a3, .int (nI bs), .int (nI ch), .int (nI mh), .int (nI me), .int (nI mb), .int (nI mn), .ref a4, .ref a5, .int (nI mw), .int (nI mr), .ref a6, .int (nI es), .int (nI pn), .ref a7, .ref a8, .int (oI ah), .ref a9, .int (nI fs)])), (a1, .inl (cI, 6144, .inl (nA dd)))] → va_S A s.heap H locs → lv_has ls 4 [(0, .ref m0), (1, .int (nI (max (gEp dd ((1 - mh) * 96) k) me))), (2, .int (nI k))] → W p l e rmm_greatestEpoch s m args below meth c H locs 0 0 QQ (F0 m 7 ls []) := by
    intro n_
    induction n_ with
    | zero =>
      intro k hk hf
      exact absurd hf (by omega)
    | succ n_ ih =>
      intro k hk hf H locs ls hP hD hS hl
      have hg9 := gEp_b hdd ((1 - mh) * 96) k
      have hm9 : max (gEp dd ((1 - mh) * 96) k) me < 65536 := Nat.max_lt.mpr ⟨hg9, hme⟩
      have hp9 := pairN_b hdd (3072 * (1 - mh) + 32 * k)
      have e7 : gEp dd ((1 - mh) * 96) (k + 1) = max (gEp dd ((1 - mh) * 96) k) (pairN dd (3072 * (1 - mh) + 32 * k)) := by rw [gEp, show ((1 - mh) * 96 + k) * 32 = (3072 * (1 - mh) + 32 * k) by omega]
      refine lv_iload_n hx hb d_Mod_greatestEpoch_7 rfl (lv_at hl 2 rfl) ?_
      refine lv_bipush (v := nI 96) hx hb d_Mod_greatestEpoch_8 (by decide) ?_
      refine n_icmp_ge (tgt := 50) hx hb d_Mod_greatestEpoch_10 (by decide) (by omega) (by omega) (fun c_10 => ?_) (fun c_10 => ?_)
      · skip
        have hq : k = 96 := by omega
        refine lv_iload_n hx hb d_Mod_greatestEpoch_50 rfl (lv_at hl 1 rfl) ?_
        exact hret (nI (max (gEp dd ((1 - mh) * 96) k) me)) _ _ 51 ls d_Mod_greatestEpoch_51 (hP.sub [0, 1] rfl) (hD.sub [0, 1] (by decide) rfl) hS (by rw [hq])
      · skip
        refine lv_aload_n hx hb d_Mod_greatestEpoch_13 rfl (lv_at hl 0 rfl) ?_
        refine lv_sipush (v := nI 3072) hx hb d_Mod_greatestEpoch_14 (by decide) ?_
        refine lv_iconst (v := nI 1) hx hb d_Mod_greatestEpoch_17 (by decide) ?_
        refine lv_aload_n hx hb d_Mod_greatestEpoch_18 rfl (lv_at hl 0 rfl) ?_
        refine va_get (D := (dC, dI)) (ci := 7) (v := .int (nI mh)) (C := R_Mod) (T := F_Mod) (N := 23) hx hb hts in_Mod hown hK hP 0 rfl rfl 7 (by decide) (hts _ u_673) (fun _ h9 => h9) rfl d_Mod_greatestEpoch_19 ?_
        refine n_isub hx hb d_Mod_greatestEpoch_22 (by omega) ?_
        refine n_imul hx hb d_Mod_greatestEpoch_23 ?_
        refine lv_bipush (v := nI 32) hx hb d_Mod_greatestEpoch_24 (by decide) ?_
        refine lv_iload_n hx hb d_Mod_greatestEpoch_26 rfl (lv_at hl 2 rfl) ?_
        refine n_imul hx hb d_Mod_greatestEpoch_27 ?_
        refine n_iadd hx hb d_Mod_greatestEpoch_28 ?_
        refine kj_i (wr := []) (va_runV (As := [.int (nI ((3072 * (1 - mh)) + (32 * k)))]) (rest := []) SS (m_epochAt l dC dI cI H.size m0 a1 a2 a3 a4 a5 a6 a7 a8 a9 th vs bs ch mh me mb mn mw mr es pn ah fs dd ((3072 * (1 - mh)) + (32 * k)) (by omega)) (k_cwV 1 hts u_646 u_648 u_20 u_43 u_649 rfl rfl (by decide +kernel) ⟨Nat.le_of_ble_eq_true rfl, Nat.le_of_ble_eq_true rfl⟩) (kp_V hN hK [0] rfl hP hD [0, 1] rfl (by decide) (ci := 7) rfl 0 rfl) rfl rfl hl.1 rfl (lv_room (Nat.le_of_ble_eq_true rfl)) d_Mod_greatestEpoch_29 ⟨Nat.le_of_ble_eq_true rfl, Nat.le_of_ble_eq_true rfl⟩) hP hD hS hA [0, 1] [] rfl rfl (by decide) (by decide) (fun H locs hP hD hS => ?_)
        have hP : va_P (dC, dI) CL_ [(m0, .inr (7, [.int (nI th), .ref a1, .ref a2, .int (nI vs), .ref a3, .int (nI bs), .int (nI ch), .int (nI mh), .int (nI me), .int (nI mb), .int (nI mn), .ref a4, .ref a5, .int (nI mw), .int (nI mr), .ref a6, .int (nI es), .int (nI pn), .ref a7, .ref a8, .int (oI ah), .ref a9, .int (nI fs)])), (a1, .inl (cI, 6144, .inl (nA dd)))] H := hP
        have hD : va_D A [(m0, .inr (7, [.int (nI th), .ref a1, .ref a2, .int (nI vs), .ref a3, .int (nI bs), .int (nI ch), .int (nI mh), .int (nI me), .int (nI mb), .int (nI mn), .ref a4, .ref a5, .int (nI mw), .int (nI mr), .ref a6, .int (nI es), .int (nI pn), .ref a7, .ref a8, .int (oI ah), .ref a9, .int (nI fs)])), (a1, .inl (cI, 6144, .inl (nA dd)))] := hD
        refine lv_istore_n (lv' := [(3, .int (nI (pairN dd ((3072 * (1 - mh)) + (32 * k))))), (0, .ref m0), (1, .int (nI (max (gEp dd ((1 - mh) * 96) k) me))), (2, .int (nI k))]) hx hb d_Mod_greatestEpoch_32 rfl hl (by decide) rfl (fun ls hl => ?_)
        refine lv_iload_n hx hb d_Mod_greatestEpoch_33 rfl (lv_at hl 0 rfl) ?_
        refine lv_iload_n hx hb d_Mod_greatestEpoch_34 rfl (lv_at hl 2 rfl) ?_
        refine n_icmp_le (tgt := 42) hx hb d_Mod_greatestEpoch_35 (by decide) (by omega) (by omega) (fun c_35 => ?_) (fun c_35 => ?_)
        · skip
          refine lv_iload_n hx hb d_Mod_greatestEpoch_42 rfl (lv_at hl 2 rfl) ?_
          refine top_i (nI (max (gEp dd ((1 - mh) * 96) (k + 1)) me)) (by rw [e7]; congr 1; omega) ?_
          refine lv_istore_n (lv' := [(1, .int (nI (max (gEp dd ((1 - mh) * 96) (k + 1)) me))), (3, .int (nI (pairN dd ((3072 * (1 - mh)) + (32 * k))))), (0, .ref m0), (2, .int (nI k))]) hx hb d_Mod_greatestEpoch_43 rfl hl (by decide) rfl (fun ls hl => ?_)
          refine lv_iinc (v := nI (k + 1)) (lv' := [(2, .int (nI (k + 1))), (1, .int (nI (max (gEp dd ((1 - mh) * 96) (k + 1)) me))), (3, .int (nI (pairN dd ((3072 * (1 - mh)) + (32 * k))))), (0, .ref m0)]) hx hb d_Mod_greatestEpoch_44 hl (k := 3) rfl (inc1 k) (by decide) rfl (fun ls hl => ?_)
          refine lv_goto (tgt := 7) hx hb d_Mod_greatestEpoch_47 (by decide) ?_
          exact ih (k + 1) (by omega) (by omega) _ _ _ (hP.sub [0, 1] rfl) (hD.sub [0, 1] (by decide) rfl) hS (lv_sub hl [3, 1, 0] rfl)
        · skip
          refine lv_iload_n hx hb d_Mod_greatestEpoch_38 rfl (lv_at hl 0 rfl) ?_
          refine lv_goto (tgt := 43) hx hb d_Mod_greatestEpoch_39 (by decide) ?_
          refine top_i (nI (max (gEp dd ((1 - mh) * 96) (k + 1)) me)) (by rw [e7]; congr 1; omega) ?_
          refine lv_istore_n (lv' := [(1, .int (nI (max (gEp dd ((1 - mh) * 96) (k + 1)) me))), (3, .int (nI (pairN dd ((3072 * (1 - mh)) + (32 * k))))), (0, .ref m0), (2, .int (nI k))]) hx hb d_Mod_greatestEpoch_43 rfl hl (by decide) rfl (fun ls hl => ?_)
          refine lv_iinc (v := nI (k + 1)) (lv' := [(2, .int (nI (k + 1))), (1, .int (nI (max (gEp dd ((1 - mh) * 96) (k + 1)) me))), (3, .int (nI (pairN dd ((3072 * (1 - mh)) + (32 * k))))), (0, .ref m0)]) hx hb d_Mod_greatestEpoch_44 hl (k := 3) rfl (inc1 k) (by decide) rfl (fun ls hl => ?_)
          refine lv_goto (tgt := 7) hx hb d_Mod_greatestEpoch_47 (by decide) ?_
          exact ih (k + 1) (by omega) (by omega) _ _ _ (hP.sub [0, 1] rfl) (hD.sub [0, 1] (by decide) rfl) hS (lv_sub hl [3, 1, 0] rfl)
  have e8 : max (gEp dd ((1 - mh) * 96) 0) me = me := Nat.max_eq_right (Nat.zero_le _)
  rw [← e8] at hl
  exact loop_7 97 0 (by omega) (by omega) _ _ _ (hP.sub [0, 1] rfl) (hD.sub [0, 1] (by decide) rfl) hS (lv_sub hl [2, 1, 0] rfl)
