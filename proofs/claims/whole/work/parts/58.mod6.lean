abbrev rmm_put : Room := { frames := 1, cells := 0, slots := 0, locals := 22 }
set_option maxHeartbeats 4000000 in
set_option maxRecDepth 100000 in
theorem m_put (l : Launch) (dC : Nat → ClassId) (dI : Nat → Nat → Nat) (cI : ClassId) (sz : Nat) (m0 : Nat) (a1 : Nat) (a2 : Nat) (a3 : Nat) (a4 : Nat) (a5 : Nat) (a6 : Nat) (a7 : Nat) (a8 : Nat) (a9 : Nat) (th : Nat) (vs : Nat) (bs : Nat) (ch : Nat) (mh : Nat) (me : Nat) (mb : Nat) (mn : Nat) (mw : Nat) (mr : Nat) (es : Nat) (pn : Nat) (ah : Option Nat) (fs : Nat) (vv : Nat → Nat) (mn2 : Nat) (v : Int32) (hm1 : 1 ≤ mn2) (hm4 : mn2 ≤ 4) (hvm : vs + mn2 ≤ 40) : KI l y_Mod_put w_Mod_put rmm_put (dC, dI) CL_ [(cI, .int)] sz [.ref m0, .int (nI mn2), .int v] [(m0, .inr (7, [.int (nI th), .ref a1, .ref a2, .int (nI vs), .ref a3, .int (nI bs), .int (nI ch), .int (nI mh), .int (nI me), .int (nI mb), .int (nI mn), .ref a4, .ref a5, .int (nI mw), .int (nI mr), .ref a6, .int (nI es), .int (nI pn), .ref a7, .ref a8, .int (oI ah), .ref a9, .int (nI fs)])), (a2, .inl (cI, 40, .inl (nA vv)))] [(m0, .inr (7, [.int (nI 0), .ref a1, .ref a2, .int (nI (vs + mn2)), .ref a3, .int (nI bs), .int (nI ch), .int (nI mh), .int (nI me), .int (nI mb), .int (nI mn), .ref a4, .ref a5, .int (nI mw), .int (nI mr), .ref a6, .int (nI es), .int (nI pn), .ref a7, .ref a8, .int (oI ah), .ref a9, .int (nI fs)])), (a2, .inl (cI, 40, .inl (nA (fillN vv vs (fun i => (v.toBitVec.toNat / 2 ^ (8 * i) % 256)) mn2))))] (nI (vs + mn2)) := by
  refine k_start_i (cc := b_Mod_put) (maxL := 4) (by decide) (Nat.le_of_ble_eq_true rfl) ?_
  intro p e s m args below meth c A QQ ls SS hK hP hD hA hl hN hret
  obtain ⟨hx, hb, hml, hown, hts⟩ := id SS
  have hl : lv_has ls 4 [(0, .ref m0), (1, .int (nI mn2)), (2, .int v)] := hl
  have hS : va_S A s.heap s.heap [] := va_S.rf
  refine lv_aload_n hx hb d_Mod_put_0 rfl (lv_at hl 0 rfl) ?_
  refine lv_iload_n hx hb d_Mod_put_1 rfl (lv_at hl 1 rfl) ?_
  refine lv_iconst (v := nI 1) hx hb d_Mod_put_2 (by decide) ?_
  refine n_icmp_lt (tgt := 11) hx hb d_Mod_put_3 (by decide) (by omega) (by omega) (fun c_3 => ?_) (fun c_3 => ?_)
  · exact absurd c_3 (by omega)
  · skip
    refine lv_iload_n hx hb d_Mod_put_6 rfl (lv_at hl 1 rfl) ?_
    refine lv_iconst (v := nI 4) hx hb d_Mod_put_7 (by decide) ?_
    refine n_icmp_le (tgt := 15) hx hb d_Mod_put_8 (by decide) (by omega) (by omega) (fun c_8 => ?_) (fun c_8 => ?_)
    · skip
      refine lv_iconst (v := bI false) hx hb d_Mod_put_15 (by decide) ?_
      refine lv_aload_n hx hb d_Mod_put_16 rfl (lv_at hl 0 rfl) ?_
      refine va_get (D := (dC, dI)) (ci := 7) (v := .int (nI vs)) (C := R_Mod) (T := F_Mod) (N := 23) hx hb hts in_Mod hown hK hP 0 rfl rfl 3 (by decide) (hts _ u_669) (fun _ h9 => h9) rfl d_Mod_put_17 ?_
      refine lv_iload_n hx hb d_Mod_put_20 rfl (lv_at hl 1 rfl) ?_
      refine n_iadd hx hb d_Mod_put_21 ?_
      refine lv_bipush (v := nI 40) hx hb d_Mod_put_22 (by decide) ?_
      refine n_icmp_le (tgt := 31) hx hb d_Mod_put_24 (by decide) (by omega) (by omega) (fun c_24 => ?_) (fun c_24 => ?_)
      · skip
        refine lv_iconst (v := bI false) hx hb d_Mod_put_31 (by decide) ?_
        refine kj_i (wr := [(a2, .inl (cI, 40, .inl (nA vv)))]) (va_runV (As := [.int (bI false), .int (bI false)]) (rest := []) SS (m_refuse0 l dC dI cI s.heap.size m0 a1 a2 a3 a4 a5 a6 a7 a8 a9 th vs bs ch mh me mb mn mw mr es pn ah fs ) (k_cwV 2 hts u_744 u_746 u_25 u_43 u_747 rfl rfl (by decide +kernel) ⟨Nat.le_of_ble_eq_true rfl, Nat.le_of_ble_eq_true rfl⟩) (kp_V hN hK [0] rfl hP hD [0] rfl (by decide) (ci := 7) rfl 0 rfl) rfl rfl hl.1 rfl (lv_room (Nat.le_of_ble_eq_true rfl)) d_Mod_put_32 ⟨Nat.le_of_ble_eq_true rfl, Nat.le_of_ble_eq_true rfl⟩) hP hD hS hA [0] [1] rfl rfl (by decide) (by decide) (fun H locs hP hD hS => ?_)
        have hP : va_P (dC, dI) CL_ [(a2, .inl (cI, 40, .inl (nA vv))), (m0, .inr (7, [.int (nI 0), .ref a1, .ref a2, .int (nI vs), .ref a3, .int (nI bs), .int (nI ch), .int (nI mh), .int (nI me), .int (nI mb), .int (nI mn), .ref a4, .ref a5, .int (nI mw), .int (nI mr), .ref a6, .int (nI es), .int (nI pn), .ref a7, .ref a8, .int (oI ah), .ref a9, .int (nI fs)]))] H := hP
        have hD : va_D A [(a2, .inl (cI, 40, .inl (nA vv))), (m0, .inr (7, [.int (nI 0), .ref a1, .ref a2, .int (nI vs), .ref a3, .int (nI bs), .int (nI ch), .int (nI mh), .int (nI me), .int (nI mb), .int (nI mn), .ref a4, .ref a5, .int (nI mw), .int (nI mr), .ref a6, .int (nI es), .int (nI pn), .ref a7, .ref a8, .int (oI ah), .ref a9, .int (nI fs)]))] := hD
        refine n_if_eqB (tgt := 40) hx hb d_Mod_put_35 (by decide) (fun c_35 => ?_) (fun c_35 => ?_)
        · skip
          refine lv_iconst (v := nI 0) hx hb d_Mod_put_40 (by decide) ?_
          refine lv_istore_n (lv' := [(3, .int (nI 0)), (0, .ref m0), (1, .int (nI mn2)), (2, .int v)]) hx hb d_Mod_put_41 rfl hl (by decide) rfl (fun ls hl => ?_)
          have loop_42 : ∀ (n_ : Nat) (i : Nat), (i ≤ mn2) → (mn2 + 1 ≤ i + n_) → ∀ (H : Heap) (locs : List Loc) (ls : Array Slot), va_P (dC, dI) CL_ [(m0, .inr (7, [.int (nI 0), .ref a1, .ref a2, .int (nI (vs + i)), .ref a3, .int (nI bs), .int (nI ch), .int (nI mh), .int (nI me), .int (nI mb), .int (nI mn), .ref a4, .ref a5, .int (nI mw), .int (nI mr), .ref a6, .int (nI es), .int (nI pn), .ref a7, .ref a8, .int (oI ah), .ref a9, .int (nI fs)])), (a2, .inl (cI, 40, .inl (nA (fillN vv vs (fun i => (v.toBitVec.toNat / 2 ^ (8 * i) % 256)) i))))] H → va_D A [(m0, .inr (7, [.int (nI 0), .ref a1, .ref a2, .int (nI (vs + i)), .ref a3, .int (nI bs), .int (nI ch), .int (nI mh), .int (nI me), .int (nI mb), .int (nI mn), .ref a4, .ref a5, .int (nI mw), .int (nI mr), .ref a6, .int (nI es), .int (nI pn), .ref a7, .ref a8, .int (oI ah), .ref a9, .int (nI fs)])), (a2, .inl (cI, 40, .inl (nA (fillN vv vs (fun i => (v.toBitVec.toNat / 2 ^ (8 * i) % 256)) i))))] → va_S A s.heap H locs → lv_has ls 4 [(0, .ref m0), (1, .int (nI mn2)), (2, .int v), (3, .int (nI i))] → W p l e rmm_put s m args below meth c H locs 0 0 QQ (F0 m 42 ls []) := by
            intro n_
            induction n_ with
            | zero =>
              intro i hi hf
              exact absurd hf (by omega)
            | succ n_ ih =>
              intro i hi hf H locs ls hP hD hS hl
              refine lv_iload_n hx hb d_Mod_put_42 rfl (lv_at hl 3 rfl) ?_
              refine lv_iload_n hx hb d_Mod_put_43 rfl (lv_at hl 1 rfl) ?_
              refine n_icmp_ge (tgt := 82) hx hb d_Mod_put_44 (by decide) (by omega) (by omega) (fun c_44 => ?_) (fun c_44 => ?_)
              · skip
                have hq : i = mn2 := by omega
                subst hq
                refine lv_aload_n hx hb d_Mod_put_82 rfl (lv_at hl 0 rfl) ?_
                refine va_get (D := (dC, dI)) (ci := 7) (v := .int (nI (vs + i))) (C := R_Mod) (T := F_Mod) (N := 23) hx hb hts in_Mod hown hK hP 0 rfl rfl 3 (by decide) (hts _ u_669) (fun _ h9 => h9) rfl d_Mod_put_83 ?_
                exact hret (nI (vs + i)) _ _ 86 ls d_Mod_put_86 (hP.sub [0, 1] rfl) (hD.sub [0, 1] (by decide) rfl) hS rfl
              · skip
                refine lv_aload_n hx hb d_Mod_put_47 rfl (lv_at hl 0 rfl) ?_
                refine va_get (D := (dC, dI)) (ci := 7) (v := .ref a2) (C := R_Mod) (T := F_Mod) (N := 23) hx hb hts in_Mod hown hK hP 0 rfl rfl 2 (by decide) (hts _ u_668) (fun _ h9 => h9) rfl d_Mod_put_48 ?_
                refine lv_aload_n hx hb d_Mod_put_51 rfl (lv_at hl 0 rfl) ?_
                refine va_get (D := (dC, dI)) (ci := 7) (v := .int (nI (vs + i))) (C := R_Mod) (T := F_Mod) (N := 23) hx hb hts in_Mod hown hK hP 0 rfl rfl 3 (by decide) (hts _ u_669) (fun _ h9 => h9) rfl d_Mod_put_52 ?_
                refine lv_iload_n hx hb d_Mod_put_55 rfl (lv_at hl 2 rfl) ?_
                refine lv_bipush (v := nI 8) hx hb d_Mod_put_56 (by decide) ?_
                refine lv_iload_n hx hb d_Mod_put_58 rfl (lv_at hl 3 rfl) ?_
                refine n_imul hx hb d_Mod_put_59 ?_
                refine lv_ishr hx hb d_Mod_put_60 ?_
                refine lv_sipush (v := nI 255) hx hb d_Mod_put_61 (by decide) ?_
                refine n_iand255 hx hb d_Mod_put_64 ?_
                refine top_i (nI (v.toBitVec.toNat / 2 ^ (8 * i) % 256)) (by rw [shA v (by omega : i < 4)]) ?_
                refine n_iast (f' := nA (updN (fillN vv vs (fun i => (v.toBitVec.toNat / 2 ^ (8 * i) % 256)) i) (vs + i) (v.toBitVec.toNat / 2 ^ (8 * i) % 256))) hx hb hK hP hD hS 1 0 rfl rfl (nA_upd _ _ _) (by omega) (by omega) d_Mod_put_65 (fun H locs hP hD hS => ?_)
                have hP : va_P (dC, dI) CL_ [(m0, .inr (7, [.int (nI 0), .ref a1, .ref a2, .int (nI (vs + i)), .ref a3, .int (nI bs), .int (nI ch), .int (nI mh), .int (nI me), .int (nI mb), .int (nI mn), .ref a4, .ref a5, .int (nI mw), .int (nI mr), .ref a6, .int (nI es), .int (nI pn), .ref a7, .ref a8, .int (oI ah), .ref a9, .int (nI fs)])), (a2, .inl (cI, 40, .inl (nA (updN (fillN vv vs (fun i => (v.toBitVec.toNat / 2 ^ (8 * i) % 256)) i) (vs + i) (v.toBitVec.toNat / 2 ^ (8 * i) % 256)))))] H := hP
                have hD : va_D A [(m0, .inr (7, [.int (nI 0), .ref a1, .ref a2, .int (nI (vs + i)), .ref a3, .int (nI bs), .int (nI ch), .int (nI mh), .int (nI me), .int (nI mb), .int (nI mn), .ref a4, .ref a5, .int (nI mw), .int (nI mr), .ref a6, .int (nI es), .int (nI pn), .ref a7, .ref a8, .int (oI ah), .ref a9, .int (nI fs)])), (a2, .inl (cI, 40, .inl (nA (updN (fillN vv vs (fun i => (v.toBitVec.toNat / 2 ^ (8 * i) % 256)) i) (vs + i) (v.toBitVec.toNat / 2 ^ (8 * i) % 256)))))] := hD
                refine lv_aload_n hx hb d_Mod_put_66 rfl (lv_at hl 0 rfl) ?_
                refine lv_dup hx hb d_Mod_put_67 rfl ?_
                refine va_get (D := (dC, dI)) (ci := 7) (v := .int (nI (vs + i))) (C := R_Mod) (T := F_Mod) (N := 23) hx hb hts in_Mod hown hK hP 0 rfl rfl 3 (by decide) (hts _ u_669) (fun _ h9 => h9) rfl d_Mod_put_68 ?_
                refine lv_iconst (v := nI 1) hx hb d_Mod_put_71 (by decide) ?_
                refine n_iadd hx hb d_Mod_put_72 ?_
                refine va_put (D := (dC, dI)) (ci := 7) (v := .int (nI ((vs + i) + 1))) (ty := .int) (C := R_Mod) (T := F_Mod) (N := 23) hx hb hts in_Mod ty_Mod tok_Mod nm_Mod hown hK hP hD hS 0 rfl rfl 3 (by decide) (hts _ u_669) (fun _ h9 => h9) rfl (by decide +kernel) rfl rfl (Nat.le_of_ble_eq_true rfl) d_Mod_put_73 (fun H locs hP hD hS => ?_)
                have hP : va_P (dC, dI) CL_ [(m0, .inr (7, [.int (nI 0), .ref a1, .ref a2, .int (nI ((vs + i) + 1)), .ref a3, .int (nI bs), .int (nI ch), .int (nI mh), .int (nI me), .int (nI mb), .int (nI mn), .ref a4, .ref a5, .int (nI mw), .int (nI mr), .ref a6, .int (nI es), .int (nI pn), .ref a7, .ref a8, .int (oI ah), .ref a9, .int (nI fs)])), (a2, .inl (cI, 40, .inl (nA (updN (fillN vv vs (fun i => (v.toBitVec.toNat / 2 ^ (8 * i) % 256)) i) (vs + i) (v.toBitVec.toNat / 2 ^ (8 * i) % 256)))))] H := hP
                have hD : va_D A [(m0, .inr (7, [.int (nI 0), .ref a1, .ref a2, .int (nI ((vs + i) + 1)), .ref a3, .int (nI bs), .int (nI ch), .int (nI mh), .int (nI me), .int (nI mb), .int (nI mn), .ref a4, .ref a5, .int (nI mw), .int (nI mr), .ref a6, .int (nI es), .int (nI pn), .ref a7, .ref a8, .int (oI ah), .ref a9, .int (nI fs)])), (a2, .inl (cI, 40, .inl (nA (updN (fillN vv vs (fun i => (v.toBitVec.toNat / 2 ^ (8 * i) % 256)) i) (vs + i) (v.toBitVec.toNat / 2 ^ (8 * i) % 256)))))] := hD
                refine lv_iinc (v := nI (i + 1)) (lv' := [(3, .int (nI (i + 1))), (0, .ref m0), (1, .int (nI mn2)), (2, .int v)]) hx hb d_Mod_put_76 hl (k := 3) rfl (inc1 i) (by decide) rfl (fun ls hl => ?_)
                refine lv_goto (tgt := 42) hx hb d_Mod_put_79 (by decide) ?_
                have e9 : updN (fillN vv vs (fun i => (v.toBitVec.toNat / 2 ^ (8 * i) % 256)) i) (vs + i) (v.toBitVec.toNat / 2 ^ (8 * i) % 256) = fillN vv vs (fun i => (v.toBitVec.toNat / 2 ^ (8 * i) % 256)) (i + 1) := fillN_s _ _ _ _
                rw [e9] at hP hD
                exact ih (i + 1) (by omega) (by omega) _ _ _ (hP.sub [0, 1] rfl) (hD.sub [0, 1] (by decide) rfl) hS (lv_sub hl [1, 2, 3, 0] rfl)
          rw [← fillN_0 vv vs (fun i => (v.toBitVec.toNat / 2 ^ (8 * i) % 256))] at hP hD
          exact loop_42 (mn2 + 1) 0 (by omega) (by omega) _ _ _ (hP.sub [1, 0] rfl) (hD.sub [1, 0] (by decide) rfl) hS (lv_sub hl [1, 2, 3, 0] rfl)
        · exact absurd c_35 (by decide)
      · exact absurd c_24 (by omega)
    · exact absurd c_8 (by omega)
abbrev rmm_put1 : Room := { frames := 1, cells := 0, slots := 0, locals := 22 }
set_option maxHeartbeats 4000000 in
set_option maxRecDepth 100000 in
theorem m_put1 (l : Launch) (dC : Nat → ClassId) (dI : Nat → Nat → Nat) (cI : ClassId) (sz : Nat) (m0 : Nat) (a1 : Nat) (a2 : Nat) (a3 : Nat) (a4 : Nat) (a5 : Nat) (a6 : Nat) (a7 : Nat) (a8 : Nat) (a9 : Nat) (th : Nat) (vs : Nat) (bs : Nat) (ch : Nat) (mh : Nat) (me : Nat) (mb : Nat) (mn : Nat) (mw : Nat) (mr : Nat) (es : Nat) (pn : Nat) (ah : Option Nat) (fs : Nat) (x : Int32) (v : Int32) (hx1 : x < nI 1 ∨ nI 4 < x) : KI l y_Mod_put w_Mod_put rmm_put1 (dC, dI) CL_ [(cI, .int)] sz [.ref m0, .int x, .int v] [(m0, .inr (7, [.int (nI th), .ref a1, .ref a2, .int (nI vs), .ref a3, .int (nI bs), .int (nI ch), .int (nI mh), .int (nI me), .int (nI mb), .int (nI mn), .ref a4, .ref a5, .int (nI mw), .int (nI mr), .ref a6, .int (nI es), .int (nI pn), .ref a7, .ref a8, .int (oI ah), .ref a9, .int (nI fs)]))] [(m0, .inr (7, [.int (nI 1), .ref a1, .ref a2, .int (nI vs), .ref a3, .int (nI bs), .int (nI ch), .int (nI mh), .int (nI me), .int (nI mb), .int (nI mn), .ref a4, .ref a5, .int (nI mw), .int (nI mr), .ref a6, .int (nI es), .int (nI pn), .ref a7, .ref a8, .int (oI ah), .ref a9, .int (nI fs)]))] (nI 0) := by
  refine k_start_i (cc := b_Mod_put) (maxL := 4) (by decide) (Nat.le_of_ble_eq_true rfl) ?_
  intro p e s m args below meth c A QQ ls SS hK hP hD hA hl hN hret
  obtain ⟨hx, hb, hml, hown, hts⟩ := id SS
  have hl : lv_has ls 4 [(0, .ref m0), (1, .int x), (2, .int v)] := hl
  have hS : va_S A s.heap s.heap [] := va_S.rf
  refine lv_aload_n hx hb d_Mod_put_0 rfl (lv_at hl 0 rfl) ?_
  refine lv_iload_n hx hb d_Mod_put_1 rfl (lv_at hl 1 rfl) ?_
  refine lv_iconst (v := nI 1) hx hb d_Mod_put_2 (by decide) ?_
  refine lv_icmp_lt (tgt := 11) hx hb d_Mod_put_3 (by decide) (fun c_3 => ?_) (fun c_3 => ?_)
  · skip
    refine lv_iconst (v := bI true) hx hb d_Mod_put_11 (by decide) ?_
    refine lv_goto (tgt := 16) hx hb d_Mod_put_12 (by decide) ?_
    refine lv_aload_n hx hb d_Mod_put_16 rfl (lv_at hl 0 rfl) ?_
    refine va_get (D := (dC, dI)) (ci := 7) (v := .int (nI vs)) (C := R_Mod) (T := F_Mod) (N := 23) hx hb hts in_Mod hown hK hP 0 rfl rfl 3 (by decide) (hts _ u_669) (fun _ h9 => h9) rfl d_Mod_put_17 ?_
    refine lv_iload_n hx hb d_Mod_put_20 rfl (lv_at hl 1 rfl) ?_
    refine lv_iadd hx hb d_Mod_put_21 ?_
    refine lv_bipush (v := nI 40) hx hb d_Mod_put_22 (by decide) ?_
    refine lv_icmp_le (tgt := 31) hx hb d_Mod_put_24 (by decide) (fun c_24 => ?_) (fun c_24 => ?_)
    · skip
      refine lv_iconst (v := bI false) hx hb d_Mod_put_31 (by decide) ?_
      refine kj_i (wr := []) (va_runV (As := [.int (bI true), .int (bI false)]) (rest := []) SS (m_refuse1 l dC dI cI s.heap.size m0 a1 a2 a3 a4 a5 a6 a7 a8 a9 th vs bs ch mh me mb mn mw mr es pn ah fs false ) (k_cwV 2 hts u_744 u_746 u_25 u_43 u_747 rfl rfl (by decide +kernel) ⟨Nat.le_of_ble_eq_true rfl, Nat.le_of_ble_eq_true rfl⟩) (kp_V hN hK [0] rfl hP hD [0] rfl (by decide) (ci := 7) rfl 0 rfl) rfl rfl hl.1 rfl (lv_room (Nat.le_of_ble_eq_true rfl)) d_Mod_put_32 ⟨Nat.le_of_ble_eq_true rfl, Nat.le_of_ble_eq_true rfl⟩) hP hD hS hA [0] [] rfl rfl (by decide) (by decide) (fun H locs hP hD hS => ?_)
      have hP : va_P (dC, dI) CL_ [(m0, .inr (7, [.int (nI 1), .ref a1, .ref a2, .int (nI vs), .ref a3, .int (nI bs), .int (nI ch), .int (nI mh), .int (nI me), .int (nI mb), .int (nI mn), .ref a4, .ref a5, .int (nI mw), .int (nI mr), .ref a6, .int (nI es), .int (nI pn), .ref a7, .ref a8, .int (oI ah), .ref a9, .int (nI fs)]))] H := hP
      have hD : va_D A [(m0, .inr (7, [.int (nI 1), .ref a1, .ref a2, .int (nI vs), .ref a3, .int (nI bs), .int (nI ch), .int (nI mh), .int (nI me), .int (nI mb), .int (nI mn), .ref a4, .ref a5, .int (nI mw), .int (nI mr), .ref a6, .int (nI es), .int (nI pn), .ref a7, .ref a8, .int (oI ah), .ref a9, .int (nI fs)]))] := hD
      refine n_if_eqB (tgt := 40) hx hb d_Mod_put_35 (by decide) (fun c_35 => ?_) (fun c_35 => ?_)
      · exact absurd c_35 (by decide)
      · skip
        refine lv_iconst (v := nI 0) hx hb d_Mod_put_38 (by decide) ?_
        exact hret (nI 0) _ _ 39 ls d_Mod_put_39 (hP.sub [0] rfl) (hD.sub [0] (by decide) rfl) hS rfl
    · skip
      refine lv_iconst (v := bI true) hx hb d_Mod_put_27 (by decide) ?_
      refine lv_goto (tgt := 32) hx hb d_Mod_put_28 (by decide) ?_
      refine kj_i (wr := []) (va_runV (As := [.int (bI true), .int (bI true)]) (rest := []) SS (m_refuse1 l dC dI cI s.heap.size m0 a1 a2 a3 a4 a5 a6 a7 a8 a9 th vs bs ch mh me mb mn mw mr es pn ah fs true ) (k_cwV 2 hts u_744 u_746 u_25 u_43 u_747 rfl rfl (by decide +kernel) ⟨Nat.le_of_ble_eq_true rfl, Nat.le_of_ble_eq_true rfl⟩) (kp_V hN hK [0] rfl hP hD [0] rfl (by decide) (ci := 7) rfl 0 rfl) rfl rfl hl.1 rfl (lv_room (Nat.le_of_ble_eq_true rfl)) d_Mod_put_32 ⟨Nat.le_of_ble_eq_true rfl, Nat.le_of_ble_eq_true rfl⟩) hP hD hS hA [0] [] rfl rfl (by decide) (by decide) (fun H locs hP hD hS => ?_)
      have hP : va_P (dC, dI) CL_ [(m0, .inr (7, [.int (nI 1), .ref a1, .ref a2, .int (nI vs), .ref a3, .int (nI bs), .int (nI ch), .int (nI mh), .int (nI me), .int (nI mb), .int (nI mn), .ref a4, .ref a5, .int (nI mw), .int (nI mr), .ref a6, .int (nI es), .int (nI pn), .ref a7, .ref a8, .int (oI ah), .ref a9, .int (nI fs)]))] H := hP
      have hD : va_D A [(m0, .inr (7, [.int (nI 1), .ref a1, .ref a2, .int (nI vs), .ref a3, .int (nI bs), .int (nI ch), .int (nI mh), .int (nI me), .int (nI mb), .int (nI mn), .ref a4, .ref a5, .int (nI mw), .int (nI mr), .ref a6, .int (nI es), .int (nI pn), .ref a7, .ref a8, .int (oI ah), .ref a9, .int (nI fs)]))] := hD
      refine n_if_eqB (tgt := 40) hx hb d_Mod_put_35 (by decide) (fun c_35 => ?_) (fun c_35 => ?_)
      · exact absurd c_35 (by decide)
      · skip
        refine lv_iconst (v := nI 0) hx hb d_Mod_put_38 (by decide) ?_
        exact hret (nI 0) _ _ 39 ls d_Mod_put_39 (hP.sub [0] rfl) (hD.sub [0] (by decide) rfl) hS rfl
  · skip
    refine lv_iload_n hx hb d_Mod_put_6 rfl (lv_at hl 1 rfl) ?_
    refine lv_iconst (v := nI 4) hx hb d_Mod_put_7 (by decide) ?_
    refine lv_icmp_le (tgt := 15) hx hb d_Mod_put_8 (by decide) (fun c_8 => ?_) (fun c_8 => ?_)
    · exact absurd hx1 (fun q => q.elim c_3 (Int32.not_lt.mpr c_8))
    · skip
      refine lv_iconst (v := bI true) hx hb d_Mod_put_11 (by decide) ?_
      refine lv_goto (tgt := 16) hx hb d_Mod_put_12 (by decide) ?_
      refine lv_aload_n hx hb d_Mod_put_16 rfl (lv_at hl 0 rfl) ?_
      refine va_get (D := (dC, dI)) (ci := 7) (v := .int (nI vs)) (C := R_Mod) (T := F_Mod) (N := 23) hx hb hts in_Mod hown hK hP 0 rfl rfl 3 (by decide) (hts _ u_669) (fun _ h9 => h9) rfl d_Mod_put_17 ?_
      refine lv_iload_n hx hb d_Mod_put_20 rfl (lv_at hl 1 rfl) ?_
      refine lv_iadd hx hb d_Mod_put_21 ?_
      refine lv_bipush (v := nI 40) hx hb d_Mod_put_22 (by decide) ?_
      refine lv_icmp_le (tgt := 31) hx hb d_Mod_put_24 (by decide) (fun c_24 => ?_) (fun c_24 => ?_)
      · skip
        refine lv_iconst (v := bI false) hx hb d_Mod_put_31 (by decide) ?_
        refine kj_i (wr := []) (va_runV (As := [.int (bI true), .int (bI false)]) (rest := []) SS (m_refuse1 l dC dI cI s.heap.size m0 a1 a2 a3 a4 a5 a6 a7 a8 a9 th vs bs ch mh me mb mn mw mr es pn ah fs false ) (k_cwV 2 hts u_744 u_746 u_25 u_43 u_747 rfl rfl (by decide +kernel) ⟨Nat.le_of_ble_eq_true rfl, Nat.le_of_ble_eq_true rfl⟩) (kp_V hN hK [0] rfl hP hD [0] rfl (by decide) (ci := 7) rfl 0 rfl) rfl rfl hl.1 rfl (lv_room (Nat.le_of_ble_eq_true rfl)) d_Mod_put_32 ⟨Nat.le_of_ble_eq_true rfl, Nat.le_of_ble_eq_true rfl⟩) hP hD hS hA [0] [] rfl rfl (by decide) (by decide) (fun H locs hP hD hS => ?_)
        have hP : va_P (dC, dI) CL_ [(m0, .inr (7, [.int (nI 1), .ref a1, .ref a2, .int (nI vs), .ref a3, .int (nI bs), .int (nI ch), .int (nI mh), .int (nI me), .int (nI mb), .int (nI mn), .ref a4, .ref a5, .int (nI mw), .int (nI mr), .ref a6, .int (nI es), .int (nI pn), .ref a7, .ref a8, .int (oI ah), .ref a9, .int (nI fs)]))] H := hP
        have hD : va_D A [(m0, .inr (7, [.int (nI 1), .ref a1, .ref a2, .int (nI vs), .ref a3, .int (nI bs), .int (nI ch), .int (nI mh), .int (nI me), .int (nI mb), .int (nI mn), .ref a4, .ref a5, .int (nI mw), .int (nI mr), .ref a6, .int (nI es), .int (nI pn), .ref a7, .ref a8, .int (oI ah), .ref a9, .int (nI fs)]))] := hD
        refine n_if_eqB (tgt := 40) hx hb d_Mod_put_35 (by decide) (fun c_35 => ?_) (fun c_35 => ?_)
        · exact absurd c_35 (by decide)
        · skip
          refine lv_iconst (v := nI 0) hx hb d_Mod_put_38 (by decide) ?_
          exact hret (nI 0) _ _ 39 ls d_Mod_put_39 (hP.sub [0] rfl) (hD.sub [0] (by decide) rfl) hS rfl
      · skip
        refine lv_iconst (v := bI true) hx hb d_Mod_put_27 (by decide) ?_
        refine lv_goto (tgt := 32) hx hb d_Mod_put_28 (by decide) ?_
        refine kj_i (wr := []) (va_runV (As := [.int (bI true), .int (bI true)]) (rest := []) SS (m_refuse1 l dC dI cI s.heap.size m0 a1 a2 a3 a4 a5 a6 a7 a8 a9 th vs bs ch mh me mb mn mw mr es pn ah fs true ) (k_cwV 2 hts u_744 u_746 u_25 u_43 u_747 rfl rfl (by decide +kernel) ⟨Nat.le_of_ble_eq_true rfl, Nat.le_of_ble_eq_true rfl⟩) (kp_V hN hK [0] rfl hP hD [0] rfl (by decide) (ci := 7) rfl 0 rfl) rfl rfl hl.1 rfl (lv_room (Nat.le_of_ble_eq_true rfl)) d_Mod_put_32 ⟨Nat.le_of_ble_eq_true rfl, Nat.le_of_ble_eq_true rfl⟩) hP hD hS hA [0] [] rfl rfl (by decide) (by decide) (fun H locs hP hD hS => ?_)
        have hP : va_P (dC, dI) CL_ [(m0, .inr (7, [.int (nI 1), .ref a1, .ref a2, .int (nI vs), .ref a3, .int (nI bs), .int (nI ch), .int (nI mh), .int (nI me), .int (nI mb), .int (nI mn), .ref a4, .ref a5, .int (nI mw), .int (nI mr), .ref a6, .int (nI es), .int (nI pn), .ref a7, .ref a8, .int (oI ah), .ref a9, .int (nI fs)]))] H := hP
        have hD : va_D A [(m0, .inr (7, [.int (nI 1), .ref a1, .ref a2, .int (nI vs), .ref a3, .int (nI bs), .int (nI ch), .int (nI mh), .int (nI me), .int (nI mb), .int (nI mn), .ref a4, .ref a5, .int (nI mw), .int (nI mr), .ref a6, .int (nI es), .int (nI pn), .ref a7, .ref a8, .int (oI ah), .ref a9, .int (nI fs)]))] := hD
        refine n_if_eqB (tgt := 40) hx hb d_Mod_put_35 (by decide) (fun c_35 => ?_) (fun c_35 => ?_)
        · exact absurd c_35 (by decide)
        · skip
          refine lv_iconst (v := nI 0) hx hb d_Mod_put_38 (by decide) ?_
          exact hret (nI 0) _ _ 39 ls d_Mod_put_39 (hP.sub [0] rfl) (hD.sub [0] (by decide) rfl) hS rfl
abbrev rmm_put2 : Room := { frames := 1, cells := 0, slots := 0, locals := 22 }
set_option maxHeartbeats 4000000 in
set_option maxRecDepth 100000 in
theorem m_put2 (l : Launch) (dC : Nat → ClassId) (dI : Nat → Nat → Nat) (cI : ClassId) (sz : Nat) (m0 : Nat) (a1 : Nat) (a2 : Nat) (a3 : Nat) (a4 : Nat) (a5 : Nat) (a6 : Nat) (a7 : Nat) (a8 : Nat) (a9 : Nat) (th : Nat) (vs : Nat) (bs : Nat) (ch : Nat) (mh : Nat) (me : Nat) (mb : Nat) (mn : Nat) (mw : Nat) (mr : Nat) (es : Nat) (pn : Nat) (ah : Option Nat) (fs : Nat) (mn2 : Nat) (v : Int32) (hm1 : 1 ≤ mn2) (hm4 : mn2 ≤ 4) (hvs : vs ≤ 40) (hvm : 40 < vs + mn2) : KI l y_Mod_put w_Mod_put rmm_put2 (dC, dI) CL_ [(cI, .int)] sz [.ref m0, .int (nI mn2), .int v] [(m0, .inr (7, [.int (nI th), .ref a1, .ref a2, .int (nI vs), .ref a3, .int (nI bs), .int (nI ch), .int (nI mh), .int (nI me), .int (nI mb), .int (nI mn), .ref a4, .ref a5, .int (nI mw), .int (nI mr), .ref a6, .int (nI es), .int (nI pn), .ref a7, .ref a8, .int (oI ah), .ref a9, .int (nI fs)]))] [(m0, .inr (7, [.int (nI 2), .ref a1, .ref a2, .int (nI vs), .ref a3, .int (nI bs), .int (nI ch), .int (nI mh), .int (nI me), .int (nI mb), .int (nI mn), .ref a4, .ref a5, .int (nI mw), .int (nI mr), .ref a6, .int (nI es), .int (nI pn), .ref a7, .ref a8, .int (oI ah), .ref a9, .int (nI fs)]))] (nI 0) := by
  refine k_start_i (cc := b_Mod_put) (maxL := 4) (by decide) (Nat.le_of_ble_eq_true rfl) ?_
  intro p e s m args below meth c A QQ ls SS hK hP hD hA hl hN hret
  obtain ⟨hx, hb, hml, hown, hts⟩ := id SS
  have hl : lv_has ls 4 [(0, .ref m0), (1, .int (nI mn2)), (2, .int v)] := hl
  have hS : va_S A s.heap s.heap [] := va_S.rf
  refine lv_aload_n hx hb d_Mod_put_0 rfl (lv_at hl 0 rfl) ?_
  refine lv_iload_n hx hb d_Mod_put_1 rfl (lv_at hl 1 rfl) ?_
  refine lv_iconst (v := nI 1) hx hb d_Mod_put_2 (by decide) ?_
  refine n_icmp_lt (tgt := 11) hx hb d_Mod_put_3 (by decide) (by omega) (by omega) (fun c_3 => ?_) (fun c_3 => ?_)
  · exact absurd c_3 (by omega)
  · skip
    refine lv_iload_n hx hb d_Mod_put_6 rfl (lv_at hl 1 rfl) ?_
    refine lv_iconst (v := nI 4) hx hb d_Mod_put_7 (by decide) ?_
    refine n_icmp_le (tgt := 15) hx hb d_Mod_put_8 (by decide) (by omega) (by omega) (fun c_8 => ?_) (fun c_8 => ?_)
    · skip
      refine lv_iconst (v := bI false) hx hb d_Mod_put_15 (by decide) ?_
      refine lv_aload_n hx hb d_Mod_put_16 rfl (lv_at hl 0 rfl) ?_
      refine va_get (D := (dC, dI)) (ci := 7) (v := .int (nI vs)) (C := R_Mod) (T := F_Mod) (N := 23) hx hb hts in_Mod hown hK hP 0 rfl rfl 3 (by decide) (hts _ u_669) (fun _ h9 => h9) rfl d_Mod_put_17 ?_
      refine lv_iload_n hx hb d_Mod_put_20 rfl (lv_at hl 1 rfl) ?_
      refine n_iadd hx hb d_Mod_put_21 ?_
      refine lv_bipush (v := nI 40) hx hb d_Mod_put_22 (by decide) ?_
      refine n_icmp_le (tgt := 31) hx hb d_Mod_put_24 (by decide) (by omega) (by omega) (fun c_24 => ?_) (fun c_24 => ?_)
      · exact absurd c_24 (by omega)
      · skip
        refine lv_iconst (v := bI true) hx hb d_Mod_put_27 (by decide) ?_
        refine lv_goto (tgt := 32) hx hb d_Mod_put_28 (by decide) ?_
        refine kj_i (wr := []) (va_runV (As := [.int (bI false), .int (bI true)]) (rest := []) SS (m_refuse2 l dC dI cI s.heap.size m0 a1 a2 a3 a4 a5 a6 a7 a8 a9 th vs bs ch mh me mb mn mw mr es pn ah fs ) (k_cwV 2 hts u_744 u_746 u_25 u_43 u_747 rfl rfl (by decide +kernel) ⟨Nat.le_of_ble_eq_true rfl, Nat.le_of_ble_eq_true rfl⟩) (kp_V hN hK [0] rfl hP hD [0] rfl (by decide) (ci := 7) rfl 0 rfl) rfl rfl hl.1 rfl (lv_room (Nat.le_of_ble_eq_true rfl)) d_Mod_put_32 ⟨Nat.le_of_ble_eq_true rfl, Nat.le_of_ble_eq_true rfl⟩) hP hD hS hA [0] [] rfl rfl (by decide) (by decide) (fun H locs hP hD hS => ?_)
        have hP : va_P (dC, dI) CL_ [(m0, .inr (7, [.int (nI 2), .ref a1, .ref a2, .int (nI vs), .ref a3, .int (nI bs), .int (nI ch), .int (nI mh), .int (nI me), .int (nI mb), .int (nI mn), .ref a4, .ref a5, .int (nI mw), .int (nI mr), .ref a6, .int (nI es), .int (nI pn), .ref a7, .ref a8, .int (oI ah), .ref a9, .int (nI fs)]))] H := hP
        have hD : va_D A [(m0, .inr (7, [.int (nI 2), .ref a1, .ref a2, .int (nI vs), .ref a3, .int (nI bs), .int (nI ch), .int (nI mh), .int (nI me), .int (nI mb), .int (nI mn), .ref a4, .ref a5, .int (nI mw), .int (nI mr), .ref a6, .int (nI es), .int (nI pn), .ref a7, .ref a8, .int (oI ah), .ref a9, .int (nI fs)]))] := hD
        refine n_if_eqB (tgt := 40) hx hb d_Mod_put_35 (by decide) (fun c_35 => ?_) (fun c_35 => ?_)
        · exact absurd c_35 (by decide)
        · skip
          refine lv_iconst (v := nI 0) hx hb d_Mod_put_38 (by decide) ?_
          exact hret (nI 0) _ _ 39 ls d_Mod_put_39 (hP.sub [0] rfl) (hD.sub [0] (by decide) rfl) hS rfl
    · exact absurd c_8 (by omega)
abbrev rmm_set : Room := { frames := 1, cells := 0, slots := 0, locals := 22 }
set_option maxHeartbeats 4000000 in
set_option maxRecDepth 100000 in
theorem m_set (l : Launch) (dC : Nat → ClassId) (dI : Nat → Nat → Nat) (cI : ClassId) (sz : Nat) (m0 : Nat) (a1 : Nat) (a2 : Nat) (a3 : Nat) (a4 : Nat) (a5 : Nat) (a6 : Nat) (a7 : Nat) (a8 : Nat) (a9 : Nat) (th : Nat) (vs : Nat) (bs : Nat) (ch : Nat) (mh : Nat) (me : Nat) (mb : Nat) (mn : Nat) (mw : Nat) (mr : Nat) (es : Nat) (pn : Nat) (ah : Option Nat) (fs : Nat) (vv : Nat → Nat) (bb : Nat → Nat) (k : Nat) (hk : k < 200) (hc8 : ch < 8) (hbs : bs ≤ 1 + 42 * ch) (hvs : vs ≤ 40) : KI l y_Mod_set w_Mod_set rmm_set (dC, dI) CL_ [(cI, .int)] sz [.ref m0, .int (nI k)] [(m0, .inr (7, [.int (nI th), .ref a1, .ref a2, .int (nI vs), .ref a3, .int (nI bs), .int (nI ch), .int (nI mh), .int (nI me), .int (nI mb), .int (nI mn), .ref a4, .ref a5, .int (nI mw), .int (nI mr), .ref a6, .int (nI es), .int (nI pn), .ref a7, .ref a8, .int (oI ah), .ref a9, .int (nI fs)])), (a2, .inl (cI, 40, .inl (nA vv))), (a3, .inl (cI, 400, .inl (nA bb)))] [(m0, .inr (7, [.int (nI 0), .ref a1, .ref a2, .int (nI 0), .ref a3, .int (nI (bs + (2 + vs))), .int (nI (ch + 1)), .int (nI mh), .int (nI me), .int (nI mb), .int (nI mn), .ref a4, .ref a5, .int (nI mw), .int (nI mr), .ref a6, .int (nI es), .int (nI pn), .ref a7, .ref a8, .int (oI ah), .ref a9, .int (nI fs)])), (a2, .inl (cI, 40, .inl (nA vv))), (a3, .inl (cI, 400, .inl (nA (updN (fillN (updN (updN bb bs k) (bs + 1) vs) (bs + 2) (fun i => vv i) vs) 0 (ch + 1)))))] (nI (ch + 1)) := by
  refine k_start_i (cc := b_Mod_set) (maxL := 3) (by decide) (Nat.le_of_ble_eq_true rfl) ?_
  intro p e s m args below meth c A QQ ls SS hK hP hD hA hl hN hret
  obtain ⟨hx, hb, hml, hown, hts⟩ := id SS
  have hl : lv_has ls 3 [(0, .ref m0), (1, .int (nI k))] := hl
  have hS : va_S A s.heap s.heap [] := va_S.rf
  refine lv_aload_n hx hb d_Mod_set_0 rfl (lv_at hl 0 rfl) ?_
  refine lv_iload_n hx hb d_Mod_set_1 rfl (lv_at hl 1 rfl) ?_
  refine n_if_lt (tgt := 12) hx hb d_Mod_set_2 (by decide) (by omega) ?_
  refine lv_iload_n hx hb d_Mod_set_5 rfl (lv_at hl 1 rfl) ?_
  refine lv_sipush (v := nI 199) hx hb d_Mod_set_6 (by decide) ?_
  refine n_icmp_le (tgt := 16) hx hb d_Mod_set_9 (by decide) (by omega) (by omega) (fun c_9 => ?_) (fun c_9 => ?_)
  · skip
    refine lv_iconst (v := bI false) hx hb d_Mod_set_16 (by decide) ?_
    refine lv_aload_n hx hb d_Mod_set_17 rfl (lv_at hl 0 rfl) ?_
    refine va_get (D := (dC, dI)) (ci := 7) (v := .int (nI ch)) (C := R_Mod) (T := F_Mod) (N := 23) hx hb hts in_Mod hown hK hP 0 rfl rfl 6 (by decide) (hts _ u_672) (fun _ h9 => h9) rfl d_Mod_set_18 ?_
    refine lv_bipush (v := nI 8) hx hb d_Mod_set_21 (by decide) ?_
    refine n_icmp_ne (tgt := 30) hx hb d_Mod_set_23 (by decide) (by omega) (by omega) (fun c_23 => ?_) (fun c_23 => ?_)
    · skip
      refine lv_iconst (v := bI false) hx hb d_Mod_set_30 (by decide) ?_
      refine kj_i (wr := [(a2, .inl (cI, 40, .inl (nA vv))), (a3, .inl (cI, 400, .inl (nA bb)))]) (va_runV (As := [.int (bI false), .int (bI false)]) (rest := []) SS (m_refuse0 l dC dI cI s.heap.size m0 a1 a2 a3 a4 a5 a6 a7 a8 a9 th vs bs ch mh me mb mn mw mr es pn ah fs ) (k_cwV 2 hts u_744 u_746 u_25 u_43 u_747 rfl rfl (by decide +kernel) ⟨Nat.le_of_ble_eq_true rfl, Nat.le_of_ble_eq_true rfl⟩) (kp_V hN hK [0] rfl hP hD [0] rfl (by decide) (ci := 7) rfl 0 rfl) rfl rfl hl.1 rfl (lv_room (Nat.le_of_ble_eq_true rfl)) d_Mod_set_31 ⟨Nat.le_of_ble_eq_true rfl, Nat.le_of_ble_eq_true rfl⟩) hP hD hS hA [0] [1, 2] rfl rfl (by decide) (by decide) (fun H locs hP hD hS => ?_)
      have hP : va_P (dC, dI) CL_ [(a2, .inl (cI, 40, .inl (nA vv))), (a3, .inl (cI, 400, .inl (nA bb))), (m0, .inr (7, [.int (nI 0), .ref a1, .ref a2, .int (nI vs), .ref a3, .int (nI bs), .int (nI ch), .int (nI mh), .int (nI me), .int (nI mb), .int (nI mn), .ref a4, .ref a5, .int (nI mw), .int (nI mr), .ref a6, .int (nI es), .int (nI pn), .ref a7, .ref a8, .int (oI ah), .ref a9, .int (nI fs)]))] H := hP
      have hD : va_D A [(a2, .inl (cI, 40, .inl (nA vv))), (a3, .inl (cI, 400, .inl (nA bb))), (m0, .inr (7, [.int (nI 0), .ref a1, .ref a2, .int (nI vs), .ref a3, .int (nI bs), .int (nI ch), .int (nI mh), .int (nI me), .int (nI mb), .int (nI mn), .ref a4, .ref a5, .int (nI mw), .int (nI mr), .ref a6, .int (nI es), .int (nI pn), .ref a7, .ref a8, .int (oI ah), .ref a9, .int (nI fs)]))] := hD
      refine n_if_eqB (tgt := 39) hx hb d_Mod_set_34 (by decide) (fun c_34 => ?_) (fun c_34 => ?_)
      · skip
        refine lv_aload_n hx hb d_Mod_set_39 rfl (lv_at hl 0 rfl) ?_
        refine va_get (D := (dC, dI)) (ci := 7) (v := .ref a3) (C := R_Mod) (T := F_Mod) (N := 23) hx hb hts in_Mod hown hK hP 2 rfl rfl 4 (by decide) (hts _ u_670) (fun _ h9 => h9) rfl d_Mod_set_40 ?_
        refine lv_aload_n hx hb d_Mod_set_43 rfl (lv_at hl 0 rfl) ?_
        refine va_get (D := (dC, dI)) (ci := 7) (v := .int (nI bs)) (C := R_Mod) (T := F_Mod) (N := 23) hx hb hts in_Mod hown hK hP 2 rfl rfl 5 (by decide) (hts _ u_671) (fun _ h9 => h9) rfl d_Mod_set_44 ?_
        refine lv_iload_n hx hb d_Mod_set_47 rfl (lv_at hl 1 rfl) ?_
        refine n_iast (f' := nA (updN bb bs k)) hx hb hK hP hD hS 1 0 rfl rfl (nA_upd _ _ _) (by omega) (by omega) d_Mod_set_48 (fun H locs hP hD hS => ?_)
        have hP : va_P (dC, dI) CL_ [(a2, .inl (cI, 40, .inl (nA vv))), (a3, .inl (cI, 400, .inl (nA (updN bb bs k)))), (m0, .inr (7, [.int (nI 0), .ref a1, .ref a2, .int (nI vs), .ref a3, .int (nI bs), .int (nI ch), .int (nI mh), .int (nI me), .int (nI mb), .int (nI mn), .ref a4, .ref a5, .int (nI mw), .int (nI mr), .ref a6, .int (nI es), .int (nI pn), .ref a7, .ref a8, .int (oI ah), .ref a9, .int (nI fs)]))] H := hP
        have hD : va_D A [(a2, .inl (cI, 40, .inl (nA vv))), (a3, .inl (cI, 400, .inl (nA (updN bb bs k)))), (m0, .inr (7, [.int (nI 0), .ref a1, .ref a2, .int (nI vs), .ref a3, .int (nI bs), .int (nI ch), .int (nI mh), .int (nI me), .int (nI mb), .int (nI mn), .ref a4, .ref a5, .int (nI mw), .int (nI mr), .ref a6, .int (nI es), .int (nI pn), .ref a7, .ref a8, .int (oI ah), .ref a9, .int (nI fs)]))] := hD
        refine lv_aload_n hx hb d_Mod_set_49 rfl (lv_at hl 0 rfl) ?_
        refine va_get (D := (dC, dI)) (ci := 7) (v := .ref a3) (C := R_Mod) (T := F_Mod) (N := 23) hx hb hts in_Mod hown hK hP 2 rfl rfl 4 (by decide) (hts _ u_670) (fun _ h9 => h9) rfl d_Mod_set_50 ?_
        refine lv_aload_n hx hb d_Mod_set_53 rfl (lv_at hl 0 rfl) ?_
        refine va_get (D := (dC, dI)) (ci := 7) (v := .int (nI bs)) (C := R_Mod) (T := F_Mod) (N := 23) hx hb hts in_Mod hown hK hP 2 rfl rfl 5 (by decide) (hts _ u_671) (fun _ h9 => h9) rfl d_Mod_set_54 ?_
        refine lv_iconst (v := nI 1) hx hb d_Mod_set_57 (by decide) ?_
        refine n_iadd hx hb d_Mod_set_58 ?_
        refine lv_aload_n hx hb d_Mod_set_59 rfl (lv_at hl 0 rfl) ?_
        refine va_get (D := (dC, dI)) (ci := 7) (v := .int (nI vs)) (C := R_Mod) (T := F_Mod) (N := 23) hx hb hts in_Mod hown hK hP 2 rfl rfl 3 (by decide) (hts _ u_669) (fun _ h9 => h9) rfl d_Mod_set_60 ?_
        refine n_iast (f' := nA (updN (updN bb bs k) (bs + 1) vs)) hx hb hK hP hD hS 1 0 rfl rfl (nA_upd _ _ _) (by omega) (by omega) d_Mod_set_63 (fun H locs hP hD hS => ?_)
        have hP : va_P (dC, dI) CL_ [(a2, .inl (cI, 40, .inl (nA vv))), (a3, .inl (cI, 400, .inl (nA (updN (updN bb bs k) (bs + 1) vs)))), (m0, .inr (7, [.int (nI 0), .ref a1, .ref a2, .int (nI vs), .ref a3, .int (nI bs), .int (nI ch), .int (nI mh), .int (nI me), .int (nI mb), .int (nI mn), .ref a4, .ref a5, .int (nI mw), .int (nI mr), .ref a6, .int (nI es), .int (nI pn), .ref a7, .ref a8, .int (oI ah), .ref a9, .int (nI fs)]))] H := hP
        have hD : va_D A [(a2, .inl (cI, 40, .inl (nA vv))), (a3, .inl (cI, 400, .inl (nA (updN (updN bb bs k) (bs + 1) vs)))), (m0, .inr (7, [.int (nI 0), .ref a1, .ref a2, .int (nI vs), .ref a3, .int (nI bs), .int (nI ch), .int (nI mh), .int (nI me), .int (nI mb), .int (nI mn), .ref a4, .ref a5, .int (nI mw), .int (nI mr), .ref a6, .int (nI es), .int (nI pn), .ref a7, .ref a8, .int (oI ah), .ref a9, .int (nI fs)]))] := hD
        refine lv_iconst (v := nI 0) hx hb d_Mod_set_64 (by decide) ?_
        refine lv_istore_n (lv' := [(2, .int (nI 0)), (0, .ref m0), (1, .int (nI k))]) hx hb d_Mod_set_65 rfl hl (by decide) rfl (fun ls hl => ?_)
        have loop_66 : ∀ (n_ : Nat) (i : Nat), (i ≤ vs) → (vs + 1 ≤ i + n_) → ∀ (H : Heap) (locs : List Loc) (ls : Array Slot), va_P (dC, dI) CL_ [(m0, .inr (7, [.int (nI 0), .ref a1, .ref a2, .int (nI vs), .ref a3, .int (nI bs), .int (nI ch), .int (nI mh), .int (nI me), .int (nI mb), .int (nI mn), .ref a4, .ref a5, .int (nI mw), .int (nI mr), .ref a6, .int (nI es), .int (nI pn), .ref a7, .ref a8, .int (oI ah), .ref a9, .int (nI fs)])), (a2, .inl (cI, 40, .inl (nA vv))), (a3, .inl (cI, 400, .inl (nA (fillN (updN (updN bb bs k) (bs + 1) vs) (bs + 2) (fun i => vv i) i))))] H → va_D A [(m0, .inr (7, [.int (nI 0), .ref a1, .ref a2, .int (nI vs), .ref a3, .int (nI bs), .int (nI ch), .int (nI mh), .int (nI me), .int (nI mb), .int (nI mn), .ref a4, .ref a5, .int (nI mw), .int (nI mr), .ref a6, .int (nI es), .int (nI pn), .ref a7, .ref a8, .int (oI ah), .ref a9, .int (nI fs)])), (a2, .inl (cI, 40, .inl (nA vv))), (a3, .inl (cI, 400, .inl (nA (fillN (updN (updN bb bs k) (bs + 1) vs) (bs + 2) (fun i => vv i) i))))] → va_S A s.heap H locs → lv_has ls 3 [(0, .ref m0), (1, .int (nI k)), (2, .int (nI i))] → W p l e rmm_set s m args below meth c H locs 0 0 QQ (F0 m 66 ls []) := by
          intro n_
          induction n_ with
          | zero =>
            intro i hi hf
            exact absurd hf (by omega)
          | succ n_ ih =>
            intro i hi hf H locs ls hP hD hS hl
            refine lv_iload_n hx hb d_Mod_set_66 rfl (lv_at hl 2 rfl) ?_
            refine lv_aload_n hx hb d_Mod_set_67 rfl (lv_at hl 0 rfl) ?_
            refine va_get (D := (dC, dI)) (ci := 7) (v := .int (nI vs)) (C := R_Mod) (T := F_Mod) (N := 23) hx hb hts in_Mod hown hK hP 0 rfl rfl 3 (by decide) (hts _ u_669) (fun _ h9 => h9) rfl d_Mod_set_68 ?_
            refine n_icmp_ge (tgt := 99) hx hb d_Mod_set_71 (by decide) (by omega) (by omega) (fun c_71 => ?_) (fun c_71 => ?_)
            · skip
              have hq : i = vs := by omega
              rw [hq] at hP hD
              have hP : va_P (dC, dI) CL_ [(m0, .inr (7, [.int (nI 0), .ref a1, .ref a2, .int (nI vs), .ref a3, .int (nI bs), .int (nI ch), .int (nI mh), .int (nI me), .int (nI mb), .int (nI mn), .ref a4, .ref a5, .int (nI mw), .int (nI mr), .ref a6, .int (nI es), .int (nI pn), .ref a7, .ref a8, .int (oI ah), .ref a9, .int (nI fs)])), (a2, .inl (cI, 40, .inl (nA vv))), (a3, .inl (cI, 400, .inl (nA (fillN (updN (updN bb bs k) (bs + 1) vs) (bs + 2) (fun i => vv i) vs))))] H := hP
              have hD : va_D A [(m0, .inr (7, [.int (nI 0), .ref a1, .ref a2, .int (nI vs), .ref a3, .int (nI bs), .int (nI ch), .int (nI mh), .int (nI me), .int (nI mb), .int (nI mn), .ref a4, .ref a5, .int (nI mw), .int (nI mr), .ref a6, .int (nI es), .int (nI pn), .ref a7, .ref a8, .int (oI ah), .ref a9, .int (nI fs)])), (a2, .inl (cI, 40, .inl (nA vv))), (a3, .inl (cI, 400, .inl (nA (fillN (updN (updN bb bs k) (bs + 1) vs) (bs + 2) (fun i => vv i) vs))))] := hD
              refine lv_aload_n hx hb d_Mod_set_99 rfl (lv_at hl 0 rfl) ?_
              refine lv_dup hx hb d_Mod_set_100 rfl ?_
              refine va_get (D := (dC, dI)) (ci := 7) (v := .int (nI bs)) (C := R_Mod) (T := F_Mod) (N := 23) hx hb hts in_Mod hown hK hP 0 rfl rfl 5 (by decide) (hts _ u_671) (fun _ h9 => h9) rfl d_Mod_set_101 ?_
              refine lv_iconst (v := nI 2) hx hb d_Mod_set_104 (by decide) ?_
              refine lv_aload_n hx hb d_Mod_set_105 rfl (lv_at hl 0 rfl) ?_
              refine va_get (D := (dC, dI)) (ci := 7) (v := .int (nI vs)) (C := R_Mod) (T := F_Mod) (N := 23) hx hb hts in_Mod hown hK hP 0 rfl rfl 3 (by decide) (hts _ u_669) (fun _ h9 => h9) rfl d_Mod_set_106 ?_
              refine n_iadd hx hb d_Mod_set_109 ?_
              refine n_iadd hx hb d_Mod_set_110 ?_
              refine va_put (D := (dC, dI)) (ci := 7) (v := .int (nI (bs + (2 + vs)))) (ty := .int) (C := R_Mod) (T := F_Mod) (N := 23) hx hb hts in_Mod ty_Mod tok_Mod nm_Mod hown hK hP hD hS 0 rfl rfl 5 (by decide) (hts _ u_671) (fun _ h9 => h9) rfl (by decide +kernel) rfl rfl (Nat.le_of_ble_eq_true rfl) d_Mod_set_111 (fun H locs hP hD hS => ?_)
              have hP : va_P (dC, dI) CL_ [(m0, .inr (7, [.int (nI 0), .ref a1, .ref a2, .int (nI vs), .ref a3, .int (nI (bs + (2 + vs))), .int (nI ch), .int (nI mh), .int (nI me), .int (nI mb), .int (nI mn), .ref a4, .ref a5, .int (nI mw), .int (nI mr), .ref a6, .int (nI es), .int (nI pn), .ref a7, .ref a8, .int (oI ah), .ref a9, .int (nI fs)])), (a2, .inl (cI, 40, .inl (nA vv))), (a3, .inl (cI, 400, .inl (nA (fillN (updN (updN bb bs k) (bs + 1) vs) (bs + 2) (fun i => vv i) vs))))] H := hP
              have hD : va_D A [(m0, .inr (7, [.int (nI 0), .ref a1, .ref a2, .int (nI vs), .ref a3, .int (nI (bs + (2 + vs))), .int (nI ch), .int (nI mh), .int (nI me), .int (nI mb), .int (nI mn), .ref a4, .ref a5, .int (nI mw), .int (nI mr), .ref a6, .int (nI es), .int (nI pn), .ref a7, .ref a8, .int (oI ah), .ref a9, .int (nI fs)])), (a2, .inl (cI, 40, .inl (nA vv))), (a3, .inl (cI, 400, .inl (nA (fillN (updN (updN bb bs k) (bs + 1) vs) (bs + 2) (fun i => vv i) vs))))] := hD
              refine lv_aload_n hx hb d_Mod_set_114 rfl (lv_at hl 0 rfl) ?_
              refine lv_iconst (v := nI 0) hx hb d_Mod_set_115 (by decide) ?_
              refine va_put (D := (dC, dI)) (ci := 7) (v := .int (nI 0)) (ty := .int) (C := R_Mod) (T := F_Mod) (N := 23) hx hb hts in_Mod ty_Mod tok_Mod nm_Mod hown hK hP hD hS 0 rfl rfl 3 (by decide) (hts _ u_669) (fun _ h9 => h9) rfl (by decide +kernel) rfl rfl (Nat.le_of_ble_eq_true rfl) d_Mod_set_116 (fun H locs hP hD hS => ?_)
              have hP : va_P (dC, dI) CL_ [(m0, .inr (7, [.int (nI 0), .ref a1, .ref a2, .int (nI 0), .ref a3, .int (nI (bs + (2 + vs))), .int (nI ch), .int (nI mh), .int (nI me), .int (nI mb), .int (nI mn), .ref a4, .ref a5, .int (nI mw), .int (nI mr), .ref a6, .int (nI es), .int (nI pn), .ref a7, .ref a8, .int (oI ah), .ref a9, .int (nI fs)])), (a2, .inl (cI, 40, .inl (nA vv))), (a3, .inl (cI, 400, .inl (nA (fillN (updN (updN bb bs k) (bs + 1) vs) (bs + 2) (fun i => vv i) vs))))] H := hP
              have hD : va_D A [(m0, .inr (7, [.int (nI 0), .ref a1, .ref a2, .int (nI 0), .ref a3, .int (nI (bs + (2 + vs))), .int (nI ch), .int (nI mh), .int (nI me), .int (nI mb), .int (nI mn), .ref a4, .ref a5, .int (nI mw), .int (nI mr), .ref a6, .int (nI es), .int (nI pn), .ref a7, .ref a8, .int (oI ah), .ref a9, .int (nI fs)])), (a2, .inl (cI, 40, .inl (nA vv))), (a3, .inl (cI, 400, .inl (nA (fillN (updN (updN bb bs k) (bs + 1) vs) (bs + 2) (fun i => vv i) vs))))] := hD
              refine lv_aload_n hx hb d_Mod_set_119 rfl (lv_at hl 0 rfl) ?_
              refine lv_dup hx hb d_Mod_set_120 rfl ?_
              refine va_get (D := (dC, dI)) (ci := 7) (v := .int (nI ch)) (C := R_Mod) (T := F_Mod) (N := 23) hx hb hts in_Mod hown hK hP 0 rfl rfl 6 (by decide) (hts _ u_672) (fun _ h9 => h9) rfl d_Mod_set_121 ?_
              refine lv_iconst (v := nI 1) hx hb d_Mod_set_124 (by decide) ?_
              refine n_iadd hx hb d_Mod_set_125 ?_
              refine va_put (D := (dC, dI)) (ci := 7) (v := .int (nI (ch + 1))) (ty := .int) (C := R_Mod) (T := F_Mod) (N := 23) hx hb hts in_Mod ty_Mod tok_Mod nm_Mod hown hK hP hD hS 0 rfl rfl 6 (by decide) (hts _ u_672) (fun _ h9 => h9) rfl (by decide +kernel) rfl rfl (Nat.le_of_ble_eq_true rfl) d_Mod_set_126 (fun H locs hP hD hS => ?_)
              have hP : va_P (dC, dI) CL_ [(m0, .inr (7, [.int (nI 0), .ref a1, .ref a2, .int (nI 0), .ref a3, .int (nI (bs + (2 + vs))), .int (nI (ch + 1)), .int (nI mh), .int (nI me), .int (nI mb), .int (nI mn), .ref a4, .ref a5, .int (nI mw), .int (nI mr), .ref a6, .int (nI es), .int (nI pn), .ref a7, .ref a8, .int (oI ah), .ref a9, .int (nI fs)])), (a2, .inl (cI, 40, .inl (nA vv))), (a3, .inl (cI, 400, .inl (nA (fillN (updN (updN bb bs k) (bs + 1) vs) (bs + 2) (fun i => vv i) vs))))] H := hP
              have hD : va_D A [(m0, .inr (7, [.int (nI 0), .ref a1, .ref a2, .int (nI 0), .ref a3, .int (nI (bs + (2 + vs))), .int (nI (ch + 1)), .int (nI mh), .int (nI me), .int (nI mb), .int (nI mn), .ref a4, .ref a5, .int (nI mw), .int (nI mr), .ref a6, .int (nI es), .int (nI pn), .ref a7, .ref a8, .int (oI ah), .ref a9, .int (nI fs)])), (a2, .inl (cI, 40, .inl (nA vv))), (a3, .inl (cI, 400, .inl (nA (fillN (updN (updN bb bs k) (bs + 1) vs) (bs + 2) (fun i => vv i) vs))))] := hD
              refine lv_aload_n hx hb d_Mod_set_129 rfl (lv_at hl 0 rfl) ?_
              refine va_get (D := (dC, dI)) (ci := 7) (v := .ref a3) (C := R_Mod) (T := F_Mod) (N := 23) hx hb hts in_Mod hown hK hP 0 rfl rfl 4 (by decide) (hts _ u_670) (fun _ h9 => h9) rfl d_Mod_set_130 ?_
              refine lv_iconst (v := nI 0) hx hb d_Mod_set_133 (by decide) ?_
              refine lv_aload_n hx hb d_Mod_set_134 rfl (lv_at hl 0 rfl) ?_
              refine va_get (D := (dC, dI)) (ci := 7) (v := .int (nI (ch + 1))) (C := R_Mod) (T := F_Mod) (N := 23) hx hb hts in_Mod hown hK hP 0 rfl rfl 6 (by decide) (hts _ u_672) (fun _ h9 => h9) rfl d_Mod_set_135 ?_
              refine n_iast (f' := nA (updN (fillN (updN (updN bb bs k) (bs + 1) vs) (bs + 2) (fun i => vv i) vs) 0 (ch + 1))) hx hb hK hP hD hS 2 0 rfl rfl (nA_upd _ _ _) (by omega) (by omega) d_Mod_set_138 (fun H locs hP hD hS => ?_)
              have hP : va_P (dC, dI) CL_ [(m0, .inr (7, [.int (nI 0), .ref a1, .ref a2, .int (nI 0), .ref a3, .int (nI (bs + (2 + vs))), .int (nI (ch + 1)), .int (nI mh), .int (nI me), .int (nI mb), .int (nI mn), .ref a4, .ref a5, .int (nI mw), .int (nI mr), .ref a6, .int (nI es), .int (nI pn), .ref a7, .ref a8, .int (oI ah), .ref a9, .int (nI fs)])), (a2, .inl (cI, 40, .inl (nA vv))), (a3, .inl (cI, 400, .inl (nA (updN (fillN (updN (updN bb bs k) (bs + 1) vs) (bs + 2) (fun i => vv i) vs) 0 (ch + 1)))))] H := hP
              have hD : va_D A [(m0, .inr (7, [.int (nI 0), .ref a1, .ref a2, .int (nI 0), .ref a3, .int (nI (bs + (2 + vs))), .int (nI (ch + 1)), .int (nI mh), .int (nI me), .int (nI mb), .int (nI mn), .ref a4, .ref a5, .int (nI mw), .int (nI mr), .ref a6, .int (nI es), .int (nI pn), .ref a7, .ref a8, .int (oI ah), .ref a9, .int (nI fs)])), (a2, .inl (cI, 40, .inl (nA vv))), (a3, .inl (cI, 400, .inl (nA (updN (fillN (updN (updN bb bs k) (bs + 1) vs) (bs + 2) (fun i => vv i) vs) 0 (ch + 1)))))] := hD
              refine lv_aload_n hx hb d_Mod_set_139 rfl (lv_at hl 0 rfl) ?_
              refine va_get (D := (dC, dI)) (ci := 7) (v := .int (nI (ch + 1))) (C := R_Mod) (T := F_Mod) (N := 23) hx hb hts in_Mod hown hK hP 0 rfl rfl 6 (by decide) (hts _ u_672) (fun _ h9 => h9) rfl d_Mod_set_140 ?_
              exact hret (nI (ch + 1)) _ _ 143 ls d_Mod_set_143 (hP.sub [0, 1, 2] rfl) (hD.sub [0, 1, 2] (by decide) rfl) hS rfl
            · skip
              refine lv_aload_n hx hb d_Mod_set_74 rfl (lv_at hl 0 rfl) ?_
              refine va_get (D := (dC, dI)) (ci := 7) (v := .ref a3) (C := R_Mod) (T := F_Mod) (N := 23) hx hb hts in_Mod hown hK hP 0 rfl rfl 4 (by decide) (hts _ u_670) (fun _ h9 => h9) rfl d_Mod_set_75 ?_
              refine lv_aload_n hx hb d_Mod_set_78 rfl (lv_at hl 0 rfl) ?_
              refine va_get (D := (dC, dI)) (ci := 7) (v := .int (nI bs)) (C := R_Mod) (T := F_Mod) (N := 23) hx hb hts in_Mod hown hK hP 0 rfl rfl 5 (by decide) (hts _ u_671) (fun _ h9 => h9) rfl d_Mod_set_79 ?_
              refine lv_iconst (v := nI 2) hx hb d_Mod_set_82 (by decide) ?_
              refine n_iadd hx hb d_Mod_set_83 ?_
              refine lv_iload_n hx hb d_Mod_set_84 rfl (lv_at hl 2 rfl) ?_
              refine n_iadd hx hb d_Mod_set_85 ?_
              refine lv_aload_n hx hb d_Mod_set_86 rfl (lv_at hl 0 rfl) ?_
              refine va_get (D := (dC, dI)) (ci := 7) (v := .ref a2) (C := R_Mod) (T := F_Mod) (N := 23) hx hb hts in_Mod hown hK hP 0 rfl rfl 2 (by decide) (hts _ u_668) (fun _ h9 => h9) rfl d_Mod_set_87 ?_
              refine lv_iload_n hx hb d_Mod_set_90 rfl (lv_at hl 2 rfl) ?_
              refine n_iald (v := nI (vv i)) hx hb hK hP 1 0 rfl rfl rfl (by omega) (by omega) d_Mod_set_91 ?_
              refine n_iast (f' := nA (updN (fillN (updN (updN bb bs k) (bs + 1) vs) (bs + 2) (fun i => vv i) i) ((bs + 2) + i) (vv i))) hx hb hK hP hD hS 2 0 rfl rfl (nA_upd _ _ _) (by omega) (by omega) d_Mod_set_92 (fun H locs hP hD hS => ?_)
              have hP : va_P (dC, dI) CL_ [(m0, .inr (7, [.int (nI 0), .ref a1, .ref a2, .int (nI vs), .ref a3, .int (nI bs), .int (nI ch), .int (nI mh), .int (nI me), .int (nI mb), .int (nI mn), .ref a4, .ref a5, .int (nI mw), .int (nI mr), .ref a6, .int (nI es), .int (nI pn), .ref a7, .ref a8, .int (oI ah), .ref a9, .int (nI fs)])), (a2, .inl (cI, 40, .inl (nA vv))), (a3, .inl (cI, 400, .inl (nA (updN (fillN (updN (updN bb bs k) (bs + 1) vs) (bs + 2) (fun i => vv i) i) ((bs + 2) + i) (vv i)))))] H := hP
              have hD : va_D A [(m0, .inr (7, [.int (nI 0), .ref a1, .ref a2, .int (nI vs), .ref a3, .int (nI bs), .int (nI ch), .int (nI mh), .int (nI me), .int (nI mb), .int (nI mn), .ref a4, .ref a5, .int (nI mw), .int (nI mr), .ref a6, .int (nI es), .int (nI pn), .ref a7, .ref a8, .int (oI ah), .ref a9, .int (nI fs)])), (a2, .inl (cI, 40, .inl (nA vv))), (a3, .inl (cI, 400, .inl (nA (updN (fillN (updN (updN bb bs k) (bs + 1) vs) (bs + 2) (fun i => vv i) i) ((bs + 2) + i) (vv i)))))] := hD
              refine lv_iinc (v := nI (i + 1)) (lv' := [(2, .int (nI (i + 1))), (0, .ref m0), (1, .int (nI k))]) hx hb d_Mod_set_93 hl (k := 2) rfl (inc1 i) (by decide) rfl (fun ls hl => ?_)
              refine lv_goto (tgt := 66) hx hb d_Mod_set_96 (by decide) ?_
              have e9 : updN (fillN (updN (updN bb bs k) (bs + 1) vs) (bs + 2) (fun i => vv i) i) (bs + 2 + i) (vv i) = fillN (updN (updN bb bs k) (bs + 1) vs) (bs + 2) (fun i => vv i) (i + 1) := fillN_s _ _ _ _
              rw [e9] at hP hD
              exact ih (i + 1) (by omega) (by omega) _ _ _ (hP.sub [0, 1, 2] rfl) (hD.sub [0, 1, 2] (by decide) rfl) hS (lv_sub hl [1, 2, 0] rfl)
        rw [← fillN_0 (updN (updN bb bs k) (bs + 1) vs) (bs + 2) (fun i => vv i)] at hP hD
        exact loop_66 (vs + 1) 0 (by omega) (by omega) _ _ _ (hP.sub [2, 0, 1] rfl) (hD.sub [2, 0, 1] (by decide) rfl) hS (lv_sub hl [1, 2, 0] rfl)
      · exact absurd c_34 (by decide)
    · exact absurd c_23 (by omega)
  · exact absurd c_9 (by omega)
abbrev rmm_drop : Room := { frames := 1, cells := 0, slots := 0, locals := 22 }
set_option maxHeartbeats 4000000 in
set_option maxRecDepth 100000 in
theorem m_drop (l : Launch) (dC : Nat → ClassId) (dI : Nat → Nat → Nat) (cI : ClassId) (sz : Nat) (m0 : Nat) (a1 : Nat) (a2 : Nat) (a3 : Nat) (a4 : Nat) (a5 : Nat) (a6 : Nat) (a7 : Nat) (a8 : Nat) (a9 : Nat) (th : Nat) (vs : Nat) (bs : Nat) (ch : Nat) (mh : Nat) (me : Nat) (mb : Nat) (mn : Nat) (mw : Nat) (mr : Nat) (es : Nat) (pn : Nat) (ah : Option Nat) (fs : Nat) (bb : Nat → Nat) (k : Nat) (hk : k < 200) (hc8 : ch < 8) (hbs : bs ≤ 1 + 42 * ch) : KI l y_Mod_drop w_Mod_drop rmm_drop (dC, dI) CL_ [(cI, .int)] sz [.ref m0, .int (nI k)] [(m0, .inr (7, [.int (nI th), .ref a1, .ref a2, .int (nI vs), .ref a3, .int (nI bs), .int (nI ch), .int (nI mh), .int (nI me), .int (nI mb), .int (nI mn), .ref a4, .ref a5, .int (nI mw), .int (nI mr), .ref a6, .int (nI es), .int (nI pn), .ref a7, .ref a8, .int (oI ah), .ref a9, .int (nI fs)])), (a3, .inl (cI, 400, .inl (nA bb)))] [(m0, .inr (7, [.int (nI 0), .ref a1, .ref a2, .int (nI vs), .ref a3, .int (nI (bs + 2)), .int (nI (ch + 1)), .int (nI mh), .int (nI me), .int (nI mb), .int (nI mn), .ref a4, .ref a5, .int (nI mw), .int (nI mr), .ref a6, .int (nI es), .int (nI pn), .ref a7, .ref a8, .int (oI ah), .ref a9, .int (nI fs)])), (a3, .inl (cI, 400, .inl (nA (updN (updN (updN bb bs k) (bs + 1) 255) 0 (ch + 1)))))] (nI (ch + 1)) := by
  refine k_start_i (cc := b_Mod_drop) (maxL := 2) (by decide) (Nat.le_of_ble_eq_true rfl) ?_
  intro p e s m args below meth c A QQ ls SS hK hP hD hA hl hN hret
  obtain ⟨hx, hb, hml, hown, hts⟩ := id SS
  have hl : lv_has ls 2 [(0, .ref m0), (1, .int (nI k))] := hl
  have hS : va_S A s.heap s.heap [] := va_S.rf
  refine lv_aload_n hx hb d_Mod_drop_0 rfl (lv_at hl 0 rfl) ?_
  refine lv_iload_n hx hb d_Mod_drop_1 rfl (lv_at hl 1 rfl) ?_
  refine n_if_lt (tgt := 12) hx hb d_Mod_drop_2 (by decide) (by omega) ?_
  refine lv_iload_n hx hb d_Mod_drop_5 rfl (lv_at hl 1 rfl) ?_
  refine lv_sipush (v := nI 199) hx hb d_Mod_drop_6 (by decide) ?_
  refine n_icmp_le (tgt := 16) hx hb d_Mod_drop_9 (by decide) (by omega) (by omega) (fun c_9 => ?_) (fun c_9 => ?_)
  · skip
    refine lv_iconst (v := bI false) hx hb d_Mod_drop_16 (by decide) ?_
    refine lv_aload_n hx hb d_Mod_drop_17 rfl (lv_at hl 0 rfl) ?_
    refine va_get (D := (dC, dI)) (ci := 7) (v := .int (nI ch)) (C := R_Mod) (T := F_Mod) (N := 23) hx hb hts in_Mod hown hK hP 0 rfl rfl 6 (by decide) (hts _ u_672) (fun _ h9 => h9) rfl d_Mod_drop_18 ?_
    refine lv_bipush (v := nI 8) hx hb d_Mod_drop_21 (by decide) ?_
    refine n_icmp_ne (tgt := 30) hx hb d_Mod_drop_23 (by decide) (by omega) (by omega) (fun c_23 => ?_) (fun c_23 => ?_)
    · skip
      refine lv_iconst (v := bI false) hx hb d_Mod_drop_30 (by decide) ?_
      refine kj_i (wr := [(a3, .inl (cI, 400, .inl (nA bb)))]) (va_runV (As := [.int (bI false), .int (bI false)]) (rest := []) SS (m_refuse0 l dC dI cI s.heap.size m0 a1 a2 a3 a4 a5 a6 a7 a8 a9 th vs bs ch mh me mb mn mw mr es pn ah fs ) (k_cwV 2 hts u_744 u_746 u_25 u_43 u_747 rfl rfl (by decide +kernel) ⟨Nat.le_of_ble_eq_true rfl, Nat.le_of_ble_eq_true rfl⟩) (kp_V hN hK [0] rfl hP hD [0] rfl (by decide) (ci := 7) rfl 0 rfl) rfl rfl hl.1 rfl (lv_room (Nat.le_of_ble_eq_true rfl)) d_Mod_drop_31 ⟨Nat.le_of_ble_eq_true rfl, Nat.le_of_ble_eq_true rfl⟩) hP hD hS hA [0] [1] rfl rfl (by decide) (by decide) (fun H locs hP hD hS => ?_)
      have hP : va_P (dC, dI) CL_ [(a3, .inl (cI, 400, .inl (nA bb))), (m0, .inr (7, [.int (nI 0), .ref a1, .ref a2, .int (nI vs), .ref a3, .int (nI bs), .int (nI ch), .int (nI mh), .int (nI me), .int (nI mb), .int (nI mn), .ref a4, .ref a5, .int (nI mw), .int (nI mr), .ref a6, .int (nI es), .int (nI pn), .ref a7, .ref a8, .int (oI ah), .ref a9, .int (nI fs)]))] H := hP
      have hD : va_D A [(a3, .inl (cI, 400, .inl (nA bb))), (m0, .inr (7, [.int (nI 0), .ref a1, .ref a2, .int (nI vs), .ref a3, .int (nI bs), .int (nI ch), .int (nI mh), .int (nI me), .int (nI mb), .int (nI mn), .ref a4, .ref a5, .int (nI mw), .int (nI mr), .ref a6, .int (nI es), .int (nI pn), .ref a7, .ref a8, .int (oI ah), .ref a9, .int (nI fs)]))] := hD
      refine n_if_eqB (tgt := 39) hx hb d_Mod_drop_34 (by decide) (fun c_34 => ?_) (fun c_34 => ?_)
      · skip
        refine lv_aload_n hx hb d_Mod_drop_39 rfl (lv_at hl 0 rfl) ?_
        refine va_get (D := (dC, dI)) (ci := 7) (v := .ref a3) (C := R_Mod) (T := F_Mod) (N := 23) hx hb hts in_Mod hown hK hP 1 rfl rfl 4 (by decide) (hts _ u_670) (fun _ h9 => h9) rfl d_Mod_drop_40 ?_
        refine lv_aload_n hx hb d_Mod_drop_43 rfl (lv_at hl 0 rfl) ?_
        refine va_get (D := (dC, dI)) (ci := 7) (v := .int (nI bs)) (C := R_Mod) (T := F_Mod) (N := 23) hx hb hts in_Mod hown hK hP 1 rfl rfl 5 (by decide) (hts _ u_671) (fun _ h9 => h9) rfl d_Mod_drop_44 ?_
        refine lv_iload_n hx hb d_Mod_drop_47 rfl (lv_at hl 1 rfl) ?_
        refine n_iast (f' := nA (updN bb bs k)) hx hb hK hP hD hS 0 0 rfl rfl (nA_upd _ _ _) (by omega) (by omega) d_Mod_drop_48 (fun H locs hP hD hS => ?_)
        have hP : va_P (dC, dI) CL_ [(a3, .inl (cI, 400, .inl (nA (updN bb bs k)))), (m0, .inr (7, [.int (nI 0), .ref a1, .ref a2, .int (nI vs), .ref a3, .int (nI bs), .int (nI ch), .int (nI mh), .int (nI me), .int (nI mb), .int (nI mn), .ref a4, .ref a5, .int (nI mw), .int (nI mr), .ref a6, .int (nI es), .int (nI pn), .ref a7, .ref a8, .int (oI ah), .ref a9, .int (nI fs)]))] H := hP
        have hD : va_D A [(a3, .inl (cI, 400, .inl (nA (updN bb bs k)))), (m0, .inr (7, [.int (nI 0), .ref a1, .ref a2, .int (nI vs), .ref a3, .int (nI bs), .int (nI ch), .int (nI mh), .int (nI me), .int (nI mb), .int (nI mn), .ref a4, .ref a5, .int (nI mw), .int (nI mr), .ref a6, .int (nI es), .int (nI pn), .ref a7, .ref a8, .int (oI ah), .ref a9, .int (nI fs)]))] := hD
        refine lv_aload_n hx hb d_Mod_drop_49 rfl (lv_at hl 0 rfl) ?_
        refine va_get (D := (dC, dI)) (ci := 7) (v := .ref a3) (C := R_Mod) (T := F_Mod) (N := 23) hx hb hts in_Mod hown hK hP 1 rfl rfl 4 (by decide) (hts _ u_670) (fun _ h9 => h9) rfl d_Mod_drop_50 ?_
        refine lv_aload_n hx hb d_Mod_drop_53 rfl (lv_at hl 0 rfl) ?_
        refine va_get (D := (dC, dI)) (ci := 7) (v := .int (nI bs)) (C := R_Mod) (T := F_Mod) (N := 23) hx hb hts in_Mod hown hK hP 1 rfl rfl 5 (by decide) (hts _ u_671) (fun _ h9 => h9) rfl d_Mod_drop_54 ?_
        refine lv_iconst (v := nI 1) hx hb d_Mod_drop_57 (by decide) ?_
        refine n_iadd hx hb d_Mod_drop_58 ?_
        refine lv_sipush (v := nI 255) hx hb d_Mod_drop_59 (by decide) ?_
        refine n_iast (f' := nA (updN (updN bb bs k) (bs + 1) 255)) hx hb hK hP hD hS 0 0 rfl rfl (nA_upd _ _ _) (by omega) (by omega) d_Mod_drop_62 (fun H locs hP hD hS => ?_)
        have hP : va_P (dC, dI) CL_ [(a3, .inl (cI, 400, .inl (nA (updN (updN bb bs k) (bs + 1) 255)))), (m0, .inr (7, [.int (nI 0), .ref a1, .ref a2, .int (nI vs), .ref a3, .int (nI bs), .int (nI ch), .int (nI mh), .int (nI me), .int (nI mb), .int (nI mn), .ref a4, .ref a5, .int (nI mw), .int (nI mr), .ref a6, .int (nI es), .int (nI pn), .ref a7, .ref a8, .int (oI ah), .ref a9, .int (nI fs)]))] H := hP
        have hD : va_D A [(a3, .inl (cI, 400, .inl (nA (updN (updN bb bs k) (bs + 1) 255)))), (m0, .inr (7, [.int (nI 0), .ref a1, .ref a2, .int (nI vs), .ref a3, .int (nI bs), .int (nI ch), .int (nI mh), .int (nI me), .int (nI mb), .int (nI mn), .ref a4, .ref a5, .int (nI mw), .int (nI mr), .ref a6, .int (nI es), .int (nI pn), .ref a7, .ref a8, .int (oI ah), .ref a9, .int (nI fs)]))] := hD
        refine lv_aload_n hx hb d_Mod_drop_63 rfl (lv_at hl 0 rfl) ?_
        refine lv_dup hx hb d_Mod_drop_64 rfl ?_
        refine va_get (D := (dC, dI)) (ci := 7) (v := .int (nI bs)) (C := R_Mod) (T := F_Mod) (N := 23) hx hb hts in_Mod hown hK hP 1 rfl rfl 5 (by decide) (hts _ u_671) (fun _ h9 => h9) rfl d_Mod_drop_65 ?_
        refine lv_iconst (v := nI 2) hx hb d_Mod_drop_68 (by decide) ?_
        refine n_iadd hx hb d_Mod_drop_69 ?_
        refine va_put (D := (dC, dI)) (ci := 7) (v := .int (nI (bs + 2))) (ty := .int) (C := R_Mod) (T := F_Mod) (N := 23) hx hb hts in_Mod ty_Mod tok_Mod nm_Mod hown hK hP hD hS 1 rfl rfl 5 (by decide) (hts _ u_671) (fun _ h9 => h9) rfl (by decide +kernel) rfl rfl (Nat.le_of_ble_eq_true rfl) d_Mod_drop_70 (fun H locs hP hD hS => ?_)
        have hP : va_P (dC, dI) CL_ [(a3, .inl (cI, 400, .inl (nA (updN (updN bb bs k) (bs + 1) 255)))), (m0, .inr (7, [.int (nI 0), .ref a1, .ref a2, .int (nI vs), .ref a3, .int (nI (bs + 2)), .int (nI ch), .int (nI mh), .int (nI me), .int (nI mb), .int (nI mn), .ref a4, .ref a5, .int (nI mw), .int (nI mr), .ref a6, .int (nI es), .int (nI pn), .ref a7, .ref a8, .int (oI ah), .ref a9, .int (nI fs)]))] H := hP
        have hD : va_D A [(a3, .inl (cI, 400, .inl (nA (updN (updN bb bs k) (bs + 1) 255)))), (m0, .inr (7, [.int (nI 0), .ref a1, .ref a2, .int (nI vs), .ref a3, .int (nI (bs + 2)), .int (nI ch), .int (nI mh), .int (nI me), .int (nI mb), .int (nI mn), .ref a4, .ref a5, .int (nI mw), .int (nI mr), .ref a6, .int (nI es), .int (nI pn), .ref a7, .ref a8, .int (oI ah), .ref a9, .int (nI fs)]))] := hD
        refine lv_aload_n hx hb d_Mod_drop_73 rfl (lv_at hl 0 rfl) ?_
        refine lv_dup hx hb d_Mod_drop_74 rfl ?_
        refine va_get (D := (dC, dI)) (ci := 7) (v := .int (nI ch)) (C := R_Mod) (T := F_Mod) (N := 23) hx hb hts in_Mod hown hK hP 1 rfl rfl 6 (by decide) (hts _ u_672) (fun _ h9 => h9) rfl d_Mod_drop_75 ?_
        refine lv_iconst (v := nI 1) hx hb d_Mod_drop_78 (by decide) ?_
        refine n_iadd hx hb d_Mod_drop_79 ?_
        refine va_put (D := (dC, dI)) (ci := 7) (v := .int (nI (ch + 1))) (ty := .int) (C := R_Mod) (T := F_Mod) (N := 23) hx hb hts in_Mod ty_Mod tok_Mod nm_Mod hown hK hP hD hS 1 rfl rfl 6 (by decide) (hts _ u_672) (fun _ h9 => h9) rfl (by decide +kernel) rfl rfl (Nat.le_of_ble_eq_true rfl) d_Mod_drop_80 (fun H locs hP hD hS => ?_)
        have hP : va_P (dC, dI) CL_ [(a3, .inl (cI, 400, .inl (nA (updN (updN bb bs k) (bs + 1) 255)))), (m0, .inr (7, [.int (nI 0), .ref a1, .ref a2, .int (nI vs), .ref a3, .int (nI (bs + 2)), .int (nI (ch + 1)), .int (nI mh), .int (nI me), .int (nI mb), .int (nI mn), .ref a4, .ref a5, .int (nI mw), .int (nI mr), .ref a6, .int (nI es), .int (nI pn), .ref a7, .ref a8, .int (oI ah), .ref a9, .int (nI fs)]))] H := hP
        have hD : va_D A [(a3, .inl (cI, 400, .inl (nA (updN (updN bb bs k) (bs + 1) 255)))), (m0, .inr (7, [.int (nI 0), .ref a1, .ref a2, .int (nI vs), .ref a3, .int (nI (bs + 2)), .int (nI (ch + 1)), .int (nI mh), .int (nI me), .int (nI mb), .int (nI mn), .ref a4, .ref a5, .int (nI mw), .int (nI mr), .ref a6, .int (nI es), .int (nI pn), .ref a7, .ref a8, .int (oI ah), .ref a9, .int (nI fs)]))] := hD
        refine lv_aload_n hx hb d_Mod_drop_83 rfl (lv_at hl 0 rfl) ?_
        refine va_get (D := (dC, dI)) (ci := 7) (v := .ref a3) (C := R_Mod) (T := F_Mod) (N := 23) hx hb hts in_Mod hown hK hP 1 rfl rfl 4 (by decide) (hts _ u_670) (fun _ h9 => h9) rfl d_Mod_drop_84 ?_
        refine lv_iconst (v := nI 0) hx hb d_Mod_drop_87 (by decide) ?_
        refine lv_aload_n hx hb d_Mod_drop_88 rfl (lv_at hl 0 rfl) ?_
        refine va_get (D := (dC, dI)) (ci := 7) (v := .int (nI (ch + 1))) (C := R_Mod) (T := F_Mod) (N := 23) hx hb hts in_Mod hown hK hP 1 rfl rfl 6 (by decide) (hts _ u_672) (fun _ h9 => h9) rfl d_Mod_drop_89 ?_
        refine n_iast (f' := nA (updN (updN (updN bb bs k) (bs + 1) 255) 0 (ch + 1))) hx hb hK hP hD hS 0 0 rfl rfl (nA_upd _ _ _) (by omega) (by omega) d_Mod_drop_92 (fun H locs hP hD hS => ?_)
        have hP : va_P (dC, dI) CL_ [(a3, .inl (cI, 400, .inl (nA (updN (updN (updN bb bs k) (bs + 1) 255) 0 (ch + 1))))), (m0, .inr (7, [.int (nI 0), .ref a1, .ref a2, .int (nI vs), .ref a3, .int (nI (bs + 2)), .int (nI (ch + 1)), .int (nI mh), .int (nI me), .int (nI mb), .int (nI mn), .ref a4, .ref a5, .int (nI mw), .int (nI mr), .ref a6, .int (nI es), .int (nI pn), .ref a7, .ref a8, .int (oI ah), .ref a9, .int (nI fs)]))] H := hP
        have hD : va_D A [(a3, .inl (cI, 400, .inl (nA (updN (updN (updN bb bs k) (bs + 1) 255) 0 (ch + 1))))), (m0, .inr (7, [.int (nI 0), .ref a1, .ref a2, .int (nI vs), .ref a3, .int (nI (bs + 2)), .int (nI (ch + 1)), .int (nI mh), .int (nI me), .int (nI mb), .int (nI mn), .ref a4, .ref a5, .int (nI mw), .int (nI mr), .ref a6, .int (nI es), .int (nI pn), .ref a7, .ref a8, .int (oI ah), .ref a9, .int (nI fs)]))] := hD
        refine lv_aload_n hx hb d_Mod_drop_93 rfl (lv_at hl 0 rfl) ?_
        refine va_get (D := (dC, dI)) (ci := 7) (v := .int (nI (ch + 1))) (C := R_Mod) (T := F_Mod) (N := 23) hx hb hts in_Mod hown hK hP 1 rfl rfl 6 (by decide) (hts _ u_672) (fun _ h9 => h9) rfl d_Mod_drop_94 ?_
        exact hret (nI (ch + 1)) _ _ 97 ls d_Mod_drop_97 (hP.sub [1, 0] rfl) (hD.sub [1, 0] (by decide) rfl) hS rfl
      · exact absurd c_34 (by decide)
    · exact absurd c_23 (by omega)
  · exact absurd c_9 (by omega)
abbrev rmm_set1 : Room := { frames := 1, cells := 0, slots := 0, locals := 22 }
set_option maxHeartbeats 4000000 in
set_option maxRecDepth 100000 in
theorem m_set1 (l : Launch) (dC : Nat → ClassId) (dI : Nat → Nat → Nat) (cI : ClassId) (sz : Nat) (m0 : Nat) (a1 : Nat) (a2 : Nat) (a3 : Nat) (a4 : Nat) (a5 : Nat) (a6 : Nat) (a7 : Nat) (a8 : Nat) (a9 : Nat) (th : Nat) (vs : Nat) (bs : Nat) (ch : Nat) (mh : Nat) (me : Nat) (mb : Nat) (mn : Nat) (mw : Nat) (mr : Nat) (es : Nat) (pn : Nat) (ah : Option Nat) (fs : Nat) (x : Int32) (hx1 : x < 0 ∨ nI 199 < x) (hc8 : ch ≤ 8) : KI l y_Mod_set w_Mod_set rmm_set1 (dC, dI) CL_ [(cI, .int)] sz [.ref m0, .int x] [(m0, .inr (7, [.int (nI th), .ref a1, .ref a2, .int (nI vs), .ref a3, .int (nI bs), .int (nI ch), .int (nI mh), .int (nI me), .int (nI mb), .int (nI mn), .ref a4, .ref a5, .int (nI mw), .int (nI mr), .ref a6, .int (nI es), .int (nI pn), .ref a7, .ref a8, .int (oI ah), .ref a9, .int (nI fs)]))] [(m0, .inr (7, [.int (nI 1), .ref a1, .ref a2, .int (nI vs), .ref a3, .int (nI bs), .int (nI ch), .int (nI mh), .int (nI me), .int (nI mb), .int (nI mn), .ref a4, .ref a5, .int (nI mw), .int (nI mr), .ref a6, .int (nI es), .int (nI pn), .ref a7, .ref a8, .int (oI ah), .ref a9, .int (nI fs)]))] (nI 0) := by
  refine k_start_i (cc := b_Mod_set) (maxL := 3) (by decide) (Nat.le_of_ble_eq_true rfl) ?_
  intro p e s m args below meth c A QQ ls SS hK hP hD hA hl hN hret
  obtain ⟨hx, hb, hml, hown, hts⟩ := id SS
  have hl : lv_has ls 3 [(0, .ref m0), (1, .int x)] := hl
  have hS : va_S A s.heap s.heap [] := va_S.rf
  refine lv_aload_n hx hb d_Mod_set_0 rfl (lv_at hl 0 rfl) ?_
  refine lv_iload_n hx hb d_Mod_set_1 rfl (lv_at hl 1 rfl) ?_
  refine lv_if_lt (tgt := 12) hx hb d_Mod_set_2 (by decide) (fun c_2 => ?_) (fun c_2 => ?_)
  · skip
    refine lv_iconst (v := bI true) hx hb d_Mod_set_12 (by decide) ?_
    refine lv_goto (tgt := 17) hx hb d_Mod_set_13 (by decide) ?_
    refine lv_aload_n hx hb d_Mod_set_17 rfl (lv_at hl 0 rfl) ?_
    refine va_get (D := (dC, dI)) (ci := 7) (v := .int (nI ch)) (C := R_Mod) (T := F_Mod) (N := 23) hx hb hts in_Mod hown hK hP 0 rfl rfl 6 (by decide) (hts _ u_672) (fun _ h9 => h9) rfl d_Mod_set_18 ?_
    refine lv_bipush (v := nI 8) hx hb d_Mod_set_21 (by decide) ?_
    refine n_icmp_ne (tgt := 30) hx hb d_Mod_set_23 (by decide) (by omega) (by omega) (fun c_23 => ?_) (fun c_23 => ?_)
    · skip
      refine lv_iconst (v := bI false) hx hb d_Mod_set_30 (by decide) ?_
      refine kj_i (wr := []) (va_runV (As := [.int (bI true), .int (bI false)]) (rest := []) SS (m_refuse1 l dC dI cI s.heap.size m0 a1 a2 a3 a4 a5 a6 a7 a8 a9 th vs bs ch mh me mb mn mw mr es pn ah fs false ) (k_cwV 2 hts u_744 u_746 u_25 u_43 u_747 rfl rfl (by decide +kernel) ⟨Nat.le_of_ble_eq_true rfl, Nat.le_of_ble_eq_true rfl⟩) (kp_V hN hK [0] rfl hP hD [0] rfl (by decide) (ci := 7) rfl 0 rfl) rfl rfl hl.1 rfl (lv_room (Nat.le_of_ble_eq_true rfl)) d_Mod_set_31 ⟨Nat.le_of_ble_eq_true rfl, Nat.le_of_ble_eq_true rfl⟩) hP hD hS hA [0] [] rfl rfl (by decide) (by decide) (fun H locs hP hD hS => ?_)
      have hP : va_P (dC, dI) CL_ [(m0, .inr (7, [.int (nI 1), .ref a1, .ref a2, .int (nI vs), .ref a3, .int (nI bs), .int (nI ch), .int (nI mh), .int (nI me), .int (nI mb), .int (nI mn), .ref a4, .ref a5, .int (nI mw), .int (nI mr), .ref a6, .int (nI es), .int (nI pn), .ref a7, .ref a8, .int (oI ah), .ref a9, .int (nI fs)]))] H := hP
      have hD : va_D A [(m0, .inr (7, [.int (nI 1), .ref a1, .ref a2, .int (nI vs), .ref a3, .int (nI bs), .int (nI ch), .int (nI mh), .int (nI me), .int (nI mb), .int (nI mn), .ref a4, .ref a5, .int (nI mw), .int (nI mr), .ref a6, .int (nI es), .int (nI pn), .ref a7, .ref a8, .int (oI ah), .ref a9, .int (nI fs)]))] := hD
      refine n_if_eqB (tgt := 39) hx hb d_Mod_set_34 (by decide) (fun c_34 => ?_) (fun c_34 => ?_)
      · exact absurd c_34 (by decide)
      · skip
        refine lv_iconst (v := nI 0) hx hb d_Mod_set_37 (by decide) ?_
        exact hret (nI 0) _ _ 38 ls d_Mod_set_38 (hP.sub [0] rfl) (hD.sub [0] (by decide) rfl) hS rfl
    · skip
      refine lv_iconst (v := bI true) hx hb d_Mod_set_26 (by decide) ?_
      refine lv_goto (tgt := 31) hx hb d_Mod_set_27 (by decide) ?_
      refine kj_i (wr := []) (va_runV (As := [.int (bI true), .int (bI true)]) (rest := []) SS (m_refuse1 l dC dI cI s.heap.size m0 a1 a2 a3 a4 a5 a6 a7 a8 a9 th vs bs ch mh me mb mn mw mr es pn ah fs true ) (k_cwV 2 hts u_744 u_746 u_25 u_43 u_747 rfl rfl (by decide +kernel) ⟨Nat.le_of_ble_eq_true rfl, Nat.le_of_ble_eq_true rfl⟩) (kp_V hN hK [0] rfl hP hD [0] rfl (by decide) (ci := 7) rfl 0 rfl) rfl rfl hl.1 rfl (lv_room (Nat.le_of_ble_eq_true rfl)) d_Mod_set_31 ⟨Nat.le_of_ble_eq_true rfl, Nat.le_of_ble_eq_true rfl⟩) hP hD hS hA [0] [] rfl rfl (by decide) (by decide) (fun H locs hP hD hS => ?_)
      have hP : va_P (dC, dI) CL_ [(m0, .inr (7, [.int (nI 1), .ref a1, .ref a2, .int (nI vs), .ref a3, .int (nI bs), .int (nI ch), .int (nI mh), .int (nI me), .int (nI mb), .int (nI mn), .ref a4, .ref a5, .int (nI mw), .int (nI mr), .ref a6, .int (nI es), .int (nI pn), .ref a7, .ref a8, .int (oI ah), .ref a9, .int (nI fs)]))] H := hP
      have hD : va_D A [(m0, .inr (7, [.int (nI 1), .ref a1, .ref a2, .int (nI vs), .ref a3, .int (nI bs), .int (nI ch), .int (nI mh), .int (nI me), .int (nI mb), .int (nI mn), .ref a4, .ref a5, .int (nI mw), .int (nI mr), .ref a6, .int (nI es), .int (nI pn), .ref a7, .ref a8, .int (oI ah), .ref a9, .int (nI fs)]))] := hD
      refine n_if_eqB (tgt := 39) hx hb d_Mod_set_34 (by decide) (fun c_34 => ?_) (fun c_34 => ?_)
      · exact absurd c_34 (by decide)
      · skip
        refine lv_iconst (v := nI 0) hx hb d_Mod_set_37 (by decide) ?_
        exact hret (nI 0) _ _ 38 ls d_Mod_set_38 (hP.sub [0] rfl) (hD.sub [0] (by decide) rfl) hS rfl
  · skip
    refine lv_iload_n hx hb d_Mod_set_5 rfl (lv_at hl 1 rfl) ?_
    refine lv_sipush (v := nI 199) hx hb d_Mod_set_6 (by decide) ?_
    refine lv_icmp_le (tgt := 16) hx hb d_Mod_set_9 (by decide) (fun c_9 => ?_) (fun c_9 => ?_)
    · exact absurd hx1 (fun q => q.elim c_2 (Int32.not_lt.mpr c_9))
    · skip
      refine lv_iconst (v := bI true) hx hb d_Mod_set_12 (by decide) ?_
      refine lv_goto (tgt := 17) hx hb d_Mod_set_13 (by decide) ?_
      refine lv_aload_n hx hb d_Mod_set_17 rfl (lv_at hl 0 rfl) ?_
      refine va_get (D := (dC, dI)) (ci := 7) (v := .int (nI ch)) (C := R_Mod) (T := F_Mod) (N := 23) hx hb hts in_Mod hown hK hP 0 rfl rfl 6 (by decide) (hts _ u_672) (fun _ h9 => h9) rfl d_Mod_set_18 ?_
      refine lv_bipush (v := nI 8) hx hb d_Mod_set_21 (by decide) ?_
      refine n_icmp_ne (tgt := 30) hx hb d_Mod_set_23 (by decide) (by omega) (by omega) (fun c_23 => ?_) (fun c_23 => ?_)
      · skip
        refine lv_iconst (v := bI false) hx hb d_Mod_set_30 (by decide) ?_
        refine kj_i (wr := []) (va_runV (As := [.int (bI true), .int (bI false)]) (rest := []) SS (m_refuse1 l dC dI cI s.heap.size m0 a1 a2 a3 a4 a5 a6 a7 a8 a9 th vs bs ch mh me mb mn mw mr es pn ah fs false ) (k_cwV 2 hts u_744 u_746 u_25 u_43 u_747 rfl rfl (by decide +kernel) ⟨Nat.le_of_ble_eq_true rfl, Nat.le_of_ble_eq_true rfl⟩) (kp_V hN hK [0] rfl hP hD [0] rfl (by decide) (ci := 7) rfl 0 rfl) rfl rfl hl.1 rfl (lv_room (Nat.le_of_ble_eq_true rfl)) d_Mod_set_31 ⟨Nat.le_of_ble_eq_true rfl, Nat.le_of_ble_eq_true rfl⟩) hP hD hS hA [0] [] rfl rfl (by decide) (by decide) (fun H locs hP hD hS => ?_)
        have hP : va_P (dC, dI) CL_ [(m0, .inr (7, [.int (nI 1), .ref a1, .ref a2, .int (nI vs), .ref a3, .int (nI bs), .int (nI ch), .int (nI mh), .int (nI me), .int (nI mb), .int (nI mn), .ref a4, .ref a5, .int (nI mw), .int (nI mr), .ref a6, .int (nI es), .int (nI pn), .ref a7, .ref a8, .int (oI ah), .ref a9, .int (nI fs)]))] H := hP
        have hD : va_D A [(m0, .inr (7, [.int (nI 1), .ref a1, .ref a2, .int (nI vs), .ref a3, .int (nI bs), .int (nI ch), .int (nI mh), .int (nI me), .int (nI mb), .int (nI mn), .ref a4, .ref a5, .int (nI mw), .int (nI mr), .ref a6, .int (nI es), .int (nI pn), .ref a7, .ref a8, .int (oI ah), .ref a9, .int (nI fs)]))] := hD
        refine n_if_eqB (tgt := 39) hx hb d_Mod_set_34 (by decide) (fun c_34 => ?_) (fun c_34 => ?_)
        · exact absurd c_34 (by decide)
        · skip
          refine lv_iconst (v := nI 0) hx hb d_Mod_set_37 (by decide) ?_
          exact hret (nI 0) _ _ 38 ls d_Mod_set_38 (hP.sub [0] rfl) (hD.sub [0] (by decide) rfl) hS rfl
      · skip
        refine lv_iconst (v := bI true) hx hb d_Mod_set_26 (by decide) ?_
        refine lv_goto (tgt := 31) hx hb d_Mod_set_27 (by decide) ?_
        refine kj_i (wr := []) (va_runV (As := [.int (bI true), .int (bI true)]) (rest := []) SS (m_refuse1 l dC dI cI s.heap.size m0 a1 a2 a3 a4 a5 a6 a7 a8 a9 th vs bs ch mh me mb mn mw mr es pn ah fs true ) (k_cwV 2 hts u_744 u_746 u_25 u_43 u_747 rfl rfl (by decide +kernel) ⟨Nat.le_of_ble_eq_true rfl, Nat.le_of_ble_eq_true rfl⟩) (kp_V hN hK [0] rfl hP hD [0] rfl (by decide) (ci := 7) rfl 0 rfl) rfl rfl hl.1 rfl (lv_room (Nat.le_of_ble_eq_true rfl)) d_Mod_set_31 ⟨Nat.le_of_ble_eq_true rfl, Nat.le_of_ble_eq_true rfl⟩) hP hD hS hA [0] [] rfl rfl (by decide) (by decide) (fun H locs hP hD hS => ?_)
        have hP : va_P (dC, dI) CL_ [(m0, .inr (7, [.int (nI 1), .ref a1, .ref a2, .int (nI vs), .ref a3, .int (nI bs), .int (nI ch), .int (nI mh), .int (nI me), .int (nI mb), .int (nI mn), .ref a4, .ref a5, .int (nI mw), .int (nI mr), .ref a6, .int (nI es), .int (nI pn), .ref a7, .ref a8, .int (oI ah), .ref a9, .int (nI fs)]))] H := hP
        have hD : va_D A [(m0, .inr (7, [.int (nI 1), .ref a1, .ref a2, .int (nI vs), .ref a3, .int (nI bs), .int (nI ch), .int (nI mh), .int (nI me), .int (nI mb), .int (nI mn), .ref a4, .ref a5, .int (nI mw), .int (nI mr), .ref a6, .int (nI es), .int (nI pn), .ref a7, .ref a8, .int (oI ah), .ref a9, .int (nI fs)]))] := hD
        refine n_if_eqB (tgt := 39) hx hb d_Mod_set_34 (by decide) (fun c_34 => ?_) (fun c_34 => ?_)
        · exact absurd c_34 (by decide)
        · skip
          refine lv_iconst (v := nI 0) hx hb d_Mod_set_37 (by decide) ?_
          exact hret (nI 0) _ _ 38 ls d_Mod_set_38 (hP.sub [0] rfl) (hD.sub [0] (by decide) rfl) hS rfl
abbrev rmm_set2 : Room := { frames := 1, cells := 0, slots := 0, locals := 22 }
set_option maxHeartbeats 4000000 in
set_option maxRecDepth 100000 in
theorem m_set2 (l : Launch) (dC : Nat → ClassId) (dI : Nat → Nat → Nat) (cI : ClassId) (sz : Nat) (m0 : Nat) (a1 : Nat) (a2 : Nat) (a3 : Nat) (a4 : Nat) (a5 : Nat) (a6 : Nat) (a7 : Nat) (a8 : Nat) (a9 : Nat) (th : Nat) (vs : Nat) (bs : Nat) (ch : Nat) (mh : Nat) (me : Nat) (mb : Nat) (mn : Nat) (mw : Nat) (mr : Nat) (es : Nat) (pn : Nat) (ah : Option Nat) (fs : Nat) (k : Nat) (hk : k < 200) (hc8 : ch = 8) : KI l y_Mod_set w_Mod_set rmm_set2 (dC, dI) CL_ [(cI, .int)] sz [.ref m0, .int (nI k)] [(m0, .inr (7, [.int (nI th), .ref a1, .ref a2, .int (nI vs), .ref a3, .int (nI bs), .int (nI ch), .int (nI mh), .int (nI me), .int (nI mb), .int (nI mn), .ref a4, .ref a5, .int (nI mw), .int (nI mr), .ref a6, .int (nI es), .int (nI pn), .ref a7, .ref a8, .int (oI ah), .ref a9, .int (nI fs)]))] [(m0, .inr (7, [.int (nI 2), .ref a1, .ref a2, .int (nI vs), .ref a3, .int (nI bs), .int (nI ch), .int (nI mh), .int (nI me), .int (nI mb), .int (nI mn), .ref a4, .ref a5, .int (nI mw), .int (nI mr), .ref a6, .int (nI es), .int (nI pn), .ref a7, .ref a8, .int (oI ah), .ref a9, .int (nI fs)]))] (nI 0) := by
  refine k_start_i (cc := b_Mod_set) (maxL := 3) (by decide) (Nat.le_of_ble_eq_true rfl) ?_
  intro p e s m args below meth c A QQ ls SS hK hP hD hA hl hN hret
  obtain ⟨hx, hb, hml, hown, hts⟩ := id SS
  have hl : lv_has ls 3 [(0, .ref m0), (1, .int (nI k))] := hl
  have hS : va_S A s.heap s.heap [] := va_S.rf
  refine lv_aload_n hx hb d_Mod_set_0 rfl (lv_at hl 0 rfl) ?_
  refine lv_iload_n hx hb d_Mod_set_1 rfl (lv_at hl 1 rfl) ?_
  refine n_if_lt (tgt := 12) hx hb d_Mod_set_2 (by decide) (by omega) ?_
  refine lv_iload_n hx hb d_Mod_set_5 rfl (lv_at hl 1 rfl) ?_
  refine lv_sipush (v := nI 199) hx hb d_Mod_set_6 (by decide) ?_
  refine n_icmp_le (tgt := 16) hx hb d_Mod_set_9 (by decide) (by omega) (by omega) (fun c_9 => ?_) (fun c_9 => ?_)
  · skip
    refine lv_iconst (v := bI false) hx hb d_Mod_set_16 (by decide) ?_
    refine lv_aload_n hx hb d_Mod_set_17 rfl (lv_at hl 0 rfl) ?_
    refine va_get (D := (dC, dI)) (ci := 7) (v := .int (nI ch)) (C := R_Mod) (T := F_Mod) (N := 23) hx hb hts in_Mod hown hK hP 0 rfl rfl 6 (by decide) (hts _ u_672) (fun _ h9 => h9) rfl d_Mod_set_18 ?_
    refine lv_bipush (v := nI 8) hx hb d_Mod_set_21 (by decide) ?_
    refine n_icmp_ne (tgt := 30) hx hb d_Mod_set_23 (by decide) (by omega) (by omega) (fun c_23 => ?_) (fun c_23 => ?_)
    · exact absurd hc8 c_23
    · skip
      refine lv_iconst (v := bI true) hx hb d_Mod_set_26 (by decide) ?_
      refine lv_goto (tgt := 31) hx hb d_Mod_set_27 (by decide) ?_
      refine kj_i (wr := []) (va_runV (As := [.int (bI false), .int (bI true)]) (rest := []) SS (m_refuse2 l dC dI cI s.heap.size m0 a1 a2 a3 a4 a5 a6 a7 a8 a9 th vs bs ch mh me mb mn mw mr es pn ah fs ) (k_cwV 2 hts u_744 u_746 u_25 u_43 u_747 rfl rfl (by decide +kernel) ⟨Nat.le_of_ble_eq_true rfl, Nat.le_of_ble_eq_true rfl⟩) (kp_V hN hK [0] rfl hP hD [0] rfl (by decide) (ci := 7) rfl 0 rfl) rfl rfl hl.1 rfl (lv_room (Nat.le_of_ble_eq_true rfl)) d_Mod_set_31 ⟨Nat.le_of_ble_eq_true rfl, Nat.le_of_ble_eq_true rfl⟩) hP hD hS hA [0] [] rfl rfl (by decide) (by decide) (fun H locs hP hD hS => ?_)
      have hP : va_P (dC, dI) CL_ [(m0, .inr (7, [.int (nI 2), .ref a1, .ref a2, .int (nI vs), .ref a3, .int (nI bs), .int (nI ch), .int (nI mh), .int (nI me), .int (nI mb), .int (nI mn), .ref a4, .ref a5, .int (nI mw), .int (nI mr), .ref a6, .int (nI es), .int (nI pn), .ref a7, .ref a8, .int (oI ah), .ref a9, .int (nI fs)]))] H := hP
      have hD : va_D A [(m0, .inr (7, [.int (nI 2), .ref a1, .ref a2, .int (nI vs), .ref a3, .int (nI bs), .int (nI ch), .int (nI mh), .int (nI me), .int (nI mb), .int (nI mn), .ref a4, .ref a5, .int (nI mw), .int (nI mr), .ref a6, .int (nI es), .int (nI pn), .ref a7, .ref a8, .int (oI ah), .ref a9, .int (nI fs)]))] := hD
      refine n_if_eqB (tgt := 39) hx hb d_Mod_set_34 (by decide) (fun c_34 => ?_) (fun c_34 => ?_)
      · exact absurd c_34 (by decide)
      · skip
        refine lv_iconst (v := nI 0) hx hb d_Mod_set_37 (by decide) ?_
        exact hret (nI 0) _ _ 38 ls d_Mod_set_38 (hP.sub [0] rfl) (hD.sub [0] (by decide) rfl) hS rfl
  · exact absurd c_9 (by omega)
abbrev rmm_drop1 : Room := { frames := 1, cells := 0, slots := 0, locals := 22 }
set_option maxHeartbeats 4000000 in
set_option maxRecDepth 100000 in
theorem m_drop1 (l : Launch) (dC : Nat → ClassId) (dI : Nat → Nat → Nat) (cI : ClassId) (sz : Nat) (m0 : Nat) (a1 : Nat) (a2 : Nat) (a3 : Nat) (a4 : Nat) (a5 : Nat) (a6 : Nat) (a7 : Nat) (a8 : Nat) (a9 : Nat) (th : Nat) (vs : Nat) (bs : Nat) (ch : Nat) (mh : Nat) (me : Nat) (mb : Nat) (mn : Nat) (mw : Nat) (mr : Nat) (es : Nat) (pn : Nat) (ah : Option Nat) (fs : Nat) (x : Int32) (hx1 : x < 0 ∨ nI 199 < x) (hc8 : ch ≤ 8) : KI l y_Mod_drop w_Mod_drop rmm_drop1 (dC, dI) CL_ [(cI, .int)] sz [.ref m0, .int x] [(m0, .inr (7, [.int (nI th), .ref a1, .ref a2, .int (nI vs), .ref a3, .int (nI bs), .int (nI ch), .int (nI mh), .int (nI me), .int (nI mb), .int (nI mn), .ref a4, .ref a5, .int (nI mw), .int (nI mr), .ref a6, .int (nI es), .int (nI pn), .ref a7, .ref a8, .int (oI ah), .ref a9, .int (nI fs)]))] [(m0, .inr (7, [.int (nI 1), .ref a1, .ref a2, .int (nI vs), .ref a3, .int (nI bs), .int (nI ch), .int (nI mh), .int (nI me), .int (nI mb), .int (nI mn), .ref a4, .ref a5, .int (nI mw), .int (nI mr), .ref a6, .int (nI es), .int (nI pn), .ref a7, .ref a8, .int (oI ah), .ref a9, .int (nI fs)]))] (nI 0) := by
  refine k_start_i (cc := b_Mod_drop) (maxL := 2) (by decide) (Nat.le_of_ble_eq_true rfl) ?_
  intro p e s m args below meth c A QQ ls SS hK hP hD hA hl hN hret
  obtain ⟨hx, hb, hml, hown, hts⟩ := id SS
  have hl : lv_has ls 2 [(0, .ref m0), (1, .int x)] := hl
  have hS : va_S A s.heap s.heap [] := va_S.rf
  refine lv_aload_n hx hb d_Mod_drop_0 rfl (lv_at hl 0 rfl) ?_
  refine lv_iload_n hx hb d_Mod_drop_1 rfl (lv_at hl 1 rfl) ?_
  refine lv_if_lt (tgt := 12) hx hb d_Mod_drop_2 (by decide) (fun c_2 => ?_) (fun c_2 => ?_)
  · skip
    refine lv_iconst (v := bI true) hx hb d_Mod_drop_12 (by decide) ?_
    refine lv_goto (tgt := 17) hx hb d_Mod_drop_13 (by decide) ?_
    refine lv_aload_n hx hb d_Mod_drop_17 rfl (lv_at hl 0 rfl) ?_
    refine va_get (D := (dC, dI)) (ci := 7) (v := .int (nI ch)) (C := R_Mod) (T := F_Mod) (N := 23) hx hb hts in_Mod hown hK hP 0 rfl rfl 6 (by decide) (hts _ u_672) (fun _ h9 => h9) rfl d_Mod_drop_18 ?_
    refine lv_bipush (v := nI 8) hx hb d_Mod_drop_21 (by decide) ?_
    refine n_icmp_ne (tgt := 30) hx hb d_Mod_drop_23 (by decide) (by omega) (by omega) (fun c_23 => ?_) (fun c_23 => ?_)
    · skip
      refine lv_iconst (v := bI false) hx hb d_Mod_drop_30 (by decide) ?_
      refine kj_i (wr := []) (va_runV (As := [.int (bI true), .int (bI false)]) (rest := []) SS (m_refuse1 l dC dI cI s.heap.size m0 a1 a2 a3 a4 a5 a6 a7 a8 a9 th vs bs ch mh me mb mn mw mr es pn ah fs false ) (k_cwV 2 hts u_744 u_746 u_25 u_43 u_747 rfl rfl (by decide +kernel) ⟨Nat.le_of_ble_eq_true rfl, Nat.le_of_ble_eq_true rfl⟩) (kp_V hN hK [0] rfl hP hD [0] rfl (by decide) (ci := 7) rfl 0 rfl) rfl rfl hl.1 rfl (lv_room (Nat.le_of_ble_eq_true rfl)) d_Mod_drop_31 ⟨Nat.le_of_ble_eq_true rfl, Nat.le_of_ble_eq_true rfl⟩) hP hD hS hA [0] [] rfl rfl (by decide) (by decide) (fun H locs hP hD hS => ?_)
      have hP : va_P (dC, dI) CL_ [(m0, .inr (7, [.int (nI 1), .ref a1, .ref a2, .int (nI vs), .ref a3, .int (nI bs), .int (nI ch), .int (nI mh), .int (nI me), .int (nI mb), .int (nI mn), .ref a4, .ref a5, .int (nI mw), .int (nI mr), .ref a6, .int (nI es), .int (nI pn), .ref a7, .ref a8, .int (oI ah), .ref a9, .int (nI fs)]))] H := hP
      have hD : va_D A [(m0, .inr (7, [.int (nI 1), .ref a1, .ref a2, .int (nI vs), .ref a3, .int (nI bs), .int (nI ch), .int (nI mh), .int (nI me), .int (nI mb), .int (nI mn), .ref a4, .ref a5, .int (nI mw), .int (nI mr), .ref a6, .int (nI es), .int (nI pn), .ref a7, .ref a8, .int (oI ah), .ref a9, .int (nI fs)]))] := hD
      refine n_if_eqB (tgt := 39) hx hb d_Mod_drop_34 (by decide) (fun c_34 => ?_) (fun c_34 => ?_)
      · exact absurd c_34 (by decide)
      · skip
        refine lv_iconst (v := nI 0) hx hb d_Mod_drop_37 (by decide) ?_
        exact hret (nI 0) _ _ 38 ls d_Mod_drop_38 (hP.sub [0] rfl) (hD.sub [0] (by decide) rfl) hS rfl
    · skip
      refine lv_iconst (v := bI true) hx hb d_Mod_drop_26 (by decide) ?_
      refine lv_goto (tgt := 31) hx hb d_Mod_drop_27 (by decide) ?_
      refine kj_i (wr := []) (va_runV (As := [.int (bI true), .int (bI true)]) (rest := []) SS (m_refuse1 l dC dI cI s.heap.size m0 a1 a2 a3 a4 a5 a6 a7 a8 a9 th vs bs ch mh me mb mn mw mr es pn ah fs true ) (k_cwV 2 hts u_744 u_746 u_25 u_43 u_747 rfl rfl (by decide +kernel) ⟨Nat.le_of_ble_eq_true rfl, Nat.le_of_ble_eq_true rfl⟩) (kp_V hN hK [0] rfl hP hD [0] rfl (by decide) (ci := 7) rfl 0 rfl) rfl rfl hl.1 rfl (lv_room (Nat.le_of_ble_eq_true rfl)) d_Mod_drop_31 ⟨Nat.le_of_ble_eq_true rfl, Nat.le_of_ble_eq_true rfl⟩) hP hD hS hA [0] [] rfl rfl (by decide) (by decide) (fun H locs hP hD hS => ?_)
      have hP : va_P (dC, dI) CL_ [(m0, .inr (7, [.int (nI 1), .ref a1, .ref a2, .int (nI vs), .ref a3, .int (nI bs), .int (nI ch), .int (nI mh), .int (nI me), .int (nI mb), .int (nI mn), .ref a4, .ref a5, .int (nI mw), .int (nI mr), .ref a6, .int (nI es), .int (nI pn), .ref a7, .ref a8, .int (oI ah), .ref a9, .int (nI fs)]))] H := hP
      have hD : va_D A [(m0, .inr (7, [.int (nI 1), .ref a1, .ref a2, .int (nI vs), .ref a3, .int (nI bs), .int (nI ch), .int (nI mh), .int (nI me), .int (nI mb), .int (nI mn), .ref a4, .ref a5, .int (nI mw), .int (nI mr), .ref a6, .int (nI es), .int (nI pn), .ref a7, .ref a8, .int (oI ah), .ref a9, .int (nI fs)]))] := hD
      refine n_if_eqB (tgt := 39) hx hb d_Mod_drop_34 (by decide) (fun c_34 => ?_) (fun c_34 => ?_)
      · exact absurd c_34 (by decide)
      · skip
        refine lv_iconst (v := nI 0) hx hb d_Mod_drop_37 (by decide) ?_
        exact hret (nI 0) _ _ 38 ls d_Mod_drop_38 (hP.sub [0] rfl) (hD.sub [0] (by decide) rfl) hS rfl
  · skip
    refine lv_iload_n hx hb d_Mod_drop_5 rfl (lv_at hl 1 rfl) ?_
    refine lv_sipush (v := nI 199) hx hb d_Mod_drop_6 (by decide) ?_
    refine lv_icmp_le (tgt := 16) hx hb d_Mod_drop_9 (by decide) (fun c_9 => ?_) (fun c_9 => ?_)
    · exact absurd hx1 (fun q => q.elim c_2 (Int32.not_lt.mpr c_9))
    · skip
      refine lv_iconst (v := bI true) hx hb d_Mod_drop_12 (by decide) ?_
      refine lv_goto (tgt := 17) hx hb d_Mod_drop_13 (by decide) ?_
      refine lv_aload_n hx hb d_Mod_drop_17 rfl (lv_at hl 0 rfl) ?_
      refine va_get (D := (dC, dI)) (ci := 7) (v := .int (nI ch)) (C := R_Mod) (T := F_Mod) (N := 23) hx hb hts in_Mod hown hK hP 0 rfl rfl 6 (by decide) (hts _ u_672) (fun _ h9 => h9) rfl d_Mod_drop_18 ?_
      refine lv_bipush (v := nI 8) hx hb d_Mod_drop_21 (by decide) ?_
      refine n_icmp_ne (tgt := 30) hx hb d_Mod_drop_23 (by decide) (by omega) (by omega) (fun c_23 => ?_) (fun c_23 => ?_)
      · skip
        refine lv_iconst (v := bI false) hx hb d_Mod_drop_30 (by decide) ?_
        refine kj_i (wr := []) (va_runV (As := [.int (bI true), .int (bI false)]) (rest := []) SS (m_refuse1 l dC dI cI s.heap.size m0 a1 a2 a3 a4 a5 a6 a7 a8 a9 th vs bs ch mh me mb mn mw mr es pn ah fs false ) (k_cwV 2 hts u_744 u_746 u_25 u_43 u_747 rfl rfl (by decide +kernel) ⟨Nat.le_of_ble_eq_true rfl, Nat.le_of_ble_eq_true rfl⟩) (kp_V hN hK [0] rfl hP hD [0] rfl (by decide) (ci := 7) rfl 0 rfl) rfl rfl hl.1 rfl (lv_room (Nat.le_of_ble_eq_true rfl)) d_Mod_drop_31 ⟨Nat.le_of_ble_eq_true rfl, Nat.le_of_ble_eq_true rfl⟩) hP hD hS hA [0] [] rfl rfl (by decide) (by decide) (fun H locs hP hD hS => ?_)
        have hP : va_P (dC, dI) CL_ [(m0, .inr (7, [.int (nI 1), .ref a1, .ref a2, .int (nI vs), .ref a3, .int (nI bs), .int (nI ch), .int (nI mh), .int (nI me), .int (nI mb), .int (nI mn), .ref a4, .ref a5, .int (nI mw), .int (nI mr), .ref a6, .int (nI es), .int (nI pn), .ref a7, .ref a8, .int (oI ah), .ref a9, .int (nI fs)]))] H := hP
        have hD : va_D A [(m0, .inr (7, [.int (nI 1), .ref a1, .ref a2, .int (nI vs), .ref a3, .int (nI bs), .int (nI ch), .int (nI mh), .int (nI me), .int (nI mb), .int (nI mn), .ref a4, .ref a5, .int (nI mw), .int (nI mr), .ref a6, .int (nI es), .int (nI pn), .ref a7, .ref a8, .int (oI ah), .ref a9, .int (nI fs)]))] := hD
        refine n_if_eqB (tgt := 39) hx hb d_Mod_drop_34 (by decide) (fun c_34 => ?_) (fun c_34 => ?_)
        · exact absurd c_34 (by decide)
        · skip
          refine lv_iconst (v := nI 0) hx hb d_Mod_drop_37 (by decide) ?_
          exact hret (nI 0) _ _ 38 ls d_Mod_drop_38 (hP.sub [0] rfl) (hD.sub [0] (by decide) rfl) hS rfl
      · skip
        refine lv_iconst (v := bI true) hx hb d_Mod_drop_26 (by decide) ?_
        refine lv_goto (tgt := 31) hx hb d_Mod_drop_27 (by decide) ?_
        refine kj_i (wr := []) (va_runV (As := [.int (bI true), .int (bI true)]) (rest := []) SS (m_refuse1 l dC dI cI s.heap.size m0 a1 a2 a3 a4 a5 a6 a7 a8 a9 th vs bs ch mh me mb mn mw mr es pn ah fs true ) (k_cwV 2 hts u_744 u_746 u_25 u_43 u_747 rfl rfl (by decide +kernel) ⟨Nat.le_of_ble_eq_true rfl, Nat.le_of_ble_eq_true rfl⟩) (kp_V hN hK [0] rfl hP hD [0] rfl (by decide) (ci := 7) rfl 0 rfl) rfl rfl hl.1 rfl (lv_room (Nat.le_of_ble_eq_true rfl)) d_Mod_drop_31 ⟨Nat.le_of_ble_eq_true rfl, Nat.le_of_ble_eq_true rfl⟩) hP hD hS hA [0] [] rfl rfl (by decide) (by decide) (fun H locs hP hD hS => ?_)
        have hP : va_P (dC, dI) CL_ [(m0, .inr (7, [.int (nI 1), .ref a1, .ref a2, .int (nI vs), .ref a3, .int (nI bs), .int (nI ch), .int (nI mh), .int (nI me), .int (nI mb), .int (nI mn), .ref a4, .ref a5, .int (nI mw), .int (nI mr), .ref a6, .int (nI es), .int (nI pn), .ref a7, .ref a8, .int (oI ah), .ref a9, .int (nI fs)]))] H := hP
        have hD : va_D A [(m0, .inr (7, [.int (nI 1), .ref a1, .ref a2, .int (nI vs), .ref a3, .int (nI bs), .int (nI ch), .int (nI mh), .int (nI me), .int (nI mb), .int (nI mn), .ref a4, .ref a5, .int (nI mw), .int (nI mr), .ref a6, .int (nI es), .int (nI pn), .ref a7, .ref a8, .int (oI ah), .ref a9, .int (nI fs)]))] := hD
        refine n_if_eqB (tgt := 39) hx hb d_Mod_drop_34 (by decide) (fun c_34 => ?_) (fun c_34 => ?_)
        · exact absurd c_34 (by decide)
        · skip
          refine lv_iconst (v := nI 0) hx hb d_Mod_drop_37 (by decide) ?_
          exact hret (nI 0) _ _ 38 ls d_Mod_drop_38 (hP.sub [0] rfl) (hD.sub [0] (by decide) rfl) hS rfl
abbrev rmm_drop2 : Room := { frames := 1, cells := 0, slots := 0, locals := 22 }
set_option maxHeartbeats 4000000 in
set_option maxRecDepth 100000 in
theorem m_drop2 (l : Launch) (dC : Nat → ClassId) (dI : Nat → Nat → Nat) (cI : ClassId) (sz : Nat) (m0 : Nat) (a1 : Nat) (a2 : Nat) (a3 : Nat) (a4 : Nat) (a5 : Nat) (a6 : Nat) (a7 : Nat) (a8 : Nat) (a9 : Nat) (th : Nat) (vs : Nat) (bs : Nat) (ch : Nat) (mh : Nat) (me : Nat) (mb : Nat) (mn : Nat) (mw : Nat) (mr : Nat) (es : Nat) (pn : Nat) (ah : Option Nat) (fs : Nat) (k : Nat) (hk : k < 200) (hc8 : ch = 8) : KI l y_Mod_drop w_Mod_drop rmm_drop2 (dC, dI) CL_ [(cI, .int)] sz [.ref m0, .int (nI k)] [(m0, .inr (7, [.int (nI th), .ref a1, .ref a2, .int (nI vs), .ref a3, .int (nI bs), .int (nI ch), .int (nI mh), .int (nI me), .int (nI mb), .int (nI mn), .ref a4, .ref a5, .int (nI mw), .int (nI mr), .ref a6, .int (nI es), .int (nI pn), .ref a7, .ref a8, .int (oI ah), .ref a9, .int (nI fs)]))] [(m0, .inr (7, [.int (nI 2), .ref a1, .ref a2, .int (nI vs), .ref a3, .int (nI bs), .int (nI ch), .int (nI mh), .int (nI me), .int (nI mb), .int (nI mn), .ref a4, .ref a5, .int (nI mw), .int (nI mr), .ref a6, .int (nI es), .int (nI pn), .ref a7, .ref a8, .int (oI ah), .ref a9, .int (nI fs)]))] (nI 0) := by
  refine k_start_i (cc := b_Mod_drop) (maxL := 2) (by decide) (Nat.le_of_ble_eq_true rfl) ?_
  intro p e s m args below meth c A QQ ls SS hK hP hD hA hl hN hret
  obtain ⟨hx, hb, hml, hown, hts⟩ := id SS
  have hl : lv_has ls 2 [(0, .ref m0), (1, .int (nI k))] := hl
  have hS : va_S A s.heap s.heap [] := va_S.rf
  refine lv_aload_n hx hb d_Mod_drop_0 rfl (lv_at hl 0 rfl) ?_
  refine lv_iload_n hx hb d_Mod_drop_1 rfl (lv_at hl 1 rfl) ?_
  refine n_if_lt (tgt := 12) hx hb d_Mod_drop_2 (by decide) (by omega) ?_
  refine lv_iload_n hx hb d_Mod_drop_5 rfl (lv_at hl 1 rfl) ?_
  refine lv_sipush (v := nI 199) hx hb d_Mod_drop_6 (by decide) ?_
  refine n_icmp_le (tgt := 16) hx hb d_Mod_drop_9 (by decide) (by omega) (by omega) (fun c_9 => ?_) (fun c_9 => ?_)
  · skip
    refine lv_iconst (v := bI false) hx hb d_Mod_drop_16 (by decide) ?_
    refine lv_aload_n hx hb d_Mod_drop_17 rfl (lv_at hl 0 rfl) ?_
    refine va_get (D := (dC, dI)) (ci := 7) (v := .int (nI ch)) (C := R_Mod) (T := F_Mod) (N := 23) hx hb hts in_Mod hown hK hP 0 rfl rfl 6 (by decide) (hts _ u_672) (fun _ h9 => h9) rfl d_Mod_drop_18 ?_
    refine lv_bipush (v := nI 8) hx hb d_Mod_drop_21 (by decide) ?_
    refine n_icmp_ne (tgt := 30) hx hb d_Mod_drop_23 (by decide) (by omega) (by omega) (fun c_23 => ?_) (fun c_23 => ?_)
    · exact absurd hc8 c_23
    · skip
      refine lv_iconst (v := bI true) hx hb d_Mod_drop_26 (by decide) ?_
      refine lv_goto (tgt := 31) hx hb d_Mod_drop_27 (by decide) ?_
      refine kj_i (wr := []) (va_runV (As := [.int (bI false), .int (bI true)]) (rest := []) SS (m_refuse2 l dC dI cI s.heap.size m0 a1 a2 a3 a4 a5 a6 a7 a8 a9 th vs bs ch mh me mb mn mw mr es pn ah fs ) (k_cwV 2 hts u_744 u_746 u_25 u_43 u_747 rfl rfl (by decide +kernel) ⟨Nat.le_of_ble_eq_true rfl, Nat.le_of_ble_eq_true rfl⟩) (kp_V hN hK [0] rfl hP hD [0] rfl (by decide) (ci := 7) rfl 0 rfl) rfl rfl hl.1 rfl (lv_room (Nat.le_of_ble_eq_true rfl)) d_Mod_drop_31 ⟨Nat.le_of_ble_eq_true rfl, Nat.le_of_ble_eq_true rfl⟩) hP hD hS hA [0] [] rfl rfl (by decide) (by decide) (fun H locs hP hD hS => ?_)
      have hP : va_P (dC, dI) CL_ [(m0, .inr (7, [.int (nI 2), .ref a1, .ref a2, .int (nI vs), .ref a3, .int (nI bs), .int (nI ch), .int (nI mh), .int (nI me), .int (nI mb), .int (nI mn), .ref a4, .ref a5, .int (nI mw), .int (nI mr), .ref a6, .int (nI es), .int (nI pn), .ref a7, .ref a8, .int (oI ah), .ref a9, .int (nI fs)]))] H := hP
      have hD : va_D A [(m0, .inr (7, [.int (nI 2), .ref a1, .ref a2, .int (nI vs), .ref a3, .int (nI bs), .int (nI ch), .int (nI mh), .int (nI me), .int (nI mb), .int (nI mn), .ref a4, .ref a5, .int (nI mw), .int (nI mr), .ref a6, .int (nI es), .int (nI pn), .ref a7, .ref a8, .int (oI ah), .ref a9, .int (nI fs)]))] := hD
      refine n_if_eqB (tgt := 39) hx hb d_Mod_drop_34 (by decide) (fun c_34 => ?_) (fun c_34 => ?_)
      · exact absurd c_34 (by decide)
      · skip
        refine lv_iconst (v := nI 0) hx hb d_Mod_drop_37 (by decide) ?_
        exact hret (nI 0) _ _ 38 ls d_Mod_drop_38 (hP.sub [0] rfl) (hD.sub [0] (by decide) rfl) hS rfl
  · exact absurd c_9 (by omega)
abbrev rmm_spoil : Room := { frames := 4, cells := 0, slots := 0, locals := 98 }
set_option maxHeartbeats 4000000 in
set_option maxRecDepth 100000 in
theorem m_spoil (l : Launch) (dC : Nat → ClassId) (dI : Nat → Nat → Nat) (cI : ClassId) (sz : Nat) (m0 : Nat) (a1 : Nat) (a2 : Nat) (a3 : Nat) (a4 : Nat) (a5 : Nat) (a6 : Nat) (a7 : Nat) (a8 : Nat) (a9 : Nat) (th : Nat) (vs : Nat) (bs : Nat) (ch : Nat) (mh : Nat) (me : Nat) (mb : Nat) (mn : Nat) (mw : Nat) (mr : Nat) (es : Nat) (pn : Nat) (ah : Option Nat) (fs : Nat) (dd : Nat → Nat) (ee : Nat → Nat) (zz : Nat → Option Nat) (ll : Nat → Nat) (o : Nat) (v : Int32) (ho : o < 6144) (hdd : ∀ j, dd j < 256) (hee : ∀ j, ee j < 256) : KV l y_Mod_spoil w_Mod_spoil rmm_spoil (dC, dI) CL_ [(cI, .int)] sz [.ref m0, .int (nI o), .int v] [(m0, .inr (7, [.int (nI th), .ref a1, .ref a2, .int (nI vs), .ref a3, .int (nI bs), .int (nI ch), .int (nI mh), .int (nI me), .int (nI mb), .int (nI mn), .ref a4, .ref a5, .int (nI mw), .int (nI mr), .ref a6, .int (nI es), .int (nI pn), .ref a7, .ref a8, .int (oI ah), .ref a9, .int (nI fs)])), (a1, .inl (cI, 6144, .inl (nA dd))), (a6, .inl (cI, 2600, .inl (nA ee))), (a4, .inl (cI, 200, .inl (oA zz))), (a5, .inl (cI, 8000, .inl (nA ll)))] [(m0, .inr (7, [.int (nI 0), .ref a1, .ref a2, .int (nI vs), .ref a3, .int (nI bs), .int (nI ch), .int (nI (liveH (updN dd o (v.toBitVec.toNat % 256)))), .int (nI (liveE (updN dd o (v.toBitVec.toNat % 256)))), .int (nI ((mrN (updN dd o (v.toBitVec.toNat % 256)) ee zz ll).2.2.2.2.1)), .int (nI ((mrN (updN dd o (v.toBitVec.toNat % 256)) ee zz ll).2.2.2.2.2)), .ref a4, .ref a5, .int (nI mw), .int (nI mr), .ref a6, .int (nI ((mrN (updN dd o (v.toBitVec.toNat % 256)) ee zz ll).2.1)), .int (nI pn), .ref a7, .ref a8, .int (oI ah), .ref a9, .int (nI fs)])), (a1, .inl (cI, 6144, .inl (nA (updN dd o (v.toBitVec.toNat % 256))))), (a6, .inl (cI, 2600, .inl (nA ((mrN (updN dd o (v.toBitVec.toNat % 256)) ee zz ll).1)))), (a4, .inl (cI, 200, .inl (oA ((mrN (updN dd o (v.toBitVec.toNat % 256)) ee zz ll).2.2.1)))), (a5, .inl (cI, 8000, .inl (nA ((mrN (updN dd o (v.toBitVec.toNat % 256)) ee zz ll).2.2.2.1))))] := by
  refine k_start_v (cc := b_Mod_spoil) (maxL := 3) (by decide) (Nat.le_of_ble_eq_true rfl) ?_
  intro p e s m args below meth c A QQ ls SS hK hP hD hA hl hN hret
  obtain ⟨hx, hb, hml, hown, hts⟩ := id SS
  have hl : lv_has ls 3 [(0, .ref m0), (1, .int (nI o)), (2, .int v)] := hl
  have hS : va_S A s.heap s.heap [] := va_S.rf
  refine lv_aload_n hx hb d_Mod_spoil_0 rfl (lv_at hl 0 rfl) ?_
  refine lv_iload_n hx hb d_Mod_spoil_1 rfl (lv_at hl 1 rfl) ?_
  refine n_if_lt (tgt := 12) hx hb d_Mod_spoil_2 (by decide) (by omega) ?_
  refine lv_iload_n hx hb d_Mod_spoil_5 rfl (lv_at hl 1 rfl) ?_
  refine lv_sipush (v := nI 6144) hx hb d_Mod_spoil_6 (by decide) ?_
  refine n_icmp_lt (tgt := 16) hx hb d_Mod_spoil_9 (by decide) (by omega) (by omega) (fun c_9 => ?_) (fun c_9 => ?_)
  · skip
    refine lv_iconst (v := bI false) hx hb d_Mod_spoil_16 (by decide) ?_
    refine lv_iconst (v := bI false) hx hb d_Mod_spoil_17 (by decide) ?_
    refine kj_i (wr := [(a1, .inl (cI, 6144, .inl (nA dd))), (a6, .inl (cI, 2600, .inl (nA ee))), (a4, .inl (cI, 200, .inl (oA zz))), (a5, .inl (cI, 8000, .inl (nA ll)))]) (va_runV (As := [.int (bI false), .int (bI false)]) (rest := []) SS (m_refuse0 l dC dI cI s.heap.size m0 a1 a2 a3 a4 a5 a6 a7 a8 a9 th vs bs ch mh me mb mn mw mr es pn ah fs ) (k_cwV 2 hts u_744 u_746 u_25 u_43 u_747 rfl rfl (by decide +kernel) ⟨Nat.le_of_ble_eq_true rfl, Nat.le_of_ble_eq_true rfl⟩) (kp_V hN hK [0] rfl hP hD [0] rfl (by decide) (ci := 7) rfl 0 rfl) rfl rfl hl.1 rfl (lv_room (Nat.le_of_ble_eq_true rfl)) d_Mod_spoil_18 ⟨Nat.le_of_ble_eq_true rfl, Nat.le_of_ble_eq_true rfl⟩) hP hD hS hA [0] [1, 2, 3, 4] rfl rfl (by decide) (by decide) (fun H locs hP hD hS => ?_)
    have hP : va_P (dC, dI) CL_ [(a1, .inl (cI, 6144, .inl (nA dd))), (a6, .inl (cI, 2600, .inl (nA ee))), (a4, .inl (cI, 200, .inl (oA zz))), (a5, .inl (cI, 8000, .inl (nA ll))), (m0, .inr (7, [.int (nI 0), .ref a1, .ref a2, .int (nI vs), .ref a3, .int (nI bs), .int (nI ch), .int (nI mh), .int (nI me), .int (nI mb), .int (nI mn), .ref a4, .ref a5, .int (nI mw), .int (nI mr), .ref a6, .int (nI es), .int (nI pn), .ref a7, .ref a8, .int (oI ah), .ref a9, .int (nI fs)]))] H := hP
    have hD : va_D A [(a1, .inl (cI, 6144, .inl (nA dd))), (a6, .inl (cI, 2600, .inl (nA ee))), (a4, .inl (cI, 200, .inl (oA zz))), (a5, .inl (cI, 8000, .inl (nA ll))), (m0, .inr (7, [.int (nI 0), .ref a1, .ref a2, .int (nI vs), .ref a3, .int (nI bs), .int (nI ch), .int (nI mh), .int (nI me), .int (nI mb), .int (nI mn), .ref a4, .ref a5, .int (nI mw), .int (nI mr), .ref a6, .int (nI es), .int (nI pn), .ref a7, .ref a8, .int (oI ah), .ref a9, .int (nI fs)]))] := hD
    refine n_if_eqB (tgt := 25) hx hb d_Mod_spoil_21 (by decide) (fun c_21 => ?_) (fun c_21 => ?_)
    · skip
      refine lv_aload_n hx hb d_Mod_spoil_25 rfl (lv_at hl 0 rfl) ?_
      refine va_get (D := (dC, dI)) (ci := 7) (v := .ref a1) (C := R_Mod) (T := F_Mod) (N := 23) hx hb hts in_Mod hown hK hP 4 rfl rfl 1 (by decide) (hts _ u_667) (fun _ h9 => h9) rfl d_Mod_spoil_26 ?_
      refine lv_iload_n hx hb d_Mod_spoil_29 rfl (lv_at hl 1 rfl) ?_
      refine lv_iload_n hx hb d_Mod_spoil_30 rfl (lv_at hl 2 rfl) ?_
      refine lv_sipush (v := nI 255) hx hb d_Mod_spoil_31 (by decide) ?_
      refine n_iand255 hx hb d_Mod_spoil_34 ?_
      refine n_iast (f' := nA (updN dd o (v.toBitVec.toNat % 256))) hx hb hK hP hD hS 0 0 rfl rfl (nA_upd _ _ _) (by omega) (by omega) d_Mod_spoil_35 (fun H locs hP hD hS => ?_)
      have hP : va_P (dC, dI) CL_ [(a1, .inl (cI, 6144, .inl (nA (updN dd o (v.toBitVec.toNat % 256))))), (a6, .inl (cI, 2600, .inl (nA ee))), (a4, .inl (cI, 200, .inl (oA zz))), (a5, .inl (cI, 8000, .inl (nA ll))), (m0, .inr (7, [.int (nI 0), .ref a1, .ref a2, .int (nI vs), .ref a3, .int (nI bs), .int (nI ch), .int (nI mh), .int (nI me), .int (nI mb), .int (nI mn), .ref a4, .ref a5, .int (nI mw), .int (nI mr), .ref a6, .int (nI es), .int (nI pn), .ref a7, .ref a8, .int (oI ah), .ref a9, .int (nI fs)]))] H := hP
      have hD : va_D A [(a1, .inl (cI, 6144, .inl (nA (updN dd o (v.toBitVec.toNat % 256))))), (a6, .inl (cI, 2600, .inl (nA ee))), (a4, .inl (cI, 200, .inl (oA zz))), (a5, .inl (cI, 8000, .inl (nA ll))), (m0, .inr (7, [.int (nI 0), .ref a1, .ref a2, .int (nI vs), .ref a3, .int (nI bs), .int (nI ch), .int (nI mh), .int (nI me), .int (nI mb), .int (nI mn), .ref a4, .ref a5, .int (nI mw), .int (nI mr), .ref a6, .int (nI es), .int (nI pn), .ref a7, .ref a8, .int (oI ah), .ref a9, .int (nI fs)]))] := hD
      refine lv_aload_n hx hb d_Mod_spoil_36 rfl (lv_at hl 0 rfl) ?_
      refine kj_v (wr := []) (va_runV (As := []) (rest := []) SS (m_read l dC dI cI H.size m0 a1 a2 a3 a4 a5 a6 a7 a8 a9 0 vs bs ch mh me mb mn mw mr es pn ah fs (updN dd o (v.toBitVec.toNat % 256)) ee zz ll (updN_b hdd (Nat.mod_lt _ (by decide))) hee) (k_cwV 0 hts u_638 u_640 u_18 u_43 u_641 rfl rfl (by decide +kernel) ⟨Nat.le_of_ble_eq_true rfl, Nat.le_of_ble_eq_true rfl⟩) (kp_V hN hK [0] rfl hP hD [4, 0, 1, 2, 3] rfl (by decide) (ci := 7) rfl 0 rfl) rfl rfl hl.1 rfl (lv_room (Nat.le_of_ble_eq_true rfl)) d_Mod_spoil_37 ⟨Nat.le_of_ble_eq_true rfl, Nat.le_of_ble_eq_true rfl⟩) hP hD hS hA [4, 0, 1, 2, 3] [] rfl rfl (by decide) (by decide) (fun H locs hP hD hS => ?_)
      have hP : va_P (dC, dI) CL_ [(m0, .inr (7, [.int (nI 0), .ref a1, .ref a2, .int (nI vs), .ref a3, .int (nI bs), .int (nI ch), .int (nI (liveH (updN dd o (v.toBitVec.toNat % 256)))), .int (nI (liveE (updN dd o (v.toBitVec.toNat % 256)))), .int (nI ((mrN (updN dd o (v.toBitVec.toNat % 256)) ee zz ll).2.2.2.2.1)), .int (nI ((mrN (updN dd o (v.toBitVec.toNat % 256)) ee zz ll).2.2.2.2.2)), .ref a4, .ref a5, .int (nI mw), .int (nI mr), .ref a6, .int (nI ((mrN (updN dd o (v.toBitVec.toNat % 256)) ee zz ll).2.1)), .int (nI pn), .ref a7, .ref a8, .int (oI ah), .ref a9, .int (nI fs)])), (a1, .inl (cI, 6144, .inl (nA (updN dd o (v.toBitVec.toNat % 256))))), (a6, .inl (cI, 2600, .inl (nA ((mrN (updN dd o (v.toBitVec.toNat % 256)) ee zz ll).1)))), (a4, .inl (cI, 200, .inl (oA ((mrN (updN dd o (v.toBitVec.toNat % 256)) ee zz ll).2.2.1)))), (a5, .inl (cI, 8000, .inl (nA ((mrN (updN dd o (v.toBitVec.toNat % 256)) ee zz ll).2.2.2.1))))] H := hP
      have hD : va_D A [(m0, .inr (7, [.int (nI 0), .ref a1, .ref a2, .int (nI vs), .ref a3, .int (nI bs), .int (nI ch), .int (nI (liveH (updN dd o (v.toBitVec.toNat % 256)))), .int (nI (liveE (updN dd o (v.toBitVec.toNat % 256)))), .int (nI ((mrN (updN dd o (v.toBitVec.toNat % 256)) ee zz ll).2.2.2.2.1)), .int (nI ((mrN (updN dd o (v.toBitVec.toNat % 256)) ee zz ll).2.2.2.2.2)), .ref a4, .ref a5, .int (nI mw), .int (nI mr), .ref a6, .int (nI ((mrN (updN dd o (v.toBitVec.toNat % 256)) ee zz ll).2.1)), .int (nI pn), .ref a7, .ref a8, .int (oI ah), .ref a9, .int (nI fs)])), (a1, .inl (cI, 6144, .inl (nA (updN dd o (v.toBitVec.toNat % 256))))), (a6, .inl (cI, 2600, .inl (nA ((mrN (updN dd o (v.toBitVec.toNat % 256)) ee zz ll).1)))), (a4, .inl (cI, 200, .inl (oA ((mrN (updN dd o (v.toBitVec.toNat % 256)) ee zz ll).2.2.1)))), (a5, .inl (cI, 8000, .inl (nA ((mrN (updN dd o (v.toBitVec.toNat % 256)) ee zz ll).2.2.2.1))))] := hD
      exact hret _ _ 40 ls d_Mod_spoil_40 (hP.sub [0, 1, 2, 3, 4] rfl) (hD.sub [0, 1, 2, 3, 4] (by decide) rfl) hS
    · exact absurd c_21 (by decide)
  · exact absurd c_9 (by omega)
abbrev rmm_spoil1 : Room := { frames := 1, cells := 0, slots := 0, locals := 22 }
set_option maxHeartbeats 4000000 in
set_option maxRecDepth 100000 in
theorem m_spoil1 (l : Launch) (dC : Nat → ClassId) (dI : Nat → Nat → Nat) (cI : ClassId) (sz : Nat) (m0 : Nat) (a1 : Nat) (a2 : Nat) (a3 : Nat) (a4 : Nat) (a5 : Nat) (a6 : Nat) (a7 : Nat) (a8 : Nat) (a9 : Nat) (th : Nat) (vs : Nat) (bs : Nat) (ch : Nat) (mh : Nat) (me : Nat) (mb : Nat) (mn : Nat) (mw : Nat) (mr : Nat) (es : Nat) (pn : Nat) (ah : Option Nat) (fs : Nat) (x : Int32) (v : Int32) (hx1 : x < 0 ∨ nI 6144 ≤ x) : KV l y_Mod_spoil w_Mod_spoil rmm_spoil1 (dC, dI) CL_ [(cI, .int)] sz [.ref m0, .int x, .int v] [(m0, .inr (7, [.int (nI th), .ref a1, .ref a2, .int (nI vs), .ref a3, .int (nI bs), .int (nI ch), .int (nI mh), .int (nI me), .int (nI mb), .int (nI mn), .ref a4, .ref a5, .int (nI mw), .int (nI mr), .ref a6, .int (nI es), .int (nI pn), .ref a7, .ref a8, .int (oI ah), .ref a9, .int (nI fs)]))] [(m0, .inr (7, [.int (nI 1), .ref a1, .ref a2, .int (nI vs), .ref a3, .int (nI bs), .int (nI ch), .int (nI mh), .int (nI me), .int (nI mb), .int (nI mn), .ref a4, .ref a5, .int (nI mw), .int (nI mr), .ref a6, .int (nI es), .int (nI pn), .ref a7, .ref a8, .int (oI ah), .ref a9, .int (nI fs)]))] := by
  refine k_start_v (cc := b_Mod_spoil) (maxL := 3) (by decide) (Nat.le_of_ble_eq_true rfl) ?_
  intro p e s m args below meth c A QQ ls SS hK hP hD hA hl hN hret
  obtain ⟨hx, hb, hml, hown, hts⟩ := id SS
  have hl : lv_has ls 3 [(0, .ref m0), (1, .int x), (2, .int v)] := hl
  have hS : va_S A s.heap s.heap [] := va_S.rf
  refine lv_aload_n hx hb d_Mod_spoil_0 rfl (lv_at hl 0 rfl) ?_
  refine lv_iload_n hx hb d_Mod_spoil_1 rfl (lv_at hl 1 rfl) ?_
  refine lv_if_lt (tgt := 12) hx hb d_Mod_spoil_2 (by decide) (fun c_2 => ?_) (fun c_2 => ?_)
  · skip
    refine lv_iconst (v := bI true) hx hb d_Mod_spoil_12 (by decide) ?_
    refine lv_goto (tgt := 17) hx hb d_Mod_spoil_13 (by decide) ?_
    refine lv_iconst (v := bI false) hx hb d_Mod_spoil_17 (by decide) ?_
    refine kj_i (wr := []) (va_runV (As := [.int (bI true), .int (bI false)]) (rest := []) SS (m_refuse1 l dC dI cI s.heap.size m0 a1 a2 a3 a4 a5 a6 a7 a8 a9 th vs bs ch mh me mb mn mw mr es pn ah fs false ) (k_cwV 2 hts u_744 u_746 u_25 u_43 u_747 rfl rfl (by decide +kernel) ⟨Nat.le_of_ble_eq_true rfl, Nat.le_of_ble_eq_true rfl⟩) (kp_V hN hK [0] rfl hP hD [0] rfl (by decide) (ci := 7) rfl 0 rfl) rfl rfl hl.1 rfl (lv_room (Nat.le_of_ble_eq_true rfl)) d_Mod_spoil_18 ⟨Nat.le_of_ble_eq_true rfl, Nat.le_of_ble_eq_true rfl⟩) hP hD hS hA [0] [] rfl rfl (by decide) (by decide) (fun H locs hP hD hS => ?_)
    have hP : va_P (dC, dI) CL_ [(m0, .inr (7, [.int (nI 1), .ref a1, .ref a2, .int (nI vs), .ref a3, .int (nI bs), .int (nI ch), .int (nI mh), .int (nI me), .int (nI mb), .int (nI mn), .ref a4, .ref a5, .int (nI mw), .int (nI mr), .ref a6, .int (nI es), .int (nI pn), .ref a7, .ref a8, .int (oI ah), .ref a9, .int (nI fs)]))] H := hP
    have hD : va_D A [(m0, .inr (7, [.int (nI 1), .ref a1, .ref a2, .int (nI vs), .ref a3, .int (nI bs), .int (nI ch), .int (nI mh), .int (nI me), .int (nI mb), .int (nI mn), .ref a4, .ref a5, .int (nI mw), .int (nI mr), .ref a6, .int (nI es), .int (nI pn), .ref a7, .ref a8, .int (oI ah), .ref a9, .int (nI fs)]))] := hD
    refine n_if_eqB (tgt := 25) hx hb d_Mod_spoil_21 (by decide) (fun c_21 => ?_) (fun c_21 => ?_)
    · exact absurd c_21 (by decide)
    · skip
      exact hret _ _ 24 ls d_Mod_spoil_24 (hP.sub [0] rfl) (hD.sub [0] (by decide) rfl) hS
  · skip
    refine lv_iload_n hx hb d_Mod_spoil_5 rfl (lv_at hl 1 rfl) ?_
    refine lv_sipush (v := nI 6144) hx hb d_Mod_spoil_6 (by decide) ?_
    refine lv_icmp_lt (tgt := 16) hx hb d_Mod_spoil_9 (by decide) (fun c_9 => ?_) (fun c_9 => ?_)
    · exact absurd hx1 (fun q => q.elim c_2 (Int32.not_le.mpr c_9))
    · skip
      refine lv_iconst (v := bI true) hx hb d_Mod_spoil_12 (by decide) ?_
      refine lv_goto (tgt := 17) hx hb d_Mod_spoil_13 (by decide) ?_
      refine lv_iconst (v := bI false) hx hb d_Mod_spoil_17 (by decide) ?_
      refine kj_i (wr := []) (va_runV (As := [.int (bI true), .int (bI false)]) (rest := []) SS (m_refuse1 l dC dI cI s.heap.size m0 a1 a2 a3 a4 a5 a6 a7 a8 a9 th vs bs ch mh me mb mn mw mr es pn ah fs false ) (k_cwV 2 hts u_744 u_746 u_25 u_43 u_747 rfl rfl (by decide +kernel) ⟨Nat.le_of_ble_eq_true rfl, Nat.le_of_ble_eq_true rfl⟩) (kp_V hN hK [0] rfl hP hD [0] rfl (by decide) (ci := 7) rfl 0 rfl) rfl rfl hl.1 rfl (lv_room (Nat.le_of_ble_eq_true rfl)) d_Mod_spoil_18 ⟨Nat.le_of_ble_eq_true rfl, Nat.le_of_ble_eq_true rfl⟩) hP hD hS hA [0] [] rfl rfl (by decide) (by decide) (fun H locs hP hD hS => ?_)
      have hP : va_P (dC, dI) CL_ [(m0, .inr (7, [.int (nI 1), .ref a1, .ref a2, .int (nI vs), .ref a3, .int (nI bs), .int (nI ch), .int (nI mh), .int (nI me), .int (nI mb), .int (nI mn), .ref a4, .ref a5, .int (nI mw), .int (nI mr), .ref a6, .int (nI es), .int (nI pn), .ref a7, .ref a8, .int (oI ah), .ref a9, .int (nI fs)]))] H := hP
      have hD : va_D A [(m0, .inr (7, [.int (nI 1), .ref a1, .ref a2, .int (nI vs), .ref a3, .int (nI bs), .int (nI ch), .int (nI mh), .int (nI me), .int (nI mb), .int (nI mn), .ref a4, .ref a5, .int (nI mw), .int (nI mr), .ref a6, .int (nI es), .int (nI pn), .ref a7, .ref a8, .int (oI ah), .ref a9, .int (nI fs)]))] := hD
      refine n_if_eqB (tgt := 25) hx hb d_Mod_spoil_21 (by decide) (fun c_21 => ?_) (fun c_21 => ?_)
      · exact absurd c_21 (by decide)
      · skip
        exact hret _ _ 24 ls d_Mod_spoil_24 (hP.sub [0] rfl) (hD.sub [0] (by decide) rfl) hS
abbrev rmm_size : Room := { frames := 1, cells := 0, slots := 0, locals := 22 }
set_option maxHeartbeats 4000000 in
set_option maxRecDepth 100000 in
theorem m_size (l : Launch) (dC : Nat → ClassId) (dI : Nat → Nat → Nat) (cI : ClassId) (sz : Nat) (m0 : Nat) (a1 : Nat) (a2 : Nat) (a3 : Nat) (a4 : Nat) (a5 : Nat) (a6 : Nat) (a7 : Nat) (a8 : Nat) (a9 : Nat) (th : Nat) (vs : Nat) (bs : Nat) (ch : Nat) (mh : Nat) (me : Nat) (mb : Nat) (mn : Nat) (mw : Nat) (mr : Nat) (es : Nat) (pn : Nat) (ah : Option Nat) (fs : Nat) (zz : Nat → Option Nat) (k : Nat) (hk : k < 200) : KI l y_Mod_size w_Mod_size rmm_size (dC, dI) CL_ [(cI, .int)] sz [.ref m0, .int (nI k)] [(m0, .inr (7, [.int (nI th), .ref a1, .ref a2, .int (nI vs), .ref a3, .int (nI bs), .int (nI ch), .int (nI mh), .int (nI me), .int (nI mb), .int (nI mn), .ref a4, .ref a5, .int (nI mw), .int (nI mr), .ref a6, .int (nI es), .int (nI pn), .ref a7, .ref a8, .int (oI ah), .ref a9, .int (nI fs)])), (a4, .inl (cI, 200, .inl (oA zz)))] [(m0, .inr (7, [.int (nI 0), .ref a1, .ref a2, .int (nI vs), .ref a3, .int (nI bs), .int (nI ch), .int (nI mh), .int (nI me), .int (nI mb), .int (nI mn), .ref a4, .ref a5, .int (nI mw), .int (nI mr), .ref a6, .int (nI es), .int (nI pn), .ref a7, .ref a8, .int (oI ah), .ref a9, .int (nI fs)])), (a4, .inl (cI, 200, .inl (oA zz)))] (oI (zz k)) := by
  refine k_start_i (cc := b_Mod_size) (maxL := 2) (by decide) (Nat.le_of_ble_eq_true rfl) ?_
  intro p e s m args below meth c A QQ ls SS hK hP hD hA hl hN hret
  obtain ⟨hx, hb, hml, hown, hts⟩ := id SS
  have hl : lv_has ls 2 [(0, .ref m0), (1, .int (nI k))] := hl
  have hS : va_S A s.heap s.heap [] := va_S.rf
  refine lv_aload_n hx hb d_Mod_size_0 rfl (lv_at hl 0 rfl) ?_
  refine lv_iload_n hx hb d_Mod_size_1 rfl (lv_at hl 1 rfl) ?_
  refine n_if_lt (tgt := 12) hx hb d_Mod_size_2 (by decide) (by omega) ?_
  refine lv_iload_n hx hb d_Mod_size_5 rfl (lv_at hl 1 rfl) ?_
  refine lv_sipush (v := nI 199) hx hb d_Mod_size_6 (by decide) ?_
  refine n_icmp_le (tgt := 16) hx hb d_Mod_size_9 (by decide) (by omega) (by omega) (fun c_9 => ?_) (fun c_9 => ?_)
  · skip
    refine lv_iconst (v := bI false) hx hb d_Mod_size_16 (by decide) ?_
    refine lv_iconst (v := bI false) hx hb d_Mod_size_17 (by decide) ?_
    refine kj_i (wr := [(a4, .inl (cI, 200, .inl (oA zz)))]) (va_runV (As := [.int (bI false), .int (bI false)]) (rest := []) SS (m_refuse0 l dC dI cI s.heap.size m0 a1 a2 a3 a4 a5 a6 a7 a8 a9 th vs bs ch mh me mb mn mw mr es pn ah fs ) (k_cwV 2 hts u_744 u_746 u_25 u_43 u_747 rfl rfl (by decide +kernel) ⟨Nat.le_of_ble_eq_true rfl, Nat.le_of_ble_eq_true rfl⟩) (kp_V hN hK [0] rfl hP hD [0] rfl (by decide) (ci := 7) rfl 0 rfl) rfl rfl hl.1 rfl (lv_room (Nat.le_of_ble_eq_true rfl)) d_Mod_size_18 ⟨Nat.le_of_ble_eq_true rfl, Nat.le_of_ble_eq_true rfl⟩) hP hD hS hA [0] [1] rfl rfl (by decide) (by decide) (fun H locs hP hD hS => ?_)
    have hP : va_P (dC, dI) CL_ [(a4, .inl (cI, 200, .inl (oA zz))), (m0, .inr (7, [.int (nI 0), .ref a1, .ref a2, .int (nI vs), .ref a3, .int (nI bs), .int (nI ch), .int (nI mh), .int (nI me), .int (nI mb), .int (nI mn), .ref a4, .ref a5, .int (nI mw), .int (nI mr), .ref a6, .int (nI es), .int (nI pn), .ref a7, .ref a8, .int (oI ah), .ref a9, .int (nI fs)]))] H := hP
    have hD : va_D A [(a4, .inl (cI, 200, .inl (oA zz))), (m0, .inr (7, [.int (nI 0), .ref a1, .ref a2, .int (nI vs), .ref a3, .int (nI bs), .int (nI ch), .int (nI mh), .int (nI me), .int (nI mb), .int (nI mn), .ref a4, .ref a5, .int (nI mw), .int (nI mr), .ref a6, .int (nI es), .int (nI pn), .ref a7, .ref a8, .int (oI ah), .ref a9, .int (nI fs)]))] := hD
    refine n_if_eqB (tgt := 26) hx hb d_Mod_size_21 (by decide) (fun c_21 => ?_) (fun c_21 => ?_)
    · skip
      refine lv_aload_n hx hb d_Mod_size_26 rfl (lv_at hl 0 rfl) ?_
      refine va_get (D := (dC, dI)) (ci := 7) (v := .ref a4) (C := R_Mod) (T := F_Mod) (N := 23) hx hb hts in_Mod hown hK hP 1 rfl rfl 11 (by decide) (hts _ u_677) (fun _ h9 => h9) rfl d_Mod_size_27 ?_
      refine lv_iload_n hx hb d_Mod_size_30 rfl (lv_at hl 1 rfl) ?_
      refine n_iald (v := oI (zz k)) hx hb hK hP 0 0 rfl rfl rfl (by omega) (by omega) d_Mod_size_31 ?_
      exact hret (oI (zz k)) _ _ 32 ls d_Mod_size_32 (hP.sub [1, 0] rfl) (hD.sub [1, 0] (by decide) rfl) hS rfl
    · exact absurd c_21 (by decide)
  · exact absurd c_9 (by omega)
abbrev rmm_size1 : Room := { frames := 1, cells := 0, slots := 0, locals := 22 }
set_option maxHeartbeats 4000000 in
set_option maxRecDepth 100000 in
theorem m_size1 (l : Launch) (dC : Nat → ClassId) (dI : Nat → Nat → Nat) (cI : ClassId) (sz : Nat) (m0 : Nat) (a1 : Nat) (a2 : Nat) (a3 : Nat) (a4 : Nat) (a5 : Nat) (a6 : Nat) (a7 : Nat) (a8 : Nat) (a9 : Nat) (th : Nat) (vs : Nat) (bs : Nat) (ch : Nat) (mh : Nat) (me : Nat) (mb : Nat) (mn : Nat) (mw : Nat) (mr : Nat) (es : Nat) (pn : Nat) (ah : Option Nat) (fs : Nat) (x : Int32) (hx1 : x < 0 ∨ nI 199 < x) : KI l y_Mod_size w_Mod_size rmm_size1 (dC, dI) CL_ [(cI, .int)] sz [.ref m0, .int x] [(m0, .inr (7, [.int (nI th), .ref a1, .ref a2, .int (nI vs), .ref a3, .int (nI bs), .int (nI ch), .int (nI mh), .int (nI me), .int (nI mb), .int (nI mn), .ref a4, .ref a5, .int (nI mw), .int (nI mr), .ref a6, .int (nI es), .int (nI pn), .ref a7, .ref a8, .int (oI ah), .ref a9, .int (nI fs)]))] [(m0, .inr (7, [.int (nI 1), .ref a1, .ref a2, .int (nI vs), .ref a3, .int (nI bs), .int (nI ch), .int (nI mh), .int (nI me), .int (nI mb), .int (nI mn), .ref a4, .ref a5, .int (nI mw), .int (nI mr), .ref a6, .int (nI es), .int (nI pn), .ref a7, .ref a8, .int (oI ah), .ref a9, .int (nI fs)]))] (nI 0) := by
  refine k_start_i (cc := b_Mod_size) (maxL := 2) (by decide) (Nat.le_of_ble_eq_true rfl) ?_
  intro p e s m args below meth c A QQ ls SS hK hP hD hA hl hN hret
  obtain ⟨hx, hb, hml, hown, hts⟩ := id SS
  have hl : lv_has ls 2 [(0, .ref m0), (1, .int x)] := hl
  have hS : va_S A s.heap s.heap [] := va_S.rf
  refine lv_aload_n hx hb d_Mod_size_0 rfl (lv_at hl 0 rfl) ?_
  refine lv_iload_n hx hb d_Mod_size_1 rfl (lv_at hl 1 rfl) ?_
  refine lv_if_lt (tgt := 12) hx hb d_Mod_size_2 (by decide) (fun c_2 => ?_) (fun c_2 => ?_)
  · skip
    refine lv_iconst (v := bI true) hx hb d_Mod_size_12 (by decide) ?_
    refine lv_goto (tgt := 17) hx hb d_Mod_size_13 (by decide) ?_
    refine lv_iconst (v := bI false) hx hb d_Mod_size_17 (by decide) ?_
    refine kj_i (wr := []) (va_runV (As := [.int (bI true), .int (bI false)]) (rest := []) SS (m_refuse1 l dC dI cI s.heap.size m0 a1 a2 a3 a4 a5 a6 a7 a8 a9 th vs bs ch mh me mb mn mw mr es pn ah fs false ) (k_cwV 2 hts u_744 u_746 u_25 u_43 u_747 rfl rfl (by decide +kernel) ⟨Nat.le_of_ble_eq_true rfl, Nat.le_of_ble_eq_true rfl⟩) (kp_V hN hK [0] rfl hP hD [0] rfl (by decide) (ci := 7) rfl 0 rfl) rfl rfl hl.1 rfl (lv_room (Nat.le_of_ble_eq_true rfl)) d_Mod_size_18 ⟨Nat.le_of_ble_eq_true rfl, Nat.le_of_ble_eq_true rfl⟩) hP hD hS hA [0] [] rfl rfl (by decide) (by decide) (fun H locs hP hD hS => ?_)
    have hP : va_P (dC, dI) CL_ [(m0, .inr (7, [.int (nI 1), .ref a1, .ref a2, .int (nI vs), .ref a3, .int (nI bs), .int (nI ch), .int (nI mh), .int (nI me), .int (nI mb), .int (nI mn), .ref a4, .ref a5, .int (nI mw), .int (nI mr), .ref a6, .int (nI es), .int (nI pn), .ref a7, .ref a8, .int (oI ah), .ref a9, .int (nI fs)]))] H := hP
    have hD : va_D A [(m0, .inr (7, [.int (nI 1), .ref a1, .ref a2, .int (nI vs), .ref a3, .int (nI bs), .int (nI ch), .int (nI mh), .int (nI me), .int (nI mb), .int (nI mn), .ref a4, .ref a5, .int (nI mw), .int (nI mr), .ref a6, .int (nI es), .int (nI pn), .ref a7, .ref a8, .int (oI ah), .ref a9, .int (nI fs)]))] := hD
    refine n_if_eqB (tgt := 26) hx hb d_Mod_size_21 (by decide) (fun c_21 => ?_) (fun c_21 => ?_)
    · exact absurd c_21 (by decide)
    · skip
      refine lv_iconst (v := nI 0) hx hb d_Mod_size_24 (by decide) ?_
      exact hret (nI 0) _ _ 25 ls d_Mod_size_25 (hP.sub [0] rfl) (hD.sub [0] (by decide) rfl) hS rfl
  · skip
    refine lv_iload_n hx hb d_Mod_size_5 rfl (lv_at hl 1 rfl) ?_
    refine lv_sipush (v := nI 199) hx hb d_Mod_size_6 (by decide) ?_
    refine lv_icmp_le (tgt := 16) hx hb d_Mod_size_9 (by decide) (fun c_9 => ?_) (fun c_9 => ?_)
    · exact absurd hx1 (fun q => q.elim c_2 (Int32.not_lt.mpr c_9))
    · skip
      refine lv_iconst (v := bI true) hx hb d_Mod_size_12 (by decide) ?_
      refine lv_goto (tgt := 17) hx hb d_Mod_size_13 (by decide) ?_
      refine lv_iconst (v := bI false) hx hb d_Mod_size_17 (by decide) ?_
      refine kj_i (wr := []) (va_runV (As := [.int (bI true), .int (bI false)]) (rest := []) SS (m_refuse1 l dC dI cI s.heap.size m0 a1 a2 a3 a4 a5 a6 a7 a8 a9 th vs bs ch mh me mb mn mw mr es pn ah fs false ) (k_cwV 2 hts u_744 u_746 u_25 u_43 u_747 rfl rfl (by decide +kernel) ⟨Nat.le_of_ble_eq_true rfl, Nat.le_of_ble_eq_true rfl⟩) (kp_V hN hK [0] rfl hP hD [0] rfl (by decide) (ci := 7) rfl 0 rfl) rfl rfl hl.1 rfl (lv_room (Nat.le_of_ble_eq_true rfl)) d_Mod_size_18 ⟨Nat.le_of_ble_eq_true rfl, Nat.le_of_ble_eq_true rfl⟩) hP hD hS hA [0] [] rfl rfl (by decide) (by decide) (fun H locs hP hD hS => ?_)
      have hP : va_P (dC, dI) CL_ [(m0, .inr (7, [.int (nI 1), .ref a1, .ref a2, .int (nI vs), .ref a3, .int (nI bs), .int (nI ch), .int (nI mh), .int (nI me), .int (nI mb), .int (nI mn), .ref a4, .ref a5, .int (nI mw), .int (nI mr), .ref a6, .int (nI es), .int (nI pn), .ref a7, .ref a8, .int (oI ah), .ref a9, .int (nI fs)]))] H := hP
      have hD : va_D A [(m0, .inr (7, [.int (nI 1), .ref a1, .ref a2, .int (nI vs), .ref a3, .int (nI bs), .int (nI ch), .int (nI mh), .int (nI me), .int (nI mb), .int (nI mn), .ref a4, .ref a5, .int (nI mw), .int (nI mr), .ref a6, .int (nI es), .int (nI pn), .ref a7, .ref a8, .int (oI ah), .ref a9, .int (nI fs)]))] := hD
      refine n_if_eqB (tgt := 26) hx hb d_Mod_size_21 (by decide) (fun c_21 => ?_) (fun c_21 => ?_)
      · exact absurd c_21 (by decide)
      · skip
        refine lv_iconst (v := nI 0) hx hb d_Mod_size_24 (by decide) ?_
        exact hret (nI 0) _ _ 25 ls d_Mod_size_25 (hP.sub [0] rfl) (hD.sub [0] (by decide) rfl) hS rfl
abbrev rmm_get : Room := { frames := 1, cells := 0, slots := 0, locals := 22 }
set_option maxHeartbeats 4000000 in
set_option maxRecDepth 100000 in
theorem m_get (l : Launch) (dC : Nat → ClassId) (dI : Nat → Nat → Nat) (cI : ClassId) (sz : Nat) (m0 : Nat) (a1 : Nat) (a2 : Nat) (a3 : Nat) (a4 : Nat) (a5 : Nat) (a6 : Nat) (a7 : Nat) (a8 : Nat) (a9 : Nat) (th : Nat) (vs : Nat) (bs : Nat) (ch : Nat) (mh : Nat) (me : Nat) (mb : Nat) (mn : Nat) (mw : Nat) (mr : Nat) (es : Nat) (pn : Nat) (ah : Option Nat) (fs : Nat) (zz : Nat → Option Nat) (ll : Nat → Nat) (k : Nat) (j : Nat) (nz : Nat) (hk : k < 200) (hz : zz k = some nz) (hj : j < nz) (hn40 : nz ≤ 40) : KI l y_Mod_get w_Mod_get rmm_get (dC, dI) CL_ [(cI, .int)] sz [.ref m0, .int (nI k), .int (nI j)] [(m0, .inr (7, [.int (nI th), .ref a1, .ref a2, .int (nI vs), .ref a3, .int (nI bs), .int (nI ch), .int (nI mh), .int (nI me), .int (nI mb), .int (nI mn), .ref a4, .ref a5, .int (nI mw), .int (nI mr), .ref a6, .int (nI es), .int (nI pn), .ref a7, .ref a8, .int (oI ah), .ref a9, .int (nI fs)])), (a4, .inl (cI, 200, .inl (oA zz))), (a5, .inl (cI, 8000, .inl (nA ll)))] [(m0, .inr (7, [.int (nI 0), .ref a1, .ref a2, .int (nI vs), .ref a3, .int (nI bs), .int (nI ch), .int (nI mh), .int (nI me), .int (nI mb), .int (nI mn), .ref a4, .ref a5, .int (nI mw), .int (nI mr), .ref a6, .int (nI es), .int (nI pn), .ref a7, .ref a8, .int (oI ah), .ref a9, .int (nI fs)])), (a4, .inl (cI, 200, .inl (oA zz))), (a5, .inl (cI, 8000, .inl (nA ll)))] (nI (ll (40 * k + j))) := by
  refine k_start_i (cc := b_Mod_get) (maxL := 3) (by decide) (Nat.le_of_ble_eq_true rfl) ?_
  intro p e s m args below meth c A QQ ls SS hK hP hD hA hl hN hret
  obtain ⟨hx, hb, hml, hown, hts⟩ := id SS
  have hl : lv_has ls 3 [(0, .ref m0), (1, .int (nI k)), (2, .int (nI j))] := hl
  have hS : va_S A s.heap s.heap [] := va_S.rf
  refine lv_aload_n hx hb d_Mod_get_0 rfl (lv_at hl 0 rfl) ?_
  refine lv_iload_n hx hb d_Mod_get_1 rfl (lv_at hl 1 rfl) ?_
  refine n_if_lt (tgt := 12) hx hb d_Mod_get_2 (by decide) (by omega) ?_
  refine lv_iload_n hx hb d_Mod_get_5 rfl (lv_at hl 1 rfl) ?_
  refine lv_sipush (v := nI 199) hx hb d_Mod_get_6 (by decide) ?_
  refine n_icmp_le (tgt := 16) hx hb d_Mod_get_9 (by decide) (by omega) (by omega) (fun c_9 => ?_) (fun c_9 => ?_)
  · skip
    refine lv_iconst (v := bI false) hx hb d_Mod_get_16 (by decide) ?_
    refine lv_iconst (v := bI false) hx hb d_Mod_get_17 (by decide) ?_
    refine kj_i (wr := [(a4, .inl (cI, 200, .inl (oA zz))), (a5, .inl (cI, 8000, .inl (nA ll)))]) (va_runV (As := [.int (bI false), .int (bI false)]) (rest := []) SS (m_refuse0 l dC dI cI s.heap.size m0 a1 a2 a3 a4 a5 a6 a7 a8 a9 th vs bs ch mh me mb mn mw mr es pn ah fs ) (k_cwV 2 hts u_744 u_746 u_25 u_43 u_747 rfl rfl (by decide +kernel) ⟨Nat.le_of_ble_eq_true rfl, Nat.le_of_ble_eq_true rfl⟩) (kp_V hN hK [0] rfl hP hD [0] rfl (by decide) (ci := 7) rfl 0 rfl) rfl rfl hl.1 rfl (lv_room (Nat.le_of_ble_eq_true rfl)) d_Mod_get_18 ⟨Nat.le_of_ble_eq_true rfl, Nat.le_of_ble_eq_true rfl⟩) hP hD hS hA [0] [1, 2] rfl rfl (by decide) (by decide) (fun H locs hP hD hS => ?_)
    have hP : va_P (dC, dI) CL_ [(a4, .inl (cI, 200, .inl (oA zz))), (a5, .inl (cI, 8000, .inl (nA ll))), (m0, .inr (7, [.int (nI 0), .ref a1, .ref a2, .int (nI vs), .ref a3, .int (nI bs), .int (nI ch), .int (nI mh), .int (nI me), .int (nI mb), .int (nI mn), .ref a4, .ref a5, .int (nI mw), .int (nI mr), .ref a6, .int (nI es), .int (nI pn), .ref a7, .ref a8, .int (oI ah), .ref a9, .int (nI fs)]))] H := hP
    have hD : va_D A [(a4, .inl (cI, 200, .inl (oA zz))), (a5, .inl (cI, 8000, .inl (nA ll))), (m0, .inr (7, [.int (nI 0), .ref a1, .ref a2, .int (nI vs), .ref a3, .int (nI bs), .int (nI ch), .int (nI mh), .int (nI me), .int (nI mb), .int (nI mn), .ref a4, .ref a5, .int (nI mw), .int (nI mr), .ref a6, .int (nI es), .int (nI pn), .ref a7, .ref a8, .int (oI ah), .ref a9, .int (nI fs)]))] := hD
    refine n_if_eqB (tgt := 26) hx hb d_Mod_get_21 (by decide) (fun c_21 => ?_) (fun c_21 => ?_)
    · skip
      refine lv_aload_n hx hb d_Mod_get_26 rfl (lv_at hl 0 rfl) ?_
      refine lv_iconst (v := bI false) hx hb d_Mod_get_27 (by decide) ?_
      refine lv_iload_n hx hb d_Mod_get_28 rfl (lv_at hl 2 rfl) ?_
      refine n_if_lt (tgt := 42) hx hb d_Mod_get_29 (by decide) (by omega) ?_
      refine lv_iload_n hx hb d_Mod_get_32 rfl (lv_at hl 2 rfl) ?_
      refine lv_aload_n hx hb d_Mod_get_33 rfl (lv_at hl 0 rfl) ?_
      refine va_get (D := (dC, dI)) (ci := 7) (v := .ref a4) (C := R_Mod) (T := F_Mod) (N := 23) hx hb hts in_Mod hown hK hP 2 rfl rfl 11 (by decide) (hts _ u_677) (fun _ h9 => h9) rfl d_Mod_get_34 ?_
      refine lv_iload_n hx hb d_Mod_get_37 rfl (lv_at hl 1 rfl) ?_
      refine n_iald (v := oI (zz k)) hx hb hK hP 0 0 rfl rfl rfl (by omega) (by omega) d_Mod_get_38 ?_
      refine top_i (nI nz) (by exact congrArg oI hz) ?_
      refine n_icmp_lt (tgt := 46) hx hb d_Mod_get_39 (by decide) (by omega) (by omega) (fun c_39 => ?_) (fun c_39 => ?_)
      · skip
        refine lv_iconst (v := bI false) hx hb d_Mod_get_46 (by decide) ?_
        refine kj_i (wr := [(a4, .inl (cI, 200, .inl (oA zz))), (a5, .inl (cI, 8000, .inl (nA ll)))]) (va_runV (As := [.int (bI false), .int (bI false)]) (rest := []) SS (m_refuse0 l dC dI cI H.size m0 a1 a2 a3 a4 a5 a6 a7 a8 a9 0 vs bs ch mh me mb mn mw mr es pn ah fs ) (k_cwV 2 hts u_744 u_746 u_25 u_43 u_747 rfl rfl (by decide +kernel) ⟨Nat.le_of_ble_eq_true rfl, Nat.le_of_ble_eq_true rfl⟩) (kp_V hN hK [0] rfl hP hD [2] rfl (by decide) (ci := 7) rfl 0 rfl) rfl rfl hl.1 rfl (lv_room (Nat.le_of_ble_eq_true rfl)) d_Mod_get_47 ⟨Nat.le_of_ble_eq_true rfl, Nat.le_of_ble_eq_true rfl⟩) hP hD hS hA [2] [0, 1] rfl rfl (by decide) (by decide) (fun H locs hP hD hS => ?_)
        have hP : va_P (dC, dI) CL_ [(a4, .inl (cI, 200, .inl (oA zz))), (a5, .inl (cI, 8000, .inl (nA ll))), (m0, .inr (7, [.int (nI 0), .ref a1, .ref a2, .int (nI vs), .ref a3, .int (nI bs), .int (nI ch), .int (nI mh), .int (nI me), .int (nI mb), .int (nI mn), .ref a4, .ref a5, .int (nI mw), .int (nI mr), .ref a6, .int (nI es), .int (nI pn), .ref a7, .ref a8, .int (oI ah), .ref a9, .int (nI fs)]))] H := hP
        have hD : va_D A [(a4, .inl (cI, 200, .inl (oA zz))), (a5, .inl (cI, 8000, .inl (nA ll))), (m0, .inr (7, [.int (nI 0), .ref a1, .ref a2, .int (nI vs), .ref a3, .int (nI bs), .int (nI ch), .int (nI mh), .int (nI me), .int (nI mb), .int (nI mn), .ref a4, .ref a5, .int (nI mw), .int (nI mr), .ref a6, .int (nI es), .int (nI pn), .ref a7, .ref a8, .int (oI ah), .ref a9, .int (nI fs)]))] := hD
        refine n_if_eqB (tgt := 55) hx hb d_Mod_get_50 (by decide) (fun c_50 => ?_) (fun c_50 => ?_)
        · skip
          refine lv_aload_n hx hb d_Mod_get_55 rfl (lv_at hl 0 rfl) ?_
          refine va_get (D := (dC, dI)) (ci := 7) (v := .ref a5) (C := R_Mod) (T := F_Mod) (N := 23) hx hb hts in_Mod hown hK hP 2 rfl rfl 12 (by decide) (hts _ u_678) (fun _ h9 => h9) rfl d_Mod_get_56 ?_
          refine lv_bipush (v := nI 40) hx hb d_Mod_get_59 (by decide) ?_
          refine lv_iload_n hx hb d_Mod_get_61 rfl (lv_at hl 1 rfl) ?_
          refine n_imul hx hb d_Mod_get_62 ?_
          refine lv_iload_n hx hb d_Mod_get_63 rfl (lv_at hl 2 rfl) ?_
          refine n_iadd hx hb d_Mod_get_64 ?_
          refine n_iald (v := nI (ll ((40 * k) + j))) hx hb hK hP 1 0 rfl rfl rfl (by omega) (by omega) d_Mod_get_65 ?_
          exact hret (nI (ll ((40 * k) + j))) _ _ 66 ls d_Mod_get_66 (hP.sub [2, 0, 1] rfl) (hD.sub [2, 0, 1] (by decide) rfl) hS rfl
        · exact absurd c_50 (by decide)
      · exact absurd c_39 (by omega)
    · exact absurd c_21 (by decide)
  · exact absurd c_9 (by omega)
abbrev rmm_get1 : Room := { frames := 1, cells := 0, slots := 0, locals := 22 }
set_option maxHeartbeats 4000000 in
set_option maxRecDepth 100000 in
theorem m_get1 (l : Launch) (dC : Nat → ClassId) (dI : Nat → Nat → Nat) (cI : ClassId) (sz : Nat) (m0 : Nat) (a1 : Nat) (a2 : Nat) (a3 : Nat) (a4 : Nat) (a5 : Nat) (a6 : Nat) (a7 : Nat) (a8 : Nat) (a9 : Nat) (th : Nat) (vs : Nat) (bs : Nat) (ch : Nat) (mh : Nat) (me : Nat) (mb : Nat) (mn : Nat) (mw : Nat) (mr : Nat) (es : Nat) (pn : Nat) (ah : Option Nat) (fs : Nat) (x : Int32) (y : Int32) (hx1 : x < 0 ∨ nI 199 < x) : KI l y_Mod_get w_Mod_get rmm_get1 (dC, dI) CL_ [(cI, .int)] sz [.ref m0, .int x, .int y] [(m0, .inr (7, [.int (nI th), .ref a1, .ref a2, .int (nI vs), .ref a3, .int (nI bs), .int (nI ch), .int (nI mh), .int (nI me), .int (nI mb), .int (nI mn), .ref a4, .ref a5, .int (nI mw), .int (nI mr), .ref a6, .int (nI es), .int (nI pn), .ref a7, .ref a8, .int (oI ah), .ref a9, .int (nI fs)]))] [(m0, .inr (7, [.int (nI 1), .ref a1, .ref a2, .int (nI vs), .ref a3, .int (nI bs), .int (nI ch), .int (nI mh), .int (nI me), .int (nI mb), .int (nI mn), .ref a4, .ref a5, .int (nI mw), .int (nI mr), .ref a6, .int (nI es), .int (nI pn), .ref a7, .ref a8, .int (oI ah), .ref a9, .int (nI fs)]))] (nI 0) := by
  refine k_start_i (cc := b_Mod_get) (maxL := 3) (by decide) (Nat.le_of_ble_eq_true rfl) ?_
  intro p e s m args below meth c A QQ ls SS hK hP hD hA hl hN hret
  obtain ⟨hx, hb, hml, hown, hts⟩ := id SS
  have hl : lv_has ls 3 [(0, .ref m0), (1, .int x), (2, .int y)] := hl
  have hS : va_S A s.heap s.heap [] := va_S.rf
  refine lv_aload_n hx hb d_Mod_get_0 rfl (lv_at hl 0 rfl) ?_
  refine lv_iload_n hx hb d_Mod_get_1 rfl (lv_at hl 1 rfl) ?_
  refine lv_if_lt (tgt := 12) hx hb d_Mod_get_2 (by decide) (fun c_2 => ?_) (fun c_2 => ?_)
  · skip
    refine lv_iconst (v := bI true) hx hb d_Mod_get_12 (by decide) ?_
    refine lv_goto (tgt := 17) hx hb d_Mod_get_13 (by decide) ?_
    refine lv_iconst (v := bI false) hx hb d_Mod_get_17 (by decide) ?_
    refine kj_i (wr := []) (va_runV (As := [.int (bI true), .int (bI false)]) (rest := []) SS (m_refuse1 l dC dI cI s.heap.size m0 a1 a2 a3 a4 a5 a6 a7 a8 a9 th vs bs ch mh me mb mn mw mr es pn ah fs false ) (k_cwV 2 hts u_744 u_746 u_25 u_43 u_747 rfl rfl (by decide +kernel) ⟨Nat.le_of_ble_eq_true rfl, Nat.le_of_ble_eq_true rfl⟩) (kp_V hN hK [0] rfl hP hD [0] rfl (by decide) (ci := 7) rfl 0 rfl) rfl rfl hl.1 rfl (lv_room (Nat.le_of_ble_eq_true rfl)) d_Mod_get_18 ⟨Nat.le_of_ble_eq_true rfl, Nat.le_of_ble_eq_true rfl⟩) hP hD hS hA [0] [] rfl rfl (by decide) (by decide) (fun H locs hP hD hS => ?_)
    have hP : va_P (dC, dI) CL_ [(m0, .inr (7, [.int (nI 1), .ref a1, .ref a2, .int (nI vs), .ref a3, .int (nI bs), .int (nI ch), .int (nI mh), .int (nI me), .int (nI mb), .int (nI mn), .ref a4, .ref a5, .int (nI mw), .int (nI mr), .ref a6, .int (nI es), .int (nI pn), .ref a7, .ref a8, .int (oI ah), .ref a9, .int (nI fs)]))] H := hP
    have hD : va_D A [(m0, .inr (7, [.int (nI 1), .ref a1, .ref a2, .int (nI vs), .ref a3, .int (nI bs), .int (nI ch), .int (nI mh), .int (nI me), .int (nI mb), .int (nI mn), .ref a4, .ref a5, .int (nI mw), .int (nI mr), .ref a6, .int (nI es), .int (nI pn), .ref a7, .ref a8, .int (oI ah), .ref a9, .int (nI fs)]))] := hD
    refine n_if_eqB (tgt := 26) hx hb d_Mod_get_21 (by decide) (fun c_21 => ?_) (fun c_21 => ?_)
    · exact absurd c_21 (by decide)
    · skip
      refine lv_iconst (v := nI 0) hx hb d_Mod_get_24 (by decide) ?_
      exact hret (nI 0) _ _ 25 ls d_Mod_get_25 (hP.sub [0] rfl) (hD.sub [0] (by decide) rfl) hS rfl
  · skip
    refine lv_iload_n hx hb d_Mod_get_5 rfl (lv_at hl 1 rfl) ?_
    refine lv_sipush (v := nI 199) hx hb d_Mod_get_6 (by decide) ?_
    refine lv_icmp_le (tgt := 16) hx hb d_Mod_get_9 (by decide) (fun c_9 => ?_) (fun c_9 => ?_)
    · exact absurd hx1 (fun q => q.elim c_2 (Int32.not_lt.mpr c_9))
    · skip
      refine lv_iconst (v := bI true) hx hb d_Mod_get_12 (by decide) ?_
      refine lv_goto (tgt := 17) hx hb d_Mod_get_13 (by decide) ?_
      refine lv_iconst (v := bI false) hx hb d_Mod_get_17 (by decide) ?_
      refine kj_i (wr := []) (va_runV (As := [.int (bI true), .int (bI false)]) (rest := []) SS (m_refuse1 l dC dI cI s.heap.size m0 a1 a2 a3 a4 a5 a6 a7 a8 a9 th vs bs ch mh me mb mn mw mr es pn ah fs false ) (k_cwV 2 hts u_744 u_746 u_25 u_43 u_747 rfl rfl (by decide +kernel) ⟨Nat.le_of_ble_eq_true rfl, Nat.le_of_ble_eq_true rfl⟩) (kp_V hN hK [0] rfl hP hD [0] rfl (by decide) (ci := 7) rfl 0 rfl) rfl rfl hl.1 rfl (lv_room (Nat.le_of_ble_eq_true rfl)) d_Mod_get_18 ⟨Nat.le_of_ble_eq_true rfl, Nat.le_of_ble_eq_true rfl⟩) hP hD hS hA [0] [] rfl rfl (by decide) (by decide) (fun H locs hP hD hS => ?_)
      have hP : va_P (dC, dI) CL_ [(m0, .inr (7, [.int (nI 1), .ref a1, .ref a2, .int (nI vs), .ref a3, .int (nI bs), .int (nI ch), .int (nI mh), .int (nI me), .int (nI mb), .int (nI mn), .ref a4, .ref a5, .int (nI mw), .int (nI mr), .ref a6, .int (nI es), .int (nI pn), .ref a7, .ref a8, .int (oI ah), .ref a9, .int (nI fs)]))] H := hP
      have hD : va_D A [(m0, .inr (7, [.int (nI 1), .ref a1, .ref a2, .int (nI vs), .ref a3, .int (nI bs), .int (nI ch), .int (nI mh), .int (nI me), .int (nI mb), .int (nI mn), .ref a4, .ref a5, .int (nI mw), .int (nI mr), .ref a6, .int (nI es), .int (nI pn), .ref a7, .ref a8, .int (oI ah), .ref a9, .int (nI fs)]))] := hD
      refine n_if_eqB (tgt := 26) hx hb d_Mod_get_21 (by decide) (fun c_21 => ?_) (fun c_21 => ?_)
      · exact absurd c_21 (by decide)
      · skip
        refine lv_iconst (v := nI 0) hx hb d_Mod_get_24 (by decide) ?_
        exact hret (nI 0) _ _ 25 ls d_Mod_get_25 (hP.sub [0] rfl) (hD.sub [0] (by decide) rfl) hS rfl
abbrev rmm_get2a : Room := { frames := 1, cells := 0, slots := 0, locals := 22 }
set_option maxHeartbeats 4000000 in
set_option maxRecDepth 100000 in
theorem m_get2a (l : Launch) (dC : Nat → ClassId) (dI : Nat → Nat → Nat) (cI : ClassId) (sz : Nat) (m0 : Nat) (a1 : Nat) (a2 : Nat) (a3 : Nat) (a4 : Nat) (a5 : Nat) (a6 : Nat) (a7 : Nat) (a8 : Nat) (a9 : Nat) (th : Nat) (vs : Nat) (bs : Nat) (ch : Nat) (mh : Nat) (me : Nat) (mb : Nat) (mn : Nat) (mw : Nat) (mr : Nat) (es : Nat) (pn : Nat) (ah : Option Nat) (fs : Nat) (zz : Nat → Option Nat) (ll : Nat → Nat) (k : Nat) (y : Int32) (hk : k < 200) (hy : y < 0) : KI l y_Mod_get w_Mod_get rmm_get2a (dC, dI) CL_ [(cI, .int)] sz [.ref m0, .int (nI k), .int y] [(m0, .inr (7, [.int (nI th), .ref a1, .ref a2, .int (nI vs), .ref a3, .int (nI bs), .int (nI ch), .int (nI mh), .int (nI me), .int (nI mb), .int (nI mn), .ref a4, .ref a5, .int (nI mw), .int (nI mr), .ref a6, .int (nI es), .int (nI pn), .ref a7, .ref a8, .int (oI ah), .ref a9, .int (nI fs)])), (a4, .inl (cI, 200, .inl (oA zz))), (a5, .inl (cI, 8000, .inl (nA ll)))] [(m0, .inr (7, [.int (nI 2), .ref a1, .ref a2, .int (nI vs), .ref a3, .int (nI bs), .int (nI ch), .int (nI mh), .int (nI me), .int (nI mb), .int (nI mn), .ref a4, .ref a5, .int (nI mw), .int (nI mr), .ref a6, .int (nI es), .int (nI pn), .ref a7, .ref a8, .int (oI ah), .ref a9, .int (nI fs)])), (a4, .inl (cI, 200, .inl (oA zz))), (a5, .inl (cI, 8000, .inl (nA ll)))] (nI 0) := by
  refine k_start_i (cc := b_Mod_get) (maxL := 3) (by decide) (Nat.le_of_ble_eq_true rfl) ?_
  intro p e s m args below meth c A QQ ls SS hK hP hD hA hl hN hret
  obtain ⟨hx, hb, hml, hown, hts⟩ := id SS
  have hl : lv_has ls 3 [(0, .ref m0), (1, .int (nI k)), (2, .int y)] := hl
  have hS : va_S A s.heap s.heap [] := va_S.rf
  refine lv_aload_n hx hb d_Mod_get_0 rfl (lv_at hl 0 rfl) ?_
  refine lv_iload_n hx hb d_Mod_get_1 rfl (lv_at hl 1 rfl) ?_
  refine n_if_lt (tgt := 12) hx hb d_Mod_get_2 (by decide) (by omega) ?_
  refine lv_iload_n hx hb d_Mod_get_5 rfl (lv_at hl 1 rfl) ?_
  refine lv_sipush (v := nI 199) hx hb d_Mod_get_6 (by decide) ?_
  refine n_icmp_le (tgt := 16) hx hb d_Mod_get_9 (by decide) (by omega) (by omega) (fun c_9 => ?_) (fun c_9 => ?_)
  · skip
    refine lv_iconst (v := bI false) hx hb d_Mod_get_16 (by decide) ?_
    refine lv_iconst (v := bI false) hx hb d_Mod_get_17 (by decide) ?_
    refine kj_i (wr := [(a4, .inl (cI, 200, .inl (oA zz))), (a5, .inl (cI, 8000, .inl (nA ll)))]) (va_runV (As := [.int (bI false), .int (bI false)]) (rest := []) SS (m_refuse0 l dC dI cI s.heap.size m0 a1 a2 a3 a4 a5 a6 a7 a8 a9 th vs bs ch mh me mb mn mw mr es pn ah fs ) (k_cwV 2 hts u_744 u_746 u_25 u_43 u_747 rfl rfl (by decide +kernel) ⟨Nat.le_of_ble_eq_true rfl, Nat.le_of_ble_eq_true rfl⟩) (kp_V hN hK [0] rfl hP hD [0] rfl (by decide) (ci := 7) rfl 0 rfl) rfl rfl hl.1 rfl (lv_room (Nat.le_of_ble_eq_true rfl)) d_Mod_get_18 ⟨Nat.le_of_ble_eq_true rfl, Nat.le_of_ble_eq_true rfl⟩) hP hD hS hA [0] [1, 2] rfl rfl (by decide) (by decide) (fun H locs hP hD hS => ?_)
    have hP : va_P (dC, dI) CL_ [(a4, .inl (cI, 200, .inl (oA zz))), (a5, .inl (cI, 8000, .inl (nA ll))), (m0, .inr (7, [.int (nI 0), .ref a1, .ref a2, .int (nI vs), .ref a3, .int (nI bs), .int (nI ch), .int (nI mh), .int (nI me), .int (nI mb), .int (nI mn), .ref a4, .ref a5, .int (nI mw), .int (nI mr), .ref a6, .int (nI es), .int (nI pn), .ref a7, .ref a8, .int (oI ah), .ref a9, .int (nI fs)]))] H := hP
    have hD : va_D A [(a4, .inl (cI, 200, .inl (oA zz))), (a5, .inl (cI, 8000, .inl (nA ll))), (m0, .inr (7, [.int (nI 0), .ref a1, .ref a2, .int (nI vs), .ref a3, .int (nI bs), .int (nI ch), .int (nI mh), .int (nI me), .int (nI mb), .int (nI mn), .ref a4, .ref a5, .int (nI mw), .int (nI mr), .ref a6, .int (nI es), .int (nI pn), .ref a7, .ref a8, .int (oI ah), .ref a9, .int (nI fs)]))] := hD
    refine n_if_eqB (tgt := 26) hx hb d_Mod_get_21 (by decide) (fun c_21 => ?_) (fun c_21 => ?_)
    · skip
      refine lv_aload_n hx hb d_Mod_get_26 rfl (lv_at hl 0 rfl) ?_
      refine lv_iconst (v := bI false) hx hb d_Mod_get_27 (by decide) ?_
      refine lv_iload_n hx hb d_Mod_get_28 rfl (lv_at hl 2 rfl) ?_
      refine lv_if_lt (tgt := 42) hx hb d_Mod_get_29 (by decide) (fun c_29 => ?_) (fun c_29 => ?_)
      · skip
        refine lv_iconst (v := bI true) hx hb d_Mod_get_42 (by decide) ?_
        refine lv_goto (tgt := 47) hx hb d_Mod_get_43 (by decide) ?_
        refine kj_i (wr := [(a4, .inl (cI, 200, .inl (oA zz))), (a5, .inl (cI, 8000, .inl (nA ll)))]) (va_runV (As := [.int (bI false), .int (bI true)]) (rest := []) SS (m_refuse2 l dC dI cI H.size m0 a1 a2 a3 a4 a5 a6 a7 a8 a9 0 vs bs ch mh me mb mn mw mr es pn ah fs ) (k_cwV 2 hts u_744 u_746 u_25 u_43 u_747 rfl rfl (by decide +kernel) ⟨Nat.le_of_ble_eq_true rfl, Nat.le_of_ble_eq_true rfl⟩) (kp_V hN hK [0] rfl hP hD [2] rfl (by decide) (ci := 7) rfl 0 rfl) rfl rfl hl.1 rfl (lv_room (Nat.le_of_ble_eq_true rfl)) d_Mod_get_47 ⟨Nat.le_of_ble_eq_true rfl, Nat.le_of_ble_eq_true rfl⟩) hP hD hS hA [2] [0, 1] rfl rfl (by decide) (by decide) (fun H locs hP hD hS => ?_)
        have hP : va_P (dC, dI) CL_ [(a4, .inl (cI, 200, .inl (oA zz))), (a5, .inl (cI, 8000, .inl (nA ll))), (m0, .inr (7, [.int (nI 2), .ref a1, .ref a2, .int (nI vs), .ref a3, .int (nI bs), .int (nI ch), .int (nI mh), .int (nI me), .int (nI mb), .int (nI mn), .ref a4, .ref a5, .int (nI mw), .int (nI mr), .ref a6, .int (nI es), .int (nI pn), .ref a7, .ref a8, .int (oI ah), .ref a9, .int (nI fs)]))] H := hP
        have hD : va_D A [(a4, .inl (cI, 200, .inl (oA zz))), (a5, .inl (cI, 8000, .inl (nA ll))), (m0, .inr (7, [.int (nI 2), .ref a1, .ref a2, .int (nI vs), .ref a3, .int (nI bs), .int (nI ch), .int (nI mh), .int (nI me), .int (nI mb), .int (nI mn), .ref a4, .ref a5, .int (nI mw), .int (nI mr), .ref a6, .int (nI es), .int (nI pn), .ref a7, .ref a8, .int (oI ah), .ref a9, .int (nI fs)]))] := hD
        refine n_if_eqB (tgt := 55) hx hb d_Mod_get_50 (by decide) (fun c_50 => ?_) (fun c_50 => ?_)
        · exact absurd c_50 (by decide)
        · skip
          refine lv_iconst (v := nI 0) hx hb d_Mod_get_53 (by decide) ?_
          exact hret (nI 0) _ _ 54 ls d_Mod_get_54 (hP.sub [2, 0, 1] rfl) (hD.sub [2, 0, 1] (by decide) rfl) hS rfl
      · exact absurd hy c_29
    · exact absurd c_21 (by decide)
  · exact absurd c_9 (by omega)
abbrev rmm_get2b : Room := { frames := 1, cells := 0, slots := 0, locals := 22 }
set_option maxHeartbeats 4000000 in
set_option maxRecDepth 100000 in
theorem m_get2b (l : Launch) (dC : Nat → ClassId) (dI : Nat → Nat → Nat) (cI : ClassId) (sz : Nat) (m0 : Nat) (a1 : Nat) (a2 : Nat) (a3 : Nat) (a4 : Nat) (a5 : Nat) (a6 : Nat) (a7 : Nat) (a8 : Nat) (a9 : Nat) (th : Nat) (vs : Nat) (bs : Nat) (ch : Nat) (mh : Nat) (me : Nat) (mb : Nat) (mn : Nat) (mw : Nat) (mr : Nat) (es : Nat) (pn : Nat) (ah : Option Nat) (fs : Nat) (zz : Nat → Option Nat) (ll : Nat → Nat) (k : Nat) (j : Nat) (hk : k < 200) (hj : j < 2 ^ 31) (hz : zz k = none) : KI l y_Mod_get w_Mod_get rmm_get2b (dC, dI) CL_ [(cI, .int)] sz [.ref m0, .int (nI k), .int (nI j)] [(m0, .inr (7, [.int (nI th), .ref a1, .ref a2, .int (nI vs), .ref a3, .int (nI bs), .int (nI ch), .int (nI mh), .int (nI me), .int (nI mb), .int (nI mn), .ref a4, .ref a5, .int (nI mw), .int (nI mr), .ref a6, .int (nI es), .int (nI pn), .ref a7, .ref a8, .int (oI ah), .ref a9, .int (nI fs)])), (a4, .inl (cI, 200, .inl (oA zz))), (a5, .inl (cI, 8000, .inl (nA ll)))] [(m0, .inr (7, [.int (nI 2), .ref a1, .ref a2, .int (nI vs), .ref a3, .int (nI bs), .int (nI ch), .int (nI mh), .int (nI me), .int (nI mb), .int (nI mn), .ref a4, .ref a5, .int (nI mw), .int (nI mr), .ref a6, .int (nI es), .int (nI pn), .ref a7, .ref a8, .int (oI ah), .ref a9, .int (nI fs)])), (a4, .inl (cI, 200, .inl (oA zz))), (a5, .inl (cI, 8000, .inl (nA ll)))] (nI 0) := by
  refine k_start_i (cc := b_Mod_get) (maxL := 3) (by decide) (Nat.le_of_ble_eq_true rfl) ?_
  intro p e s m args below meth c A QQ ls SS hK hP hD hA hl hN hret
  obtain ⟨hx, hb, hml, hown, hts⟩ := id SS
  have hl : lv_has ls 3 [(0, .ref m0), (1, .int (nI k)), (2, .int (nI j))] := hl
  have hS : va_S A s.heap s.heap [] := va_S.rf
  refine lv_aload_n hx hb d_Mod_get_0 rfl (lv_at hl 0 rfl) ?_
  refine lv_iload_n hx hb d_Mod_get_1 rfl (lv_at hl 1 rfl) ?_
  refine n_if_lt (tgt := 12) hx hb d_Mod_get_2 (by decide) (by omega) ?_
  refine lv_iload_n hx hb d_Mod_get_5 rfl (lv_at hl 1 rfl) ?_
  refine lv_sipush (v := nI 199) hx hb d_Mod_get_6 (by decide) ?_
  refine n_icmp_le (tgt := 16) hx hb d_Mod_get_9 (by decide) (by omega) (by omega) (fun c_9 => ?_) (fun c_9 => ?_)
  · skip
    refine lv_iconst (v := bI false) hx hb d_Mod_get_16 (by decide) ?_
    refine lv_iconst (v := bI false) hx hb d_Mod_get_17 (by decide) ?_
    refine kj_i (wr := [(a4, .inl (cI, 200, .inl (oA zz))), (a5, .inl (cI, 8000, .inl (nA ll)))]) (va_runV (As := [.int (bI false), .int (bI false)]) (rest := []) SS (m_refuse0 l dC dI cI s.heap.size m0 a1 a2 a3 a4 a5 a6 a7 a8 a9 th vs bs ch mh me mb mn mw mr es pn ah fs ) (k_cwV 2 hts u_744 u_746 u_25 u_43 u_747 rfl rfl (by decide +kernel) ⟨Nat.le_of_ble_eq_true rfl, Nat.le_of_ble_eq_true rfl⟩) (kp_V hN hK [0] rfl hP hD [0] rfl (by decide) (ci := 7) rfl 0 rfl) rfl rfl hl.1 rfl (lv_room (Nat.le_of_ble_eq_true rfl)) d_Mod_get_18 ⟨Nat.le_of_ble_eq_true rfl, Nat.le_of_ble_eq_true rfl⟩) hP hD hS hA [0] [1, 2] rfl rfl (by decide) (by decide) (fun H locs hP hD hS => ?_)
    have hP : va_P (dC, dI) CL_ [(a4, .inl (cI, 200, .inl (oA zz))), (a5, .inl (cI, 8000, .inl (nA ll))), (m0, .inr (7, [.int (nI 0), .ref a1, .ref a2, .int (nI vs), .ref a3, .int (nI bs), .int (nI ch), .int (nI mh), .int (nI me), .int (nI mb), .int (nI mn), .ref a4, .ref a5, .int (nI mw), .int (nI mr), .ref a6, .int (nI es), .int (nI pn), .ref a7, .ref a8, .int (oI ah), .ref a9, .int (nI fs)]))] H := hP
    have hD : va_D A [(a4, .inl (cI, 200, .inl (oA zz))), (a5, .inl (cI, 8000, .inl (nA ll))), (m0, .inr (7, [.int (nI 0), .ref a1, .ref a2, .int (nI vs), .ref a3, .int (nI bs), .int (nI ch), .int (nI mh), .int (nI me), .int (nI mb), .int (nI mn), .ref a4, .ref a5, .int (nI mw), .int (nI mr), .ref a6, .int (nI es), .int (nI pn), .ref a7, .ref a8, .int (oI ah), .ref a9, .int (nI fs)]))] := hD
    refine n_if_eqB (tgt := 26) hx hb d_Mod_get_21 (by decide) (fun c_21 => ?_) (fun c_21 => ?_)
    · skip
      refine lv_aload_n hx hb d_Mod_get_26 rfl (lv_at hl 0 rfl) ?_
      refine lv_iconst (v := bI false) hx hb d_Mod_get_27 (by decide) ?_
      refine lv_iload_n hx hb d_Mod_get_28 rfl (lv_at hl 2 rfl) ?_
      refine n_if_lt (tgt := 42) hx hb d_Mod_get_29 (by decide) (by omega) ?_
      refine lv_iload_n hx hb d_Mod_get_32 rfl (lv_at hl 2 rfl) ?_
      refine lv_aload_n hx hb d_Mod_get_33 rfl (lv_at hl 0 rfl) ?_
      refine va_get (D := (dC, dI)) (ci := 7) (v := .ref a4) (C := R_Mod) (T := F_Mod) (N := 23) hx hb hts in_Mod hown hK hP 2 rfl rfl 11 (by decide) (hts _ u_677) (fun _ h9 => h9) rfl d_Mod_get_34 ?_
      refine lv_iload_n hx hb d_Mod_get_37 rfl (lv_at hl 1 rfl) ?_
      refine n_iald (v := oI (zz k)) hx hb hK hP 0 0 rfl rfl rfl (by omega) (by omega) d_Mod_get_38 ?_
      refine top_i ((-1)) (by exact congrArg oI hz) ?_
      refine lv_icmp_lt (tgt := 46) hx hb d_Mod_get_39 (by decide) (fun c_39 => ?_) (fun c_39 => ?_)
      · exact absurd c_39 (by rw [Int32.not_lt]; exact Int32.le_of_lt (Int32.lt_of_lt_of_le (by decide) (Int32.not_lt.mp (nI_pos hj))))
      · skip
        refine lv_iconst (v := bI true) hx hb d_Mod_get_42 (by decide) ?_
        refine lv_goto (tgt := 47) hx hb d_Mod_get_43 (by decide) ?_
        refine kj_i (wr := [(a4, .inl (cI, 200, .inl (oA zz))), (a5, .inl (cI, 8000, .inl (nA ll)))]) (va_runV (As := [.int (bI false), .int (bI true)]) (rest := []) SS (m_refuse2 l dC dI cI H.size m0 a1 a2 a3 a4 a5 a6 a7 a8 a9 0 vs bs ch mh me mb mn mw mr es pn ah fs ) (k_cwV 2 hts u_744 u_746 u_25 u_43 u_747 rfl rfl (by decide +kernel) ⟨Nat.le_of_ble_eq_true rfl, Nat.le_of_ble_eq_true rfl⟩) (kp_V hN hK [0] rfl hP hD [2] rfl (by decide) (ci := 7) rfl 0 rfl) rfl rfl hl.1 rfl (lv_room (Nat.le_of_ble_eq_true rfl)) d_Mod_get_47 ⟨Nat.le_of_ble_eq_true rfl, Nat.le_of_ble_eq_true rfl⟩) hP hD hS hA [2] [0, 1] rfl rfl (by decide) (by decide) (fun H locs hP hD hS => ?_)
        have hP : va_P (dC, dI) CL_ [(a4, .inl (cI, 200, .inl (oA zz))), (a5, .inl (cI, 8000, .inl (nA ll))), (m0, .inr (7, [.int (nI 2), .ref a1, .ref a2, .int (nI vs), .ref a3, .int (nI bs), .int (nI ch), .int (nI mh), .int (nI me), .int (nI mb), .int (nI mn), .ref a4, .ref a5, .int (nI mw), .int (nI mr), .ref a6, .int (nI es), .int (nI pn), .ref a7, .ref a8, .int (oI ah), .ref a9, .int (nI fs)]))] H := hP
        have hD : va_D A [(a4, .inl (cI, 200, .inl (oA zz))), (a5, .inl (cI, 8000, .inl (nA ll))), (m0, .inr (7, [.int (nI 2), .ref a1, .ref a2, .int (nI vs), .ref a3, .int (nI bs), .int (nI ch), .int (nI mh), .int (nI me), .int (nI mb), .int (nI mn), .ref a4, .ref a5, .int (nI mw), .int (nI mr), .ref a6, .int (nI es), .int (nI pn), .ref a7, .ref a8, .int (oI ah), .ref a9, .int (nI fs)]))] := hD
        refine n_if_eqB (tgt := 55) hx hb d_Mod_get_50 (by decide) (fun c_50 => ?_) (fun c_50 => ?_)
        · exact absurd c_50 (by decide)
        · skip
          refine lv_iconst (v := nI 0) hx hb d_Mod_get_53 (by decide) ?_
          exact hret (nI 0) _ _ 54 ls d_Mod_get_54 (hP.sub [2, 0, 1] rfl) (hD.sub [2, 0, 1] (by decide) rfl) hS rfl
    · exact absurd c_21 (by decide)
  · exact absurd c_9 (by omega)
abbrev rmm_get2c : Room := { frames := 1, cells := 0, slots := 0, locals := 22 }
set_option maxHeartbeats 4000000 in
set_option maxRecDepth 100000 in
theorem m_get2c (l : Launch) (dC : Nat → ClassId) (dI : Nat → Nat → Nat) (cI : ClassId) (sz : Nat) (m0 : Nat) (a1 : Nat) (a2 : Nat) (a3 : Nat) (a4 : Nat) (a5 : Nat) (a6 : Nat) (a7 : Nat) (a8 : Nat) (a9 : Nat) (th : Nat) (vs : Nat) (bs : Nat) (ch : Nat) (mh : Nat) (me : Nat) (mb : Nat) (mn : Nat) (mw : Nat) (mr : Nat) (es : Nat) (pn : Nat) (ah : Option Nat) (fs : Nat) (zz : Nat → Option Nat) (ll : Nat → Nat) (k : Nat) (j : Nat) (nz : Nat) (hk : k < 200) (hj : j < 2 ^ 31) (hz : zz k = some nz) (hnj : nz ≤ j) : KI l y_Mod_get w_Mod_get rmm_get2c (dC, dI) CL_ [(cI, .int)] sz [.ref m0, .int (nI k), .int (nI j)] [(m0, .inr (7, [.int (nI th), .ref a1, .ref a2, .int (nI vs), .ref a3, .int (nI bs), .int (nI ch), .int (nI mh), .int (nI me), .int (nI mb), .int (nI mn), .ref a4, .ref a5, .int (nI mw), .int (nI mr), .ref a6, .int (nI es), .int (nI pn), .ref a7, .ref a8, .int (oI ah), .ref a9, .int (nI fs)])), (a4, .inl (cI, 200, .inl (oA zz))), (a5, .inl (cI, 8000, .inl (nA ll)))] [(m0, .inr (7, [.int (nI 2), .ref a1, .ref a2, .int (nI vs), .ref a3, .int (nI bs), .int (nI ch), .int (nI mh), .int (nI me), .int (nI mb), .int (nI mn), .ref a4, .ref a5, .int (nI mw), .int (nI mr), .ref a6, .int (nI es), .int (nI pn), .ref a7, .ref a8, .int (oI ah), .ref a9, .int (nI fs)])), (a4, .inl (cI, 200, .inl (oA zz))), (a5, .inl (cI, 8000, .inl (nA ll)))] (nI 0) := by
  refine k_start_i (cc := b_Mod_get) (maxL := 3) (by decide) (Nat.le_of_ble_eq_true rfl) ?_
  intro p e s m args below meth c A QQ ls SS hK hP hD hA hl hN hret
  obtain ⟨hx, hb, hml, hown, hts⟩ := id SS
  have hl : lv_has ls 3 [(0, .ref m0), (1, .int (nI k)), (2, .int (nI j))] := hl
  have hS : va_S A s.heap s.heap [] := va_S.rf
  refine lv_aload_n hx hb d_Mod_get_0 rfl (lv_at hl 0 rfl) ?_
  refine lv_iload_n hx hb d_Mod_get_1 rfl (lv_at hl 1 rfl) ?_
  refine n_if_lt (tgt := 12) hx hb d_Mod_get_2 (by decide) (by omega) ?_
  refine lv_iload_n hx hb d_Mod_get_5 rfl (lv_at hl 1 rfl) ?_
  refine lv_sipush (v := nI 199) hx hb d_Mod_get_6 (by decide) ?_
  refine n_icmp_le (tgt := 16) hx hb d_Mod_get_9 (by decide) (by omega) (by omega) (fun c_9 => ?_) (fun c_9 => ?_)
  · skip
    refine lv_iconst (v := bI false) hx hb d_Mod_get_16 (by decide) ?_
    refine lv_iconst (v := bI false) hx hb d_Mod_get_17 (by decide) ?_
    refine kj_i (wr := [(a4, .inl (cI, 200, .inl (oA zz))), (a5, .inl (cI, 8000, .inl (nA ll)))]) (va_runV (As := [.int (bI false), .int (bI false)]) (rest := []) SS (m_refuse0 l dC dI cI s.heap.size m0 a1 a2 a3 a4 a5 a6 a7 a8 a9 th vs bs ch mh me mb mn mw mr es pn ah fs ) (k_cwV 2 hts u_744 u_746 u_25 u_43 u_747 rfl rfl (by decide +kernel) ⟨Nat.le_of_ble_eq_true rfl, Nat.le_of_ble_eq_true rfl⟩) (kp_V hN hK [0] rfl hP hD [0] rfl (by decide) (ci := 7) rfl 0 rfl) rfl rfl hl.1 rfl (lv_room (Nat.le_of_ble_eq_true rfl)) d_Mod_get_18 ⟨Nat.le_of_ble_eq_true rfl, Nat.le_of_ble_eq_true rfl⟩) hP hD hS hA [0] [1, 2] rfl rfl (by decide) (by decide) (fun H locs hP hD hS => ?_)
    have hP : va_P (dC, dI) CL_ [(a4, .inl (cI, 200, .inl (oA zz))), (a5, .inl (cI, 8000, .inl (nA ll))), (m0, .inr (7, [.int (nI 0), .ref a1, .ref a2, .int (nI vs), .ref a3, .int (nI bs), .int (nI ch), .int (nI mh), .int (nI me), .int (nI mb), .int (nI mn), .ref a4, .ref a5, .int (nI mw), .int (nI mr), .ref a6, .int (nI es), .int (nI pn), .ref a7, .ref a8, .int (oI ah), .ref a9, .int (nI fs)]))] H := hP
    have hD : va_D A [(a4, .inl (cI, 200, .inl (oA zz))), (a5, .inl (cI, 8000, .inl (nA ll))), (m0, .inr (7, [.int (nI 0), .ref a1, .ref a2, .int (nI vs), .ref a3, .int (nI bs), .int (nI ch), .int (nI mh), .int (nI me), .int (nI mb), .int (nI mn), .ref a4, .ref a5, .int (nI mw), .int (nI mr), .ref a6, .int (nI es), .int (nI pn), .ref a7, .ref a8, .int (oI ah), .ref a9, .int (nI fs)]))] := hD
    refine n_if_eqB (tgt := 26) hx hb d_Mod_get_21 (by decide) (fun c_21 => ?_) (fun c_21 => ?_)
    · skip
      refine lv_aload_n hx hb d_Mod_get_26 rfl (lv_at hl 0 rfl) ?_
      refine lv_iconst (v := bI false) hx hb d_Mod_get_27 (by decide) ?_
      refine lv_iload_n hx hb d_Mod_get_28 rfl (lv_at hl 2 rfl) ?_
      refine n_if_lt (tgt := 42) hx hb d_Mod_get_29 (by decide) (by omega) ?_
      refine lv_iload_n hx hb d_Mod_get_32 rfl (lv_at hl 2 rfl) ?_
      refine lv_aload_n hx hb d_Mod_get_33 rfl (lv_at hl 0 rfl) ?_
      refine va_get (D := (dC, dI)) (ci := 7) (v := .ref a4) (C := R_Mod) (T := F_Mod) (N := 23) hx hb hts in_Mod hown hK hP 2 rfl rfl 11 (by decide) (hts _ u_677) (fun _ h9 => h9) rfl d_Mod_get_34 ?_
      refine lv_iload_n hx hb d_Mod_get_37 rfl (lv_at hl 1 rfl) ?_
      refine n_iald (v := oI (zz k)) hx hb hK hP 0 0 rfl rfl rfl (by omega) (by omega) d_Mod_get_38 ?_
      refine top_i (nI nz) (by exact congrArg oI hz) ?_
      refine n_icmp_lt (tgt := 46) hx hb d_Mod_get_39 (by decide) (by omega) (by omega) (fun c_39 => ?_) (fun c_39 => ?_)
      · exact absurd c_39 (by omega)
      · skip
        refine lv_iconst (v := bI true) hx hb d_Mod_get_42 (by decide) ?_
        refine lv_goto (tgt := 47) hx hb d_Mod_get_43 (by decide) ?_
        refine kj_i (wr := [(a4, .inl (cI, 200, .inl (oA zz))), (a5, .inl (cI, 8000, .inl (nA ll)))]) (va_runV (As := [.int (bI false), .int (bI true)]) (rest := []) SS (m_refuse2 l dC dI cI H.size m0 a1 a2 a3 a4 a5 a6 a7 a8 a9 0 vs bs ch mh me mb mn mw mr es pn ah fs ) (k_cwV 2 hts u_744 u_746 u_25 u_43 u_747 rfl rfl (by decide +kernel) ⟨Nat.le_of_ble_eq_true rfl, Nat.le_of_ble_eq_true rfl⟩) (kp_V hN hK [0] rfl hP hD [2] rfl (by decide) (ci := 7) rfl 0 rfl) rfl rfl hl.1 rfl (lv_room (Nat.le_of_ble_eq_true rfl)) d_Mod_get_47 ⟨Nat.le_of_ble_eq_true rfl, Nat.le_of_ble_eq_true rfl⟩) hP hD hS hA [2] [0, 1] rfl rfl (by decide) (by decide) (fun H locs hP hD hS => ?_)
        have hP : va_P (dC, dI) CL_ [(a4, .inl (cI, 200, .inl (oA zz))), (a5, .inl (cI, 8000, .inl (nA ll))), (m0, .inr (7, [.int (nI 2), .ref a1, .ref a2, .int (nI vs), .ref a3, .int (nI bs), .int (nI ch), .int (nI mh), .int (nI me), .int (nI mb), .int (nI mn), .ref a4, .ref a5, .int (nI mw), .int (nI mr), .ref a6, .int (nI es), .int (nI pn), .ref a7, .ref a8, .int (oI ah), .ref a9, .int (nI fs)]))] H := hP
        have hD : va_D A [(a4, .inl (cI, 200, .inl (oA zz))), (a5, .inl (cI, 8000, .inl (nA ll))), (m0, .inr (7, [.int (nI 2), .ref a1, .ref a2, .int (nI vs), .ref a3, .int (nI bs), .int (nI ch), .int (nI mh), .int (nI me), .int (nI mb), .int (nI mn), .ref a4, .ref a5, .int (nI mw), .int (nI mr), .ref a6, .int (nI es), .int (nI pn), .ref a7, .ref a8, .int (oI ah), .ref a9, .int (nI fs)]))] := hD
        refine n_if_eqB (tgt := 55) hx hb d_Mod_get_50 (by decide) (fun c_50 => ?_) (fun c_50 => ?_)
        · exact absurd c_50 (by decide)
        · skip
          refine lv_iconst (v := nI 0) hx hb d_Mod_get_53 (by decide) ?_
          exact hret (nI 0) _ _ 54 ls d_Mod_get_54 (hP.sub [2, 0, 1] rfl) (hD.sub [2, 0, 1] (by decide) rfl) hS rfl
    · exact absurd c_21 (by decide)
  · exact absurd c_9 (by omega)
abbrev rmm_disk : Room := { frames := 1, cells := 0, slots := 0, locals := 22 }
set_option maxHeartbeats 4000000 in
set_option maxRecDepth 100000 in
theorem m_disk (l : Launch) (dC : Nat → ClassId) (dI : Nat → Nat → Nat) (cI : ClassId) (sz : Nat) (m0 : Nat) (a1 : Nat) (a2 : Nat) (a3 : Nat) (a4 : Nat) (a5 : Nat) (a6 : Nat) (a7 : Nat) (a8 : Nat) (a9 : Nat) (th : Nat) (vs : Nat) (bs : Nat) (ch : Nat) (mh : Nat) (me : Nat) (mb : Nat) (mn : Nat) (mw : Nat) (mr : Nat) (es : Nat) (pn : Nat) (ah : Option Nat) (fs : Nat) (dd : Nat → Nat) (o : Nat) (ho : o < 6144) : KI l y_Mod_disk w_Mod_disk rmm_disk (dC, dI) CL_ [(cI, .int)] sz [.ref m0, .int (nI o)] [(m0, .inr (7, [.int (nI th), .ref a1, .ref a2, .int (nI vs), .ref a3, .int (nI bs), .int (nI ch), .int (nI mh), .int (nI me), .int (nI mb), .int (nI mn), .ref a4, .ref a5, .int (nI mw), .int (nI mr), .ref a6, .int (nI es), .int (nI pn), .ref a7, .ref a8, .int (oI ah), .ref a9, .int (nI fs)])), (a1, .inl (cI, 6144, .inl (nA dd)))] [(m0, .inr (7, [.int (nI 0), .ref a1, .ref a2, .int (nI vs), .ref a3, .int (nI bs), .int (nI ch), .int (nI mh), .int (nI me), .int (nI mb), .int (nI mn), .ref a4, .ref a5, .int (nI mw), .int (nI mr), .ref a6, .int (nI es), .int (nI pn), .ref a7, .ref a8, .int (oI ah), .ref a9, .int (nI fs)])), (a1, .inl (cI, 6144, .inl (nA dd)))] (nI (dd o)) := by
  refine k_start_i (cc := b_Mod_disk) (maxL := 2) (by decide) (Nat.le_of_ble_eq_true rfl) ?_
  intro p e s m args below meth c A QQ ls SS hK hP hD hA hl hN hret
  obtain ⟨hx, hb, hml, hown, hts⟩ := id SS
  have hl : lv_has ls 2 [(0, .ref m0), (1, .int (nI o))] := hl
  have hS : va_S A s.heap s.heap [] := va_S.rf
  refine lv_aload_n hx hb d_Mod_disk_0 rfl (lv_at hl 0 rfl) ?_
  refine lv_iload_n hx hb d_Mod_disk_1 rfl (lv_at hl 1 rfl) ?_
  refine n_if_lt (tgt := 12) hx hb d_Mod_disk_2 (by decide) (by omega) ?_
  refine lv_iload_n hx hb d_Mod_disk_5 rfl (lv_at hl 1 rfl) ?_
  refine lv_sipush (v := nI 6144) hx hb d_Mod_disk_6 (by decide) ?_
  refine n_icmp_lt (tgt := 16) hx hb d_Mod_disk_9 (by decide) (by omega) (by omega) (fun c_9 => ?_) (fun c_9 => ?_)
  · skip
    refine lv_iconst (v := bI false) hx hb d_Mod_disk_16 (by decide) ?_
    refine lv_iconst (v := bI false) hx hb d_Mod_disk_17 (by decide) ?_
    refine kj_i (wr := [(a1, .inl (cI, 6144, .inl (nA dd)))]) (va_runV (As := [.int (bI false), .int (bI false)]) (rest := []) SS (m_refuse0 l dC dI cI s.heap.size m0 a1 a2 a3 a4 a5 a6 a7 a8 a9 th vs bs ch mh me mb mn mw mr es pn ah fs ) (k_cwV 2 hts u_744 u_746 u_25 u_43 u_747 rfl rfl (by decide +kernel) ⟨Nat.le_of_ble_eq_true rfl, Nat.le_of_ble_eq_true rfl⟩) (kp_V hN hK [0] rfl hP hD [0] rfl (by decide) (ci := 7) rfl 0 rfl) rfl rfl hl.1 rfl (lv_room (Nat.le_of_ble_eq_true rfl)) d_Mod_disk_18 ⟨Nat.le_of_ble_eq_true rfl, Nat.le_of_ble_eq_true rfl⟩) hP hD hS hA [0] [1] rfl rfl (by decide) (by decide) (fun H locs hP hD hS => ?_)
    have hP : va_P (dC, dI) CL_ [(a1, .inl (cI, 6144, .inl (nA dd))), (m0, .inr (7, [.int (nI 0), .ref a1, .ref a2, .int (nI vs), .ref a3, .int (nI bs), .int (nI ch), .int (nI mh), .int (nI me), .int (nI mb), .int (nI mn), .ref a4, .ref a5, .int (nI mw), .int (nI mr), .ref a6, .int (nI es), .int (nI pn), .ref a7, .ref a8, .int (oI ah), .ref a9, .int (nI fs)]))] H := hP
    have hD : va_D A [(a1, .inl (cI, 6144, .inl (nA dd))), (m0, .inr (7, [.int (nI 0), .ref a1, .ref a2, .int (nI vs), .ref a3, .int (nI bs), .int (nI ch), .int (nI mh), .int (nI me), .int (nI mb), .int (nI mn), .ref a4, .ref a5, .int (nI mw), .int (nI mr), .ref a6, .int (nI es), .int (nI pn), .ref a7, .ref a8, .int (oI ah), .ref a9, .int (nI fs)]))] := hD
    refine n_if_eqB (tgt := 26) hx hb d_Mod_disk_21 (by decide) (fun c_21 => ?_) (fun c_21 => ?_)
    · skip
      refine lv_aload_n hx hb d_Mod_disk_26 rfl (lv_at hl 0 rfl) ?_
      refine va_get (D := (dC, dI)) (ci := 7) (v := .ref a1) (C := R_Mod) (T := F_Mod) (N := 23) hx hb hts in_Mod hown hK hP 1 rfl rfl 1 (by decide) (hts _ u_667) (fun _ h9 => h9) rfl d_Mod_disk_27 ?_
      refine lv_iload_n hx hb d_Mod_disk_30 rfl (lv_at hl 1 rfl) ?_
      refine n_iald (v := nI (dd o)) hx hb hK hP 0 0 rfl rfl rfl (by omega) (by omega) d_Mod_disk_31 ?_
      exact hret (nI (dd o)) _ _ 32 ls d_Mod_disk_32 (hP.sub [1, 0] rfl) (hD.sub [1, 0] (by decide) rfl) hS rfl
    · exact absurd c_21 (by decide)
  · exact absurd c_9 (by omega)
abbrev rmm_disk1 : Room := { frames := 1, cells := 0, slots := 0, locals := 22 }
set_option maxHeartbeats 4000000 in
set_option maxRecDepth 100000 in
theorem m_disk1 (l : Launch) (dC : Nat → ClassId) (dI : Nat → Nat → Nat) (cI : ClassId) (sz : Nat) (m0 : Nat) (a1 : Nat) (a2 : Nat) (a3 : Nat) (a4 : Nat) (a5 : Nat) (a6 : Nat) (a7 : Nat) (a8 : Nat) (a9 : Nat) (th : Nat) (vs : Nat) (bs : Nat) (ch : Nat) (mh : Nat) (me : Nat) (mb : Nat) (mn : Nat) (mw : Nat) (mr : Nat) (es : Nat) (pn : Nat) (ah : Option Nat) (fs : Nat) (x : Int32) (hx1 : x < 0 ∨ nI 6144 ≤ x) : KI l y_Mod_disk w_Mod_disk rmm_disk1 (dC, dI) CL_ [(cI, .int)] sz [.ref m0, .int x] [(m0, .inr (7, [.int (nI th), .ref a1, .ref a2, .int (nI vs), .ref a3, .int (nI bs), .int (nI ch), .int (nI mh), .int (nI me), .int (nI mb), .int (nI mn), .ref a4, .ref a5, .int (nI mw), .int (nI mr), .ref a6, .int (nI es), .int (nI pn), .ref a7, .ref a8, .int (oI ah), .ref a9, .int (nI fs)]))] [(m0, .inr (7, [.int (nI 1), .ref a1, .ref a2, .int (nI vs), .ref a3, .int (nI bs), .int (nI ch), .int (nI mh), .int (nI me), .int (nI mb), .int (nI mn), .ref a4, .ref a5, .int (nI mw), .int (nI mr), .ref a6, .int (nI es), .int (nI pn), .ref a7, .ref a8, .int (oI ah), .ref a9, .int (nI fs)]))] (nI 0) := by
  refine k_start_i (cc := b_Mod_disk) (maxL := 2) (by decide) (Nat.le_of_ble_eq_true rfl) ?_
  intro p e s m args below meth c A QQ ls SS hK hP hD hA hl hN hret
  obtain ⟨hx, hb, hml, hown, hts⟩ := id SS
  have hl : lv_has ls 2 [(0, .ref m0), (1, .int x)] := hl
  have hS : va_S A s.heap s.heap [] := va_S.rf
  refine lv_aload_n hx hb d_Mod_disk_0 rfl (lv_at hl 0 rfl) ?_
  refine lv_iload_n hx hb d_Mod_disk_1 rfl (lv_at hl 1 rfl) ?_
  refine lv_if_lt (tgt := 12) hx hb d_Mod_disk_2 (by decide) (fun c_2 => ?_) (fun c_2 => ?_)
  · skip
    refine lv_iconst (v := bI true) hx hb d_Mod_disk_12 (by decide) ?_
    refine lv_goto (tgt := 17) hx hb d_Mod_disk_13 (by decide) ?_
    refine lv_iconst (v := bI false) hx hb d_Mod_disk_17 (by decide) ?_
    refine kj_i (wr := []) (va_runV (As := [.int (bI true), .int (bI false)]) (rest := []) SS (m_refuse1 l dC dI cI s.heap.size m0 a1 a2 a3 a4 a5 a6 a7 a8 a9 th vs bs ch mh me mb mn mw mr es pn ah fs false ) (k_cwV 2 hts u_744 u_746 u_25 u_43 u_747 rfl rfl (by decide +kernel) ⟨Nat.le_of_ble_eq_true rfl, Nat.le_of_ble_eq_true rfl⟩) (kp_V hN hK [0] rfl hP hD [0] rfl (by decide) (ci := 7) rfl 0 rfl) rfl rfl hl.1 rfl (lv_room (Nat.le_of_ble_eq_true rfl)) d_Mod_disk_18 ⟨Nat.le_of_ble_eq_true rfl, Nat.le_of_ble_eq_true rfl⟩) hP hD hS hA [0] [] rfl rfl (by decide) (by decide) (fun H locs hP hD hS => ?_)
    have hP : va_P (dC, dI) CL_ [(m0, .inr (7, [.int (nI 1), .ref a1, .ref a2, .int (nI vs), .ref a3, .int (nI bs), .int (nI ch), .int (nI mh), .int (nI me), .int (nI mb), .int (nI mn), .ref a4, .ref a5, .int (nI mw), .int (nI mr), .ref a6, .int (nI es), .int (nI pn), .ref a7, .ref a8, .int (oI ah), .ref a9, .int (nI fs)]))] H := hP
    have hD : va_D A [(m0, .inr (7, [.int (nI 1), .ref a1, .ref a2, .int (nI vs), .ref a3, .int (nI bs), .int (nI ch), .int (nI mh), .int (nI me), .int (nI mb), .int (nI mn), .ref a4, .ref a5, .int (nI mw), .int (nI mr), .ref a6, .int (nI es), .int (nI pn), .ref a7, .ref a8, .int (oI ah), .ref a9, .int (nI fs)]))] := hD
    refine n_if_eqB (tgt := 26) hx hb d_Mod_disk_21 (by decide) (fun c_21 => ?_) (fun c_21 => ?_)
    · exact absurd c_21 (by decide)
    · skip
      refine lv_iconst (v := nI 0) hx hb d_Mod_disk_24 (by decide) ?_
      exact hret (nI 0) _ _ 25 ls d_Mod_disk_25 (hP.sub [0] rfl) (hD.sub [0] (by decide) rfl) hS rfl
  · skip
    refine lv_iload_n hx hb d_Mod_disk_5 rfl (lv_at hl 1 rfl) ?_
    refine lv_sipush (v := nI 6144) hx hb d_Mod_disk_6 (by decide) ?_
    refine lv_icmp_lt (tgt := 16) hx hb d_Mod_disk_9 (by decide) (fun c_9 => ?_) (fun c_9 => ?_)
    · exact absurd hx1 (fun q => q.elim c_2 (Int32.not_le.mpr c_9))
    · skip
      refine lv_iconst (v := bI true) hx hb d_Mod_disk_12 (by decide) ?_
      refine lv_goto (tgt := 17) hx hb d_Mod_disk_13 (by decide) ?_
      refine lv_iconst (v := bI false) hx hb d_Mod_disk_17 (by decide) ?_
      refine kj_i (wr := []) (va_runV (As := [.int (bI true), .int (bI false)]) (rest := []) SS (m_refuse1 l dC dI cI s.heap.size m0 a1 a2 a3 a4 a5 a6 a7 a8 a9 th vs bs ch mh me mb mn mw mr es pn ah fs false ) (k_cwV 2 hts u_744 u_746 u_25 u_43 u_747 rfl rfl (by decide +kernel) ⟨Nat.le_of_ble_eq_true rfl, Nat.le_of_ble_eq_true rfl⟩) (kp_V hN hK [0] rfl hP hD [0] rfl (by decide) (ci := 7) rfl 0 rfl) rfl rfl hl.1 rfl (lv_room (Nat.le_of_ble_eq_true rfl)) d_Mod_disk_18 ⟨Nat.le_of_ble_eq_true rfl, Nat.le_of_ble_eq_true rfl⟩) hP hD hS hA [0] [] rfl rfl (by decide) (by decide) (fun H locs hP hD hS => ?_)
      have hP : va_P (dC, dI) CL_ [(m0, .inr (7, [.int (nI 1), .ref a1, .ref a2, .int (nI vs), .ref a3, .int (nI bs), .int (nI ch), .int (nI mh), .int (nI me), .int (nI mb), .int (nI mn), .ref a4, .ref a5, .int (nI mw), .int (nI mr), .ref a6, .int (nI es), .int (nI pn), .ref a7, .ref a8, .int (oI ah), .ref a9, .int (nI fs)]))] H := hP
      have hD : va_D A [(m0, .inr (7, [.int (nI 1), .ref a1, .ref a2, .int (nI vs), .ref a3, .int (nI bs), .int (nI ch), .int (nI mh), .int (nI me), .int (nI mb), .int (nI mn), .ref a4, .ref a5, .int (nI mw), .int (nI mr), .ref a6, .int (nI es), .int (nI pn), .ref a7, .ref a8, .int (oI ah), .ref a9, .int (nI fs)]))] := hD
      refine n_if_eqB (tgt := 26) hx hb d_Mod_disk_21 (by decide) (fun c_21 => ?_) (fun c_21 => ?_)
      · exact absurd c_21 (by decide)
      · skip
        refine lv_iconst (v := nI 0) hx hb d_Mod_disk_24 (by decide) ?_
        exact hret (nI 0) _ _ 25 ls d_Mod_disk_25 (hP.sub [0] rfl) (hD.sub [0] (by decide) rfl) hS rfl
abbrev rmm_about0 : Room := { frames := 1, cells := 0, slots := 0, locals := 22 }
set_option maxHeartbeats 4000000 in
set_option maxRecDepth 100000 in
theorem m_about0 (l : Launch) (dC : Nat → ClassId) (dI : Nat → Nat → Nat) (cI : ClassId) (sz : Nat) (m0 : Nat) (a1 : Nat) (a2 : Nat) (a3 : Nat) (a4 : Nat) (a5 : Nat) (a6 : Nat) (a7 : Nat) (a8 : Nat) (a9 : Nat) (th : Nat) (vs : Nat) (bs : Nat) (ch : Nat) (mh : Nat) (me : Nat) (mb : Nat) (mn : Nat) (mw : Nat) (mr : Nat) (es : Nat) (pn : Nat) (ah : Option Nat) (fs : Nat)  : KI l y_Mod_about w_Mod_about rmm_about0 (dC, dI) CL_ [(cI, .int)] sz [.ref m0, .int (nI 0)] [(m0, .inr (7, [.int (nI th), .ref a1, .ref a2, .int (nI vs), .ref a3, .int (nI bs), .int (nI ch), .int (nI mh), .int (nI me), .int (nI mb), .int (nI mn), .ref a4, .ref a5, .int (nI mw), .int (nI mr), .ref a6, .int (nI es), .int (nI pn), .ref a7, .ref a8, .int (oI ah), .ref a9, .int (nI fs)]))] [(m0, .inr (7, [.int (nI 0), .ref a1, .ref a2, .int (nI vs), .ref a3, .int (nI bs), .int (nI ch), .int (nI mh), .int (nI me), .int (nI mb), .int (nI mn), .ref a4, .ref a5, .int (nI mw), .int (nI mr), .ref a6, .int (nI es), .int (nI pn), .ref a7, .ref a8, .int (oI ah), .ref a9, .int (nI fs)]))] (nI mh) := by
  refine k_start_i (cc := b_Mod_about) (maxL := 4) (by decide) (Nat.le_of_ble_eq_true rfl) ?_
  intro p e s m args below meth c A QQ ls SS hK hP hD hA hl hN hret
  obtain ⟨hx, hb, hml, hown, hts⟩ := id SS
  have hl : lv_has ls 4 [(0, .ref m0), (1, .int (nI 0))] := hl
  have hS : va_S A s.heap s.heap [] := va_S.rf
  refine lv_aload_n hx hb d_Mod_about_0 rfl (lv_at hl 0 rfl) ?_
  refine lv_iload_n hx hb d_Mod_about_1 rfl (lv_at hl 1 rfl) ?_
  refine n_if_lt (tgt := 11) hx hb d_Mod_about_2 (by decide) (by omega) ?_
  refine lv_iload_n hx hb d_Mod_about_5 rfl (lv_at hl 1 rfl) ?_
  refine lv_bipush (v := nI 8) hx hb d_Mod_about_6 (by decide) ?_
  refine n_icmp_le (tgt := 15) hx hb d_Mod_about_8 (by decide) (by decide) (by decide) (fun c_8 => ?_) (fun c_8 => ?_)
  · skip
    refine lv_iconst (v := bI false) hx hb d_Mod_about_15 (by decide) ?_
    refine lv_iconst (v := bI false) hx hb d_Mod_about_16 (by decide) ?_
    refine kj_i (wr := []) (va_runV (As := [.int (bI false), .int (bI false)]) (rest := []) SS (m_refuse0 l dC dI cI s.heap.size m0 a1 a2 a3 a4 a5 a6 a7 a8 a9 th vs bs ch mh me mb mn mw mr es pn ah fs ) (k_cwV 2 hts u_744 u_746 u_25 u_43 u_747 rfl rfl (by decide +kernel) ⟨Nat.le_of_ble_eq_true rfl, Nat.le_of_ble_eq_true rfl⟩) (kp_V hN hK [0] rfl hP hD [0] rfl (by decide) (ci := 7) rfl 0 rfl) rfl rfl hl.1 rfl (lv_room (Nat.le_of_ble_eq_true rfl)) d_Mod_about_17 ⟨Nat.le_of_ble_eq_true rfl, Nat.le_of_ble_eq_true rfl⟩) hP hD hS hA [0] [] rfl rfl (by decide) (by decide) (fun H locs hP hD hS => ?_)
    have hP : va_P (dC, dI) CL_ [(m0, .inr (7, [.int (nI 0), .ref a1, .ref a2, .int (nI vs), .ref a3, .int (nI bs), .int (nI ch), .int (nI mh), .int (nI me), .int (nI mb), .int (nI mn), .ref a4, .ref a5, .int (nI mw), .int (nI mr), .ref a6, .int (nI es), .int (nI pn), .ref a7, .ref a8, .int (oI ah), .ref a9, .int (nI fs)]))] H := hP
    have hD : va_D A [(m0, .inr (7, [.int (nI 0), .ref a1, .ref a2, .int (nI vs), .ref a3, .int (nI bs), .int (nI ch), .int (nI mh), .int (nI me), .int (nI mb), .int (nI mn), .ref a4, .ref a5, .int (nI mw), .int (nI mr), .ref a6, .int (nI es), .int (nI pn), .ref a7, .ref a8, .int (oI ah), .ref a9, .int (nI fs)]))] := hD
    refine n_if_eqB (tgt := 25) hx hb d_Mod_about_20 (by decide) (fun c_20 => ?_) (fun c_20 => ?_)
    · skip
      refine lv_iload_n hx hb d_Mod_about_25 rfl (lv_at hl 1 rfl) ?_
      refine lv_tableIn (tgt := 72) (off := 46) hx hb d_Mod_about_26 (by decide) (by decide) (by decide) (by decide) ?_
      refine lv_aload_n hx hb d_Mod_about_72 rfl (lv_at hl 0 rfl) ?_
      refine va_get (D := (dC, dI)) (ci := 7) (v := .int (nI mh)) (C := R_Mod) (T := F_Mod) (N := 23) hx hb hts in_Mod hown hK hP 0 rfl rfl 7 (by decide) (hts _ u_673) (fun _ h9 => h9) rfl d_Mod_about_73 ?_
      exact hret (nI mh) _ _ 76 ls d_Mod_about_76 (hP.sub [0] rfl) (hD.sub [0] (by decide) rfl) hS rfl
    · exact absurd c_20 (by decide)
  · exact absurd c_8 (by decide)
abbrev rmm_about1 : Room := { frames := 1, cells := 0, slots := 0, locals := 22 }
set_option maxHeartbeats 4000000 in
set_option maxRecDepth 100000 in
theorem m_about1 (l : Launch) (dC : Nat → ClassId) (dI : Nat → Nat → Nat) (cI : ClassId) (sz : Nat) (m0 : Nat) (a1 : Nat) (a2 : Nat) (a3 : Nat) (a4 : Nat) (a5 : Nat) (a6 : Nat) (a7 : Nat) (a8 : Nat) (a9 : Nat) (th : Nat) (vs : Nat) (bs : Nat) (ch : Nat) (mh : Nat) (me : Nat) (mb : Nat) (mn : Nat) (mw : Nat) (mr : Nat) (es : Nat) (pn : Nat) (ah : Option Nat) (fs : Nat)  : KI l y_Mod_about w_Mod_about rmm_about1 (dC, dI) CL_ [(cI, .int)] sz [.ref m0, .int (nI 1)] [(m0, .inr (7, [.int (nI th), .ref a1, .ref a2, .int (nI vs), .ref a3, .int (nI bs), .int (nI ch), .int (nI mh), .int (nI me), .int (nI mb), .int (nI mn), .ref a4, .ref a5, .int (nI mw), .int (nI mr), .ref a6, .int (nI es), .int (nI pn), .ref a7, .ref a8, .int (oI ah), .ref a9, .int (nI fs)]))] [(m0, .inr (7, [.int (nI 0), .ref a1, .ref a2, .int (nI vs), .ref a3, .int (nI bs), .int (nI ch), .int (nI mh), .int (nI me), .int (nI mb), .int (nI mn), .ref a4, .ref a5, .int (nI mw), .int (nI mr), .ref a6, .int (nI es), .int (nI pn), .ref a7, .ref a8, .int (oI ah), .ref a9, .int (nI fs)]))] (nI me) := by
  refine k_start_i (cc := b_Mod_about) (maxL := 4) (by decide) (Nat.le_of_ble_eq_true rfl) ?_
  intro p e s m args below meth c A QQ ls SS hK hP hD hA hl hN hret
  obtain ⟨hx, hb, hml, hown, hts⟩ := id SS
  have hl : lv_has ls 4 [(0, .ref m0), (1, .int (nI 1))] := hl
  have hS : va_S A s.heap s.heap [] := va_S.rf
  refine lv_aload_n hx hb d_Mod_about_0 rfl (lv_at hl 0 rfl) ?_
  refine lv_iload_n hx hb d_Mod_about_1 rfl (lv_at hl 1 rfl) ?_
  refine n_if_lt (tgt := 11) hx hb d_Mod_about_2 (by decide) (by omega) ?_
  refine lv_iload_n hx hb d_Mod_about_5 rfl (lv_at hl 1 rfl) ?_
  refine lv_bipush (v := nI 8) hx hb d_Mod_about_6 (by decide) ?_
  refine n_icmp_le (tgt := 15) hx hb d_Mod_about_8 (by decide) (by decide) (by decide) (fun c_8 => ?_) (fun c_8 => ?_)
  · skip
    refine lv_iconst (v := bI false) hx hb d_Mod_about_15 (by decide) ?_
    refine lv_iconst (v := bI false) hx hb d_Mod_about_16 (by decide) ?_
    refine kj_i (wr := []) (va_runV (As := [.int (bI false), .int (bI false)]) (rest := []) SS (m_refuse0 l dC dI cI s.heap.size m0 a1 a2 a3 a4 a5 a6 a7 a8 a9 th vs bs ch mh me mb mn mw mr es pn ah fs ) (k_cwV 2 hts u_744 u_746 u_25 u_43 u_747 rfl rfl (by decide +kernel) ⟨Nat.le_of_ble_eq_true rfl, Nat.le_of_ble_eq_true rfl⟩) (kp_V hN hK [0] rfl hP hD [0] rfl (by decide) (ci := 7) rfl 0 rfl) rfl rfl hl.1 rfl (lv_room (Nat.le_of_ble_eq_true rfl)) d_Mod_about_17 ⟨Nat.le_of_ble_eq_true rfl, Nat.le_of_ble_eq_true rfl⟩) hP hD hS hA [0] [] rfl rfl (by decide) (by decide) (fun H locs hP hD hS => ?_)
    have hP : va_P (dC, dI) CL_ [(m0, .inr (7, [.int (nI 0), .ref a1, .ref a2, .int (nI vs), .ref a3, .int (nI bs), .int (nI ch), .int (nI mh), .int (nI me), .int (nI mb), .int (nI mn), .ref a4, .ref a5, .int (nI mw), .int (nI mr), .ref a6, .int (nI es), .int (nI pn), .ref a7, .ref a8, .int (oI ah), .ref a9, .int (nI fs)]))] H := hP
    have hD : va_D A [(m0, .inr (7, [.int (nI 0), .ref a1, .ref a2, .int (nI vs), .ref a3, .int (nI bs), .int (nI ch), .int (nI mh), .int (nI me), .int (nI mb), .int (nI mn), .ref a4, .ref a5, .int (nI mw), .int (nI mr), .ref a6, .int (nI es), .int (nI pn), .ref a7, .ref a8, .int (oI ah), .ref a9, .int (nI fs)]))] := hD
    refine n_if_eqB (tgt := 25) hx hb d_Mod_about_20 (by decide) (fun c_20 => ?_) (fun c_20 => ?_)
    · skip
      refine lv_iload_n hx hb d_Mod_about_25 rfl (lv_at hl 1 rfl) ?_
      refine lv_tableIn (tgt := 77) (off := 51) hx hb d_Mod_about_26 (by decide) (by decide) (by decide) (by decide) ?_
      refine lv_aload_n hx hb d_Mod_about_77 rfl (lv_at hl 0 rfl) ?_
      refine va_get (D := (dC, dI)) (ci := 7) (v := .int (nI me)) (C := R_Mod) (T := F_Mod) (N := 23) hx hb hts in_Mod hown hK hP 0 rfl rfl 8 (by decide) (hts _ u_674) (fun _ h9 => h9) rfl d_Mod_about_78 ?_
      exact hret (nI me) _ _ 81 ls d_Mod_about_81 (hP.sub [0] rfl) (hD.sub [0] (by decide) rfl) hS rfl
    · exact absurd c_20 (by decide)
  · exact absurd c_8 (by decide)
abbrev rmm_about2 : Room := { frames := 1, cells := 0, slots := 0, locals := 22 }
set_option maxHeartbeats 4000000 in
set_option maxRecDepth 100000 in
theorem m_about2 (l : Launch) (dC : Nat → ClassId) (dI : Nat → Nat → Nat) (cI : ClassId) (sz : Nat) (m0 : Nat) (a1 : Nat) (a2 : Nat) (a3 : Nat) (a4 : Nat) (a5 : Nat) (a6 : Nat) (a7 : Nat) (a8 : Nat) (a9 : Nat) (th : Nat) (vs : Nat) (bs : Nat) (ch : Nat) (mh : Nat) (me : Nat) (mb : Nat) (mn : Nat) (mw : Nat) (mr : Nat) (es : Nat) (pn : Nat) (ah : Option Nat) (fs : Nat)  : KI l y_Mod_about w_Mod_about rmm_about2 (dC, dI) CL_ [(cI, .int)] sz [.ref m0, .int (nI 2)] [(m0, .inr (7, [.int (nI th), .ref a1, .ref a2, .int (nI vs), .ref a3, .int (nI bs), .int (nI ch), .int (nI mh), .int (nI me), .int (nI mb), .int (nI mn), .ref a4, .ref a5, .int (nI mw), .int (nI mr), .ref a6, .int (nI es), .int (nI pn), .ref a7, .ref a8, .int (oI ah), .ref a9, .int (nI fs)]))] [(m0, .inr (7, [.int (nI 0), .ref a1, .ref a2, .int (nI vs), .ref a3, .int (nI bs), .int (nI ch), .int (nI mh), .int (nI me), .int (nI mb), .int (nI mn), .ref a4, .ref a5, .int (nI mw), .int (nI mr), .ref a6, .int (nI es), .int (nI pn), .ref a7, .ref a8, .int (oI ah), .ref a9, .int (nI fs)]))] (nI mb) := by
  refine k_start_i (cc := b_Mod_about) (maxL := 4) (by decide) (Nat.le_of_ble_eq_true rfl) ?_
  intro p e s m args below meth c A QQ ls SS hK hP hD hA hl hN hret
  obtain ⟨hx, hb, hml, hown, hts⟩ := id SS
  have hl : lv_has ls 4 [(0, .ref m0), (1, .int (nI 2))] := hl
  have hS : va_S A s.heap s.heap [] := va_S.rf
  refine lv_aload_n hx hb d_Mod_about_0 rfl (lv_at hl 0 rfl) ?_
  refine lv_iload_n hx hb d_Mod_about_1 rfl (lv_at hl 1 rfl) ?_
  refine n_if_lt (tgt := 11) hx hb d_Mod_about_2 (by decide) (by omega) ?_
  refine lv_iload_n hx hb d_Mod_about_5 rfl (lv_at hl 1 rfl) ?_
  refine lv_bipush (v := nI 8) hx hb d_Mod_about_6 (by decide) ?_
  refine n_icmp_le (tgt := 15) hx hb d_Mod_about_8 (by decide) (by decide) (by decide) (fun c_8 => ?_) (fun c_8 => ?_)
  · skip
    refine lv_iconst (v := bI false) hx hb d_Mod_about_15 (by decide) ?_
    refine lv_iconst (v := bI false) hx hb d_Mod_about_16 (by decide) ?_
    refine kj_i (wr := []) (va_runV (As := [.int (bI false), .int (bI false)]) (rest := []) SS (m_refuse0 l dC dI cI s.heap.size m0 a1 a2 a3 a4 a5 a6 a7 a8 a9 th vs bs ch mh me mb mn mw mr es pn ah fs ) (k_cwV 2 hts u_744 u_746 u_25 u_43 u_747 rfl rfl (by decide +kernel) ⟨Nat.le_of_ble_eq_true rfl, Nat.le_of_ble_eq_true rfl⟩) (kp_V hN hK [0] rfl hP hD [0] rfl (by decide) (ci := 7) rfl 0 rfl) rfl rfl hl.1 rfl (lv_room (Nat.le_of_ble_eq_true rfl)) d_Mod_about_17 ⟨Nat.le_of_ble_eq_true rfl, Nat.le_of_ble_eq_true rfl⟩) hP hD hS hA [0] [] rfl rfl (by decide) (by decide) (fun H locs hP hD hS => ?_)
    have hP : va_P (dC, dI) CL_ [(m0, .inr (7, [.int (nI 0), .ref a1, .ref a2, .int (nI vs), .ref a3, .int (nI bs), .int (nI ch), .int (nI mh), .int (nI me), .int (nI mb), .int (nI mn), .ref a4, .ref a5, .int (nI mw), .int (nI mr), .ref a6, .int (nI es), .int (nI pn), .ref a7, .ref a8, .int (oI ah), .ref a9, .int (nI fs)]))] H := hP
    have hD : va_D A [(m0, .inr (7, [.int (nI 0), .ref a1, .ref a2, .int (nI vs), .ref a3, .int (nI bs), .int (nI ch), .int (nI mh), .int (nI me), .int (nI mb), .int (nI mn), .ref a4, .ref a5, .int (nI mw), .int (nI mr), .ref a6, .int (nI es), .int (nI pn), .ref a7, .ref a8, .int (oI ah), .ref a9, .int (nI fs)]))] := hD
    refine n_if_eqB (tgt := 25) hx hb d_Mod_about_20 (by decide) (fun c_20 => ?_) (fun c_20 => ?_)
    · skip
      refine lv_iload_n hx hb d_Mod_about_25 rfl (lv_at hl 1 rfl) ?_
      refine lv_tableIn (tgt := 82) (off := 56) hx hb d_Mod_about_26 (by decide) (by decide) (by decide) (by decide) ?_
      refine lv_aload_n hx hb d_Mod_about_82 rfl (lv_at hl 0 rfl) ?_
      refine va_get (D := (dC, dI)) (ci := 7) (v := .int (nI mb)) (C := R_Mod) (T := F_Mod) (N := 23) hx hb hts in_Mod hown hK hP 0 rfl rfl 9 (by decide) (hts _ u_675) (fun _ h9 => h9) rfl d_Mod_about_83 ?_
      exact hret (nI mb) _ _ 86 ls d_Mod_about_86 (hP.sub [0] rfl) (hD.sub [0] (by decide) rfl) hS rfl
    · exact absurd c_20 (by decide)
  · exact absurd c_8 (by decide)
abbrev rmm_about3 : Room := { frames := 1, cells := 0, slots := 0, locals := 22 }
set_option maxHeartbeats 4000000 in
set_option maxRecDepth 100000 in
theorem m_about3 (l : Launch) (dC : Nat → ClassId) (dI : Nat → Nat → Nat) (cI : ClassId) (sz : Nat) (m0 : Nat) (a1 : Nat) (a2 : Nat) (a3 : Nat) (a4 : Nat) (a5 : Nat) (a6 : Nat) (a7 : Nat) (a8 : Nat) (a9 : Nat) (th : Nat) (vs : Nat) (bs : Nat) (ch : Nat) (mh : Nat) (me : Nat) (mb : Nat) (mn : Nat) (mw : Nat) (mr : Nat) (es : Nat) (pn : Nat) (ah : Option Nat) (fs : Nat)  : KI l y_Mod_about w_Mod_about rmm_about3 (dC, dI) CL_ [(cI, .int)] sz [.ref m0, .int (nI 3)] [(m0, .inr (7, [.int (nI th), .ref a1, .ref a2, .int (nI vs), .ref a3, .int (nI bs), .int (nI ch), .int (nI mh), .int (nI me), .int (nI mb), .int (nI mn), .ref a4, .ref a5, .int (nI mw), .int (nI mr), .ref a6, .int (nI es), .int (nI pn), .ref a7, .ref a8, .int (oI ah), .ref a9, .int (nI fs)]))] [(m0, .inr (7, [.int (nI 0), .ref a1, .ref a2, .int (nI vs), .ref a3, .int (nI bs), .int (nI ch), .int (nI mh), .int (nI me), .int (nI mb), .int (nI mn), .ref a4, .ref a5, .int (nI mw), .int (nI mr), .ref a6, .int (nI es), .int (nI pn), .ref a7, .ref a8, .int (oI ah), .ref a9, .int (nI fs)]))] (nI mn) := by
  refine k_start_i (cc := b_Mod_about) (maxL := 4) (by decide) (Nat.le_of_ble_eq_true rfl) ?_
  intro p e s m args below meth c A QQ ls SS hK hP hD hA hl hN hret
  obtain ⟨hx, hb, hml, hown, hts⟩ := id SS
  have hl : lv_has ls 4 [(0, .ref m0), (1, .int (nI 3))] := hl
  have hS : va_S A s.heap s.heap [] := va_S.rf
  refine lv_aload_n hx hb d_Mod_about_0 rfl (lv_at hl 0 rfl) ?_
  refine lv_iload_n hx hb d_Mod_about_1 rfl (lv_at hl 1 rfl) ?_
  refine n_if_lt (tgt := 11) hx hb d_Mod_about_2 (by decide) (by omega) ?_
  refine lv_iload_n hx hb d_Mod_about_5 rfl (lv_at hl 1 rfl) ?_
  refine lv_bipush (v := nI 8) hx hb d_Mod_about_6 (by decide) ?_
  refine n_icmp_le (tgt := 15) hx hb d_Mod_about_8 (by decide) (by decide) (by decide) (fun c_8 => ?_) (fun c_8 => ?_)
  · skip
    refine lv_iconst (v := bI false) hx hb d_Mod_about_15 (by decide) ?_
    refine lv_iconst (v := bI false) hx hb d_Mod_about_16 (by decide) ?_
    refine kj_i (wr := []) (va_runV (As := [.int (bI false), .int (bI false)]) (rest := []) SS (m_refuse0 l dC dI cI s.heap.size m0 a1 a2 a3 a4 a5 a6 a7 a8 a9 th vs bs ch mh me mb mn mw mr es pn ah fs ) (k_cwV 2 hts u_744 u_746 u_25 u_43 u_747 rfl rfl (by decide +kernel) ⟨Nat.le_of_ble_eq_true rfl, Nat.le_of_ble_eq_true rfl⟩) (kp_V hN hK [0] rfl hP hD [0] rfl (by decide) (ci := 7) rfl 0 rfl) rfl rfl hl.1 rfl (lv_room (Nat.le_of_ble_eq_true rfl)) d_Mod_about_17 ⟨Nat.le_of_ble_eq_true rfl, Nat.le_of_ble_eq_true rfl⟩) hP hD hS hA [0] [] rfl rfl (by decide) (by decide) (fun H locs hP hD hS => ?_)
    have hP : va_P (dC, dI) CL_ [(m0, .inr (7, [.int (nI 0), .ref a1, .ref a2, .int (nI vs), .ref a3, .int (nI bs), .int (nI ch), .int (nI mh), .int (nI me), .int (nI mb), .int (nI mn), .ref a4, .ref a5, .int (nI mw), .int (nI mr), .ref a6, .int (nI es), .int (nI pn), .ref a7, .ref a8, .int (oI ah), .ref a9, .int (nI fs)]))] H := hP
    have hD : va_D A [(m0, .inr (7, [.int (nI 0), .ref a1, .ref a2, .int (nI vs), .ref a3, .int (nI bs), .int (nI ch), .int (nI mh), .int (nI me), .int (nI mb), .int (nI mn), .ref a4, .ref a5, .int (nI mw), .int (nI mr), .ref a6, .int (nI es), .int (nI pn), .ref a7, .ref a8, .int (oI ah), .ref a9, .int (nI fs)]))] := hD
    refine n_if_eqB (tgt := 25) hx hb d_Mod_about_20 (by decide) (fun c_20 => ?_) (fun c_20 => ?_)
    · skip
      refine lv_iload_n hx hb d_Mod_about_25 rfl (lv_at hl 1 rfl) ?_
      refine lv_tableIn (tgt := 87) (off := 61) hx hb d_Mod_about_26 (by decide) (by decide) (by decide) (by decide) ?_
      refine lv_aload_n hx hb d_Mod_about_87 rfl (lv_at hl 0 rfl) ?_
      refine va_get (D := (dC, dI)) (ci := 7) (v := .int (nI mn)) (C := R_Mod) (T := F_Mod) (N := 23) hx hb hts in_Mod hown hK hP 0 rfl rfl 10 (by decide) (hts _ u_676) (fun _ h9 => h9) rfl d_Mod_about_88 ?_
      exact hret (nI mn) _ _ 91 ls d_Mod_about_91 (hP.sub [0] rfl) (hD.sub [0] (by decide) rfl) hS rfl
    · exact absurd c_20 (by decide)
  · exact absurd c_8 (by decide)
abbrev rmm_about4 : Room := { frames := 1, cells := 0, slots := 0, locals := 22 }
set_option maxHeartbeats 4000000 in
set_option maxRecDepth 100000 in
theorem m_about4 (l : Launch) (dC : Nat → ClassId) (dI : Nat → Nat → Nat) (cI : ClassId) (sz : Nat) (m0 : Nat) (a1 : Nat) (a2 : Nat) (a3 : Nat) (a4 : Nat) (a5 : Nat) (a6 : Nat) (a7 : Nat) (a8 : Nat) (a9 : Nat) (th : Nat) (vs : Nat) (bs : Nat) (ch : Nat) (mh : Nat) (me : Nat) (mb : Nat) (mn : Nat) (mw : Nat) (mr : Nat) (es : Nat) (pn : Nat) (ah : Option Nat) (fs : Nat) (zz : Nat → Option Nat) (hz : ∀ k, oSm (zz k)) : KI l y_Mod_about w_Mod_about rmm_about4 (dC, dI) CL_ [(cI, .int)] sz [.ref m0, .int (nI 4)] [(m0, .inr (7, [.int (nI th), .ref a1, .ref a2, .int (nI vs), .ref a3, .int (nI bs), .int (nI ch), .int (nI mh), .int (nI me), .int (nI mb), .int (nI mn), .ref a4, .ref a5, .int (nI mw), .int (nI mr), .ref a6, .int (nI es), .int (nI pn), .ref a7, .ref a8, .int (oI ah), .ref a9, .int (nI fs)])), (a4, .inl (cI, 200, .inl (oA zz)))] [(m0, .inr (7, [.int (nI 0), .ref a1, .ref a2, .int (nI vs), .ref a3, .int (nI bs), .int (nI ch), .int (nI mh), .int (nI me), .int (nI mb), .int (nI mn), .ref a4, .ref a5, .int (nI mw), .int (nI mr), .ref a6, .int (nI es), .int (nI pn), .ref a7, .ref a8, .int (oI ah), .ref a9, .int (nI fs)])), (a4, .inl (cI, 200, .inl (oA zz)))] (nI (cntN zz 200)) := by
  refine k_start_i (cc := b_Mod_about) (maxL := 4) (by decide) (Nat.le_of_ble_eq_true rfl) ?_
  intro p e s m args below meth c A QQ ls SS hK hP hD hA hl hN hret
  obtain ⟨hx, hb, hml, hown, hts⟩ := id SS
  have hl : lv_has ls 4 [(0, .ref m0), (1, .int (nI 4))] := hl
  have hS : va_S A s.heap s.heap [] := va_S.rf
  refine lv_aload_n hx hb d_Mod_about_0 rfl (lv_at hl 0 rfl) ?_
  refine lv_iload_n hx hb d_Mod_about_1 rfl (lv_at hl 1 rfl) ?_
  refine n_if_lt (tgt := 11) hx hb d_Mod_about_2 (by decide) (by omega) ?_
  refine lv_iload_n hx hb d_Mod_about_5 rfl (lv_at hl 1 rfl) ?_
  refine lv_bipush (v := nI 8) hx hb d_Mod_about_6 (by decide) ?_
  refine n_icmp_le (tgt := 15) hx hb d_Mod_about_8 (by decide) (by decide) (by decide) (fun c_8 => ?_) (fun c_8 => ?_)
  · skip
    refine lv_iconst (v := bI false) hx hb d_Mod_about_15 (by decide) ?_
    refine lv_iconst (v := bI false) hx hb d_Mod_about_16 (by decide) ?_
    refine kj_i (wr := [(a4, .inl (cI, 200, .inl (oA zz)))]) (va_runV (As := [.int (bI false), .int (bI false)]) (rest := []) SS (m_refuse0 l dC dI cI s.heap.size m0 a1 a2 a3 a4 a5 a6 a7 a8 a9 th vs bs ch mh me mb mn mw mr es pn ah fs ) (k_cwV 2 hts u_744 u_746 u_25 u_43 u_747 rfl rfl (by decide +kernel) ⟨Nat.le_of_ble_eq_true rfl, Nat.le_of_ble_eq_true rfl⟩) (kp_V hN hK [0] rfl hP hD [0] rfl (by decide) (ci := 7) rfl 0 rfl) rfl rfl hl.1 rfl (lv_room (Nat.le_of_ble_eq_true rfl)) d_Mod_about_17 ⟨Nat.le_of_ble_eq_true rfl, Nat.le_of_ble_eq_true rfl⟩) hP hD hS hA [0] [1] rfl rfl (by decide) (by decide) (fun H locs hP hD hS => ?_)
    have hP : va_P (dC, dI) CL_ [(a4, .inl (cI, 200, .inl (oA zz))), (m0, .inr (7, [.int (nI 0), .ref a1, .ref a2, .int (nI vs), .ref a3, .int (nI bs), .int (nI ch), .int (nI mh), .int (nI me), .int (nI mb), .int (nI mn), .ref a4, .ref a5, .int (nI mw), .int (nI mr), .ref a6, .int (nI es), .int (nI pn), .ref a7, .ref a8, .int (oI ah), .ref a9, .int (nI fs)]))] H := hP
    have hD : va_D A [(a4, .inl (cI, 200, .inl (oA zz))), (m0, .inr (7, [.int (nI 0), .ref a1, .ref a2, .int (nI vs), .ref a3, .int (nI bs), .int (nI ch), .int (nI mh), .int (nI me), .int (nI mb), .int (nI mn), .ref a4, .ref a5, .int (nI mw), .int (nI mr), .ref a6, .int (nI es), .int (nI pn), .ref a7, .ref a8, .int (oI ah), .ref a9, .int (nI fs)]))] := hD
    refine n_if_eqB (tgt := 25) hx hb d_Mod_about_20 (by decide) (fun c_20 => ?_) (fun c_20 => ?_)
    · skip
      refine lv_iload_n hx hb d_Mod_about_25 rfl (lv_at hl 1 rfl) ?_
      refine lv_tableIn (tgt := 92) (off := 66) hx hb d_Mod_about_26 (by decide) (by decide) (by decide) (by decide) ?_
      refine lv_iconst (v := nI 0) hx hb d_Mod_about_92 (by decide) ?_
      refine lv_istore_n (lv' := [(2, .int (nI 0)), (0, .ref m0), (1, .int (nI 4))]) hx hb d_Mod_about_93 rfl hl (by decide) rfl (fun ls hl => ?_)
      refine lv_iconst (v := nI 0) hx hb d_Mod_about_94 (by decide) ?_
      refine lv_istore_n (lv' := [(3, .int (nI 0)), (2, .int (nI 0)), (0, .ref m0), (1, .int (nI 4))]) hx hb d_Mod_about_95 rfl hl (by decide) rfl (fun ls hl => ?_)
      have loop_96 : ∀ (n_ : Nat) (i : Nat), (i ≤ 200) → (201 ≤ i + n_) → ∀ (H : Heap) (locs : List Loc) (ls : Array Slot), va_P (dC, dI) CL_ [(m0, .inr (7, [.int (nI 0), .ref a1, .ref a2, .int (nI vs), .ref a3, .int (nI bs), .int (nI ch), .int (nI mh), .int (nI me), .int (nI mb), .int (nI mn), .ref a4, .ref a5, .int (nI mw), .int (nI mr), .ref a6, .int (nI es), .int (nI pn), .ref a7, .ref a8, .int (oI ah), .ref a9, .int (nI fs)])), (a4, .inl (cI, 200, .inl (oA zz)))] H → va_D A [(m0, .inr (7, [.int (nI 0), .ref a1, .ref a2, .int (nI vs), .ref a3, .int (nI bs), .int (nI ch), .int (nI mh), .int (nI me), .int (nI mb), .int (nI mn), .ref a4, .ref a5, .int (nI mw), .int (nI mr), .ref a6, .int (nI es), .int (nI pn), .ref a7, .ref a8, .int (oI ah), .ref a9, .int (nI fs)])), (a4, .inl (cI, 200, .inl (oA zz)))] → va_S A s.heap H locs → lv_has ls 4 [(0, .ref m0), (1, .int (nI 4)), (2, .int (nI (cntN zz i))), (3, .int (nI i))] → W p l e rmm_about4 s m args below meth c H locs 0 0 QQ (F0 m 96 ls []) := by
        intro n_
        induction n_ with
        | zero =>
          intro i hi hf
          exact absurd hf (by omega)
        | succ n_ ih =>
          intro i hi hf H locs ls hP hD hS hl
          refine lv_iload_n hx hb d_Mod_about_96 rfl (lv_at hl 3 rfl) ?_
          refine lv_sipush (v := nI 200) hx hb d_Mod_about_97 (by decide) ?_
          refine n_icmp_ge (tgt := 126) hx hb d_Mod_about_100 (by decide) (by omega) (by omega) (fun c_100 => ?_) (fun c_100 => ?_)
          · skip
            have hq : i = 200 := by omega
            refine lv_iload_n hx hb d_Mod_about_126 rfl (lv_at hl 2 rfl) ?_
            exact hret (nI (cntN zz i)) _ _ 127 ls d_Mod_about_127 (hP.sub [0, 1] rfl) (hD.sub [0, 1] (by decide) rfl) hS (by rw [hq])
          · skip
            refine lv_iload_n hx hb d_Mod_about_103 rfl (lv_at hl 2 rfl) ?_
            refine lv_aload_n hx hb d_Mod_about_104 rfl (lv_at hl 0 rfl) ?_
            refine va_get (D := (dC, dI)) (ci := 7) (v := .ref a4) (C := R_Mod) (T := F_Mod) (N := 23) hx hb hts in_Mod hown hK hP 0 rfl rfl 11 (by decide) (hts _ u_677) (fun _ h9 => h9) rfl d_Mod_about_105 ?_
            refine lv_iload_n hx hb d_Mod_about_108 rfl (lv_at hl 3 rfl) ?_
            refine n_iald (v := oI (zz i)) hx hb hK hP 1 0 rfl rfl rfl (by omega) (by omega) d_Mod_about_109 ?_
            refine n_if_ltO (tgt := 117) hx hb d_Mod_about_110 (by decide) (hz i) (fun c_110 => ?_) (fun c_110 => ?_)
            · skip
              refine lv_iconst (v := nI 0) hx hb d_Mod_about_117 (by decide) ?_
              refine top_i (nI (if zz i = none then 0 else 1)) (by first | rw [if_pos c_110] | rw [if_neg c_110]) ?_
              refine n_iadd hx hb d_Mod_about_118 ?_
              refine lv_istore_n (lv' := [(2, .int (nI ((cntN zz i) + (if zz i = none then 0 else 1)))), (0, .ref m0), (1, .int (nI 4)), (3, .int (nI i))]) hx hb d_Mod_about_119 rfl hl (by decide) rfl (fun ls hl => ?_)
              refine lv_iinc (v := nI (i + 1)) (lv' := [(3, .int (nI (i + 1))), (2, .int (nI ((cntN zz i) + (if zz i = none then 0 else 1)))), (0, .ref m0), (1, .int (nI 4))]) hx hb d_Mod_about_120 hl (k := 3) rfl (inc1 i) (by decide) rfl (fun ls hl => ?_)
              refine lv_goto (tgt := 96) hx hb d_Mod_about_123 (by decide) ?_
              exact ih (i + 1) (by omega) (by omega) _ _ _ (hP.sub [0, 1] rfl) (hD.sub [0, 1] (by decide) rfl) hS (lv_sub hl [2, 3, 1, 0] rfl)
            · skip
              refine lv_iconst (v := nI 1) hx hb d_Mod_about_113 (by decide) ?_
              refine lv_goto (tgt := 118) hx hb d_Mod_about_114 (by decide) ?_
              refine top_i (nI (if zz i = none then 0 else 1)) (by first | rw [if_pos c_110] | rw [if_neg c_110]) ?_
              refine n_iadd hx hb d_Mod_about_118 ?_
              refine lv_istore_n (lv' := [(2, .int (nI ((cntN zz i) + (if zz i = none then 0 else 1)))), (0, .ref m0), (1, .int (nI 4)), (3, .int (nI i))]) hx hb d_Mod_about_119 rfl hl (by decide) rfl (fun ls hl => ?_)
              refine lv_iinc (v := nI (i + 1)) (lv' := [(3, .int (nI (i + 1))), (2, .int (nI ((cntN zz i) + (if zz i = none then 0 else 1)))), (0, .ref m0), (1, .int (nI 4))]) hx hb d_Mod_about_120 hl (k := 3) rfl (inc1 i) (by decide) rfl (fun ls hl => ?_)
              refine lv_goto (tgt := 96) hx hb d_Mod_about_123 (by decide) ?_
              exact ih (i + 1) (by omega) (by omega) _ _ _ (hP.sub [0, 1] rfl) (hD.sub [0, 1] (by decide) rfl) hS (lv_sub hl [2, 3, 1, 0] rfl)
      exact loop_96 201 0 (by omega) (by omega) _ _ _ (hP.sub [1, 0] rfl) (hD.sub [1, 0] (by decide) rfl) hS (lv_sub hl [2, 3, 1, 0] rfl)
    · exact absurd c_20 (by decide)
  · exact absurd c_8 (by decide)
abbrev rmm_about5 : Room := { frames := 1, cells := 0, slots := 0, locals := 22 }
set_option maxHeartbeats 4000000 in
set_option maxRecDepth 100000 in
theorem m_about5 (l : Launch) (dC : Nat → ClassId) (dI : Nat → Nat → Nat) (cI : ClassId) (sz : Nat) (m0 : Nat) (a1 : Nat) (a2 : Nat) (a3 : Nat) (a4 : Nat) (a5 : Nat) (a6 : Nat) (a7 : Nat) (a8 : Nat) (a9 : Nat) (th : Nat) (vs : Nat) (bs : Nat) (ch : Nat) (mh : Nat) (me : Nat) (mb : Nat) (mn : Nat) (mw : Nat) (mr : Nat) (es : Nat) (pn : Nat) (ah : Option Nat) (fs : Nat)  : KI l y_Mod_about w_Mod_about rmm_about5 (dC, dI) CL_ [(cI, .int)] sz [.ref m0, .int (nI 5)] [(m0, .inr (7, [.int (nI th), .ref a1, .ref a2, .int (nI vs), .ref a3, .int (nI bs), .int (nI ch), .int (nI mh), .int (nI me), .int (nI mb), .int (nI mn), .ref a4, .ref a5, .int (nI mw), .int (nI mr), .ref a6, .int (nI es), .int (nI pn), .ref a7, .ref a8, .int (oI ah), .ref a9, .int (nI fs)]))] [(m0, .inr (7, [.int (nI 0), .ref a1, .ref a2, .int (nI vs), .ref a3, .int (nI bs), .int (nI ch), .int (nI mh), .int (nI me), .int (nI mb), .int (nI mn), .ref a4, .ref a5, .int (nI mw), .int (nI mr), .ref a6, .int (nI es), .int (nI pn), .ref a7, .ref a8, .int (oI ah), .ref a9, .int (nI fs)]))] (nI mw) := by
  refine k_start_i (cc := b_Mod_about) (maxL := 4) (by decide) (Nat.le_of_ble_eq_true rfl) ?_
  intro p e s m args below meth c A QQ ls SS hK hP hD hA hl hN hret
  obtain ⟨hx, hb, hml, hown, hts⟩ := id SS
  have hl : lv_has ls 4 [(0, .ref m0), (1, .int (nI 5))] := hl
  have hS : va_S A s.heap s.heap [] := va_S.rf
  refine lv_aload_n hx hb d_Mod_about_0 rfl (lv_at hl 0 rfl) ?_
  refine lv_iload_n hx hb d_Mod_about_1 rfl (lv_at hl 1 rfl) ?_
  refine n_if_lt (tgt := 11) hx hb d_Mod_about_2 (by decide) (by omega) ?_
  refine lv_iload_n hx hb d_Mod_about_5 rfl (lv_at hl 1 rfl) ?_
  refine lv_bipush (v := nI 8) hx hb d_Mod_about_6 (by decide) ?_
  refine n_icmp_le (tgt := 15) hx hb d_Mod_about_8 (by decide) (by decide) (by decide) (fun c_8 => ?_) (fun c_8 => ?_)
  · skip
    refine lv_iconst (v := bI false) hx hb d_Mod_about_15 (by decide) ?_
    refine lv_iconst (v := bI false) hx hb d_Mod_about_16 (by decide) ?_
    refine kj_i (wr := []) (va_runV (As := [.int (bI false), .int (bI false)]) (rest := []) SS (m_refuse0 l dC dI cI s.heap.size m0 a1 a2 a3 a4 a5 a6 a7 a8 a9 th vs bs ch mh me mb mn mw mr es pn ah fs ) (k_cwV 2 hts u_744 u_746 u_25 u_43 u_747 rfl rfl (by decide +kernel) ⟨Nat.le_of_ble_eq_true rfl, Nat.le_of_ble_eq_true rfl⟩) (kp_V hN hK [0] rfl hP hD [0] rfl (by decide) (ci := 7) rfl 0 rfl) rfl rfl hl.1 rfl (lv_room (Nat.le_of_ble_eq_true rfl)) d_Mod_about_17 ⟨Nat.le_of_ble_eq_true rfl, Nat.le_of_ble_eq_true rfl⟩) hP hD hS hA [0] [] rfl rfl (by decide) (by decide) (fun H locs hP hD hS => ?_)
    have hP : va_P (dC, dI) CL_ [(m0, .inr (7, [.int (nI 0), .ref a1, .ref a2, .int (nI vs), .ref a3, .int (nI bs), .int (nI ch), .int (nI mh), .int (nI me), .int (nI mb), .int (nI mn), .ref a4, .ref a5, .int (nI mw), .int (nI mr), .ref a6, .int (nI es), .int (nI pn), .ref a7, .ref a8, .int (oI ah), .ref a9, .int (nI fs)]))] H := hP
    have hD : va_D A [(m0, .inr (7, [.int (nI 0), .ref a1, .ref a2, .int (nI vs), .ref a3, .int (nI bs), .int (nI ch), .int (nI mh), .int (nI me), .int (nI mb), .int (nI mn), .ref a4, .ref a5, .int (nI mw), .int (nI mr), .ref a6, .int (nI es), .int (nI pn), .ref a7, .ref a8, .int (oI ah), .ref a9, .int (nI fs)]))] := hD
    refine n_if_eqB (tgt := 25) hx hb d_Mod_about_20 (by decide) (fun c_20 => ?_) (fun c_20 => ?_)
    · skip
      refine lv_iload_n hx hb d_Mod_about_25 rfl (lv_at hl 1 rfl) ?_
      refine lv_tableIn (tgt := 128) (off := 102) hx hb d_Mod_about_26 (by decide) (by decide) (by decide) (by decide) ?_
      refine lv_aload_n hx hb d_Mod_about_128 rfl (lv_at hl 0 rfl) ?_
      refine va_get (D := (dC, dI)) (ci := 7) (v := .int (nI mw)) (C := R_Mod) (T := F_Mod) (N := 23) hx hb hts in_Mod hown hK hP 0 rfl rfl 13 (by decide) (hts _ u_679) (fun _ h9 => h9) rfl d_Mod_about_129 ?_
      exact hret (nI mw) _ _ 132 ls d_Mod_about_132 (hP.sub [0] rfl) (hD.sub [0] (by decide) rfl) hS rfl
    · exact absurd c_20 (by decide)
  · exact absurd c_8 (by decide)
abbrev rmm_about6 : Room := { frames := 1, cells := 0, slots := 0, locals := 22 }
set_option maxHeartbeats 4000000 in
set_option maxRecDepth 100000 in
theorem m_about6 (l : Launch) (dC : Nat → ClassId) (dI : Nat → Nat → Nat) (cI : ClassId) (sz : Nat) (m0 : Nat) (a1 : Nat) (a2 : Nat) (a3 : Nat) (a4 : Nat) (a5 : Nat) (a6 : Nat) (a7 : Nat) (a8 : Nat) (a9 : Nat) (th : Nat) (vs : Nat) (bs : Nat) (ch : Nat) (mh : Nat) (me : Nat) (mb : Nat) (mn : Nat) (mw : Nat) (mr : Nat) (es : Nat) (pn : Nat) (ah : Option Nat) (fs : Nat)  : KI l y_Mod_about w_Mod_about rmm_about6 (dC, dI) CL_ [(cI, .int)] sz [.ref m0, .int (nI 6)] [(m0, .inr (7, [.int (nI th), .ref a1, .ref a2, .int (nI vs), .ref a3, .int (nI bs), .int (nI ch), .int (nI mh), .int (nI me), .int (nI mb), .int (nI mn), .ref a4, .ref a5, .int (nI mw), .int (nI mr), .ref a6, .int (nI es), .int (nI pn), .ref a7, .ref a8, .int (oI ah), .ref a9, .int (nI fs)]))] [(m0, .inr (7, [.int (nI 0), .ref a1, .ref a2, .int (nI vs), .ref a3, .int (nI bs), .int (nI ch), .int (nI mh), .int (nI me), .int (nI mb), .int (nI mn), .ref a4, .ref a5, .int (nI mw), .int (nI mr), .ref a6, .int (nI es), .int (nI pn), .ref a7, .ref a8, .int (oI ah), .ref a9, .int (nI fs)]))] (nI mr) := by
  refine k_start_i (cc := b_Mod_about) (maxL := 4) (by decide) (Nat.le_of_ble_eq_true rfl) ?_
  intro p e s m args below meth c A QQ ls SS hK hP hD hA hl hN hret
  obtain ⟨hx, hb, hml, hown, hts⟩ := id SS
  have hl : lv_has ls 4 [(0, .ref m0), (1, .int (nI 6))] := hl
  have hS : va_S A s.heap s.heap [] := va_S.rf
  refine lv_aload_n hx hb d_Mod_about_0 rfl (lv_at hl 0 rfl) ?_
  refine lv_iload_n hx hb d_Mod_about_1 rfl (lv_at hl 1 rfl) ?_
  refine n_if_lt (tgt := 11) hx hb d_Mod_about_2 (by decide) (by omega) ?_
  refine lv_iload_n hx hb d_Mod_about_5 rfl (lv_at hl 1 rfl) ?_
  refine lv_bipush (v := nI 8) hx hb d_Mod_about_6 (by decide) ?_
  refine n_icmp_le (tgt := 15) hx hb d_Mod_about_8 (by decide) (by decide) (by decide) (fun c_8 => ?_) (fun c_8 => ?_)
  · skip
    refine lv_iconst (v := bI false) hx hb d_Mod_about_15 (by decide) ?_
    refine lv_iconst (v := bI false) hx hb d_Mod_about_16 (by decide) ?_
    refine kj_i (wr := []) (va_runV (As := [.int (bI false), .int (bI false)]) (rest := []) SS (m_refuse0 l dC dI cI s.heap.size m0 a1 a2 a3 a4 a5 a6 a7 a8 a9 th vs bs ch mh me mb mn mw mr es pn ah fs ) (k_cwV 2 hts u_744 u_746 u_25 u_43 u_747 rfl rfl (by decide +kernel) ⟨Nat.le_of_ble_eq_true rfl, Nat.le_of_ble_eq_true rfl⟩) (kp_V hN hK [0] rfl hP hD [0] rfl (by decide) (ci := 7) rfl 0 rfl) rfl rfl hl.1 rfl (lv_room (Nat.le_of_ble_eq_true rfl)) d_Mod_about_17 ⟨Nat.le_of_ble_eq_true rfl, Nat.le_of_ble_eq_true rfl⟩) hP hD hS hA [0] [] rfl rfl (by decide) (by decide) (fun H locs hP hD hS => ?_)
    have hP : va_P (dC, dI) CL_ [(m0, .inr (7, [.int (nI 0), .ref a1, .ref a2, .int (nI vs), .ref a3, .int (nI bs), .int (nI ch), .int (nI mh), .int (nI me), .int (nI mb), .int (nI mn), .ref a4, .ref a5, .int (nI mw), .int (nI mr), .ref a6, .int (nI es), .int (nI pn), .ref a7, .ref a8, .int (oI ah), .ref a9, .int (nI fs)]))] H := hP
    have hD : va_D A [(m0, .inr (7, [.int (nI 0), .ref a1, .ref a2, .int (nI vs), .ref a3, .int (nI bs), .int (nI ch), .int (nI mh), .int (nI me), .int (nI mb), .int (nI mn), .ref a4, .ref a5, .int (nI mw), .int (nI mr), .ref a6, .int (nI es), .int (nI pn), .ref a7, .ref a8, .int (oI ah), .ref a9, .int (nI fs)]))] := hD
    refine n_if_eqB (tgt := 25) hx hb d_Mod_about_20 (by decide) (fun c_20 => ?_) (fun c_20 => ?_)
    · skip
      refine lv_iload_n hx hb d_Mod_about_25 rfl (lv_at hl 1 rfl) ?_
      refine lv_tableIn (tgt := 133) (off := 107) hx hb d_Mod_about_26 (by decide) (by decide) (by decide) (by decide) ?_
      refine lv_aload_n hx hb d_Mod_about_133 rfl (lv_at hl 0 rfl) ?_
      refine va_get (D := (dC, dI)) (ci := 7) (v := .int (nI mr)) (C := R_Mod) (T := F_Mod) (N := 23) hx hb hts in_Mod hown hK hP 0 rfl rfl 14 (by decide) (hts _ u_680) (fun _ h9 => h9) rfl d_Mod_about_134 ?_
      exact hret (nI mr) _ _ 137 ls d_Mod_about_137 (hP.sub [0] rfl) (hD.sub [0] (by decide) rfl) hS rfl
    · exact absurd c_20 (by decide)
  · exact absurd c_8 (by decide)
abbrev rmm_about7 : Room := { frames := 1, cells := 0, slots := 0, locals := 22 }
set_option maxHeartbeats 4000000 in
set_option maxRecDepth 100000 in
theorem m_about7 (l : Launch) (dC : Nat → ClassId) (dI : Nat → Nat → Nat) (cI : ClassId) (sz : Nat) (m0 : Nat) (a1 : Nat) (a2 : Nat) (a3 : Nat) (a4 : Nat) (a5 : Nat) (a6 : Nat) (a7 : Nat) (a8 : Nat) (a9 : Nat) (th : Nat) (vs : Nat) (bs : Nat) (ch : Nat) (mh : Nat) (me : Nat) (mb : Nat) (mn : Nat) (mw : Nat) (mr : Nat) (es : Nat) (pn : Nat) (ah : Option Nat) (fs : Nat)  : KI l y_Mod_about w_Mod_about rmm_about7 (dC, dI) CL_ [(cI, .int)] sz [.ref m0, .int (nI 7)] [(m0, .inr (7, [.int (nI th), .ref a1, .ref a2, .int (nI vs), .ref a3, .int (nI bs), .int (nI ch), .int (nI mh), .int (nI me), .int (nI mb), .int (nI mn), .ref a4, .ref a5, .int (nI mw), .int (nI mr), .ref a6, .int (nI es), .int (nI pn), .ref a7, .ref a8, .int (oI ah), .ref a9, .int (nI fs)]))] [(m0, .inr (7, [.int (nI 0), .ref a1, .ref a2, .int (nI vs), .ref a3, .int (nI bs), .int (nI ch), .int (nI mh), .int (nI me), .int (nI mb), .int (nI mn), .ref a4, .ref a5, .int (nI mw), .int (nI mr), .ref a6, .int (nI es), .int (nI pn), .ref a7, .ref a8, .int (oI ah), .ref a9, .int (nI fs)]))] (nI ch) := by
  refine k_start_i (cc := b_Mod_about) (maxL := 4) (by decide) (Nat.le_of_ble_eq_true rfl) ?_
  intro p e s m args below meth c A QQ ls SS hK hP hD hA hl hN hret
  obtain ⟨hx, hb, hml, hown, hts⟩ := id SS
  have hl : lv_has ls 4 [(0, .ref m0), (1, .int (nI 7))] := hl
  have hS : va_S A s.heap s.heap [] := va_S.rf
  refine lv_aload_n hx hb d_Mod_about_0 rfl (lv_at hl 0 rfl) ?_
  refine lv_iload_n hx hb d_Mod_about_1 rfl (lv_at hl 1 rfl) ?_
  refine n_if_lt (tgt := 11) hx hb d_Mod_about_2 (by decide) (by omega) ?_
  refine lv_iload_n hx hb d_Mod_about_5 rfl (lv_at hl 1 rfl) ?_
  refine lv_bipush (v := nI 8) hx hb d_Mod_about_6 (by decide) ?_
  refine n_icmp_le (tgt := 15) hx hb d_Mod_about_8 (by decide) (by decide) (by decide) (fun c_8 => ?_) (fun c_8 => ?_)
  · skip
    refine lv_iconst (v := bI false) hx hb d_Mod_about_15 (by decide) ?_
    refine lv_iconst (v := bI false) hx hb d_Mod_about_16 (by decide) ?_
    refine kj_i (wr := []) (va_runV (As := [.int (bI false), .int (bI false)]) (rest := []) SS (m_refuse0 l dC dI cI s.heap.size m0 a1 a2 a3 a4 a5 a6 a7 a8 a9 th vs bs ch mh me mb mn mw mr es pn ah fs ) (k_cwV 2 hts u_744 u_746 u_25 u_43 u_747 rfl rfl (by decide +kernel) ⟨Nat.le_of_ble_eq_true rfl, Nat.le_of_ble_eq_true rfl⟩) (kp_V hN hK [0] rfl hP hD [0] rfl (by decide) (ci := 7) rfl 0 rfl) rfl rfl hl.1 rfl (lv_room (Nat.le_of_ble_eq_true rfl)) d_Mod_about_17 ⟨Nat.le_of_ble_eq_true rfl, Nat.le_of_ble_eq_true rfl⟩) hP hD hS hA [0] [] rfl rfl (by decide) (by decide) (fun H locs hP hD hS => ?_)
    have hP : va_P (dC, dI) CL_ [(m0, .inr (7, [.int (nI 0), .ref a1, .ref a2, .int (nI vs), .ref a3, .int (nI bs), .int (nI ch), .int (nI mh), .int (nI me), .int (nI mb), .int (nI mn), .ref a4, .ref a5, .int (nI mw), .int (nI mr), .ref a6, .int (nI es), .int (nI pn), .ref a7, .ref a8, .int (oI ah), .ref a9, .int (nI fs)]))] H := hP
    have hD : va_D A [(m0, .inr (7, [.int (nI 0), .ref a1, .ref a2, .int (nI vs), .ref a3, .int (nI bs), .int (nI ch), .int (nI mh), .int (nI me), .int (nI mb), .int (nI mn), .ref a4, .ref a5, .int (nI mw), .int (nI mr), .ref a6, .int (nI es), .int (nI pn), .ref a7, .ref a8, .int (oI ah), .ref a9, .int (nI fs)]))] := hD
    refine n_if_eqB (tgt := 25) hx hb d_Mod_about_20 (by decide) (fun c_20 => ?_) (fun c_20 => ?_)
    · skip
      refine lv_iload_n hx hb d_Mod_about_25 rfl (lv_at hl 1 rfl) ?_
      refine lv_tableIn (tgt := 138) (off := 112) hx hb d_Mod_about_26 (by decide) (by decide) (by decide) (by decide) ?_
      refine lv_aload_n hx hb d_Mod_about_138 rfl (lv_at hl 0 rfl) ?_
      refine va_get (D := (dC, dI)) (ci := 7) (v := .int (nI ch)) (C := R_Mod) (T := F_Mod) (N := 23) hx hb hts in_Mod hown hK hP 0 rfl rfl 6 (by decide) (hts _ u_672) (fun _ h9 => h9) rfl d_Mod_about_139 ?_
      exact hret (nI ch) _ _ 142 ls d_Mod_about_142 (hP.sub [0] rfl) (hD.sub [0] (by decide) rfl) hS rfl
    · exact absurd c_20 (by decide)
  · exact absurd c_8 (by decide)
abbrev rmm_about8 : Room := { frames := 1, cells := 0, slots := 0, locals := 22 }
set_option maxHeartbeats 4000000 in
set_option maxRecDepth 100000 in
theorem m_about8 (l : Launch) (dC : Nat → ClassId) (dI : Nat → Nat → Nat) (cI : ClassId) (sz : Nat) (m0 : Nat) (a1 : Nat) (a2 : Nat) (a3 : Nat) (a4 : Nat) (a5 : Nat) (a6 : Nat) (a7 : Nat) (a8 : Nat) (a9 : Nat) (th : Nat) (vs : Nat) (bs : Nat) (ch : Nat) (mh : Nat) (me : Nat) (mb : Nat) (mn : Nat) (mw : Nat) (mr : Nat) (es : Nat) (pn : Nat) (ah : Option Nat) (fs : Nat)  : KI l y_Mod_about w_Mod_about rmm_about8 (dC, dI) CL_ [(cI, .int)] sz [.ref m0, .int (nI 8)] [(m0, .inr (7, [.int (nI th), .ref a1, .ref a2, .int (nI vs), .ref a3, .int (nI bs), .int (nI ch), .int (nI mh), .int (nI me), .int (nI mb), .int (nI mn), .ref a4, .ref a5, .int (nI mw), .int (nI mr), .ref a6, .int (nI es), .int (nI pn), .ref a7, .ref a8, .int (oI ah), .ref a9, .int (nI fs)]))] [(m0, .inr (7, [.int (nI 0), .ref a1, .ref a2, .int (nI vs), .ref a3, .int (nI bs), .int (nI ch), .int (nI mh), .int (nI me), .int (nI mb), .int (nI mn), .ref a4, .ref a5, .int (nI mw), .int (nI mr), .ref a6, .int (nI es), .int (nI pn), .ref a7, .ref a8, .int (oI ah), .ref a9, .int (nI fs)]))] (nI vs) := by
  refine k_start_i (cc := b_Mod_about) (maxL := 4) (by decide) (Nat.le_of_ble_eq_true rfl) ?_
  intro p e s m args below meth c A QQ ls SS hK hP hD hA hl hN hret
  obtain ⟨hx, hb, hml, hown, hts⟩ := id SS
  have hl : lv_has ls 4 [(0, .ref m0), (1, .int (nI 8))] := hl
  have hS : va_S A s.heap s.heap [] := va_S.rf
  refine lv_aload_n hx hb d_Mod_about_0 rfl (lv_at hl 0 rfl) ?_
  refine lv_iload_n hx hb d_Mod_about_1 rfl (lv_at hl 1 rfl) ?_
  refine n_if_lt (tgt := 11) hx hb d_Mod_about_2 (by decide) (by omega) ?_
  refine lv_iload_n hx hb d_Mod_about_5 rfl (lv_at hl 1 rfl) ?_
  refine lv_bipush (v := nI 8) hx hb d_Mod_about_6 (by decide) ?_
  refine n_icmp_le (tgt := 15) hx hb d_Mod_about_8 (by decide) (by decide) (by decide) (fun c_8 => ?_) (fun c_8 => ?_)
  · skip
    refine lv_iconst (v := bI false) hx hb d_Mod_about_15 (by decide) ?_
    refine lv_iconst (v := bI false) hx hb d_Mod_about_16 (by decide) ?_
    refine kj_i (wr := []) (va_runV (As := [.int (bI false), .int (bI false)]) (rest := []) SS (m_refuse0 l dC dI cI s.heap.size m0 a1 a2 a3 a4 a5 a6 a7 a8 a9 th vs bs ch mh me mb mn mw mr es pn ah fs ) (k_cwV 2 hts u_744 u_746 u_25 u_43 u_747 rfl rfl (by decide +kernel) ⟨Nat.le_of_ble_eq_true rfl, Nat.le_of_ble_eq_true rfl⟩) (kp_V hN hK [0] rfl hP hD [0] rfl (by decide) (ci := 7) rfl 0 rfl) rfl rfl hl.1 rfl (lv_room (Nat.le_of_ble_eq_true rfl)) d_Mod_about_17 ⟨Nat.le_of_ble_eq_true rfl, Nat.le_of_ble_eq_true rfl⟩) hP hD hS hA [0] [] rfl rfl (by decide) (by decide) (fun H locs hP hD hS => ?_)
    have hP : va_P (dC, dI) CL_ [(m0, .inr (7, [.int (nI 0), .ref a1, .ref a2, .int (nI vs), .ref a3, .int (nI bs), .int (nI ch), .int (nI mh), .int (nI me), .int (nI mb), .int (nI mn), .ref a4, .ref a5, .int (nI mw), .int (nI mr), .ref a6, .int (nI es), .int (nI pn), .ref a7, .ref a8, .int (oI ah), .ref a9, .int (nI fs)]))] H := hP
    have hD : va_D A [(m0, .inr (7, [.int (nI 0), .ref a1, .ref a2, .int (nI vs), .ref a3, .int (nI bs), .int (nI ch), .int (nI mh), .int (nI me), .int (nI mb), .int (nI mn), .ref a4, .ref a5, .int (nI mw), .int (nI mr), .ref a6, .int (nI es), .int (nI pn), .ref a7, .ref a8, .int (oI ah), .ref a9, .int (nI fs)]))] := hD
    refine n_if_eqB (tgt := 25) hx hb d_Mod_about_20 (by decide) (fun c_20 => ?_) (fun c_20 => ?_)
    · skip
      refine lv_iload_n hx hb d_Mod_about_25 rfl (lv_at hl 1 rfl) ?_
      refine lv_tableOut (tgt := 143) hx hb d_Mod_about_26 (by decide) (by decide) ?_
      refine lv_aload_n hx hb d_Mod_about_143 rfl (lv_at hl 0 rfl) ?_
      refine va_get (D := (dC, dI)) (ci := 7) (v := .int (nI vs)) (C := R_Mod) (T := F_Mod) (N := 23) hx hb hts in_Mod hown hK hP 0 rfl rfl 3 (by decide) (hts _ u_669) (fun _ h9 => h9) rfl d_Mod_about_144 ?_
      exact hret (nI vs) _ _ 147 ls d_Mod_about_147 (hP.sub [0] rfl) (hD.sub [0] (by decide) rfl) hS rfl
    · exact absurd c_20 (by decide)
  · exact absurd c_8 (by decide)
abbrev rmm_aboutX : Room := { frames := 1, cells := 0, slots := 0, locals := 22 }
set_option maxHeartbeats 4000000 in
set_option maxRecDepth 100000 in
theorem m_aboutX (l : Launch) (dC : Nat → ClassId) (dI : Nat → Nat → Nat) (cI : ClassId) (sz : Nat) (m0 : Nat) (a1 : Nat) (a2 : Nat) (a3 : Nat) (a4 : Nat) (a5 : Nat) (a6 : Nat) (a7 : Nat) (a8 : Nat) (a9 : Nat) (th : Nat) (vs : Nat) (bs : Nat) (ch : Nat) (mh : Nat) (me : Nat) (mb : Nat) (mn : Nat) (mw : Nat) (mr : Nat) (es : Nat) (pn : Nat) (ah : Option Nat) (fs : Nat) (x : Int32) (hx1 : x < 0 ∨ nI 8 < x) : KI l y_Mod_about w_Mod_about rmm_aboutX (dC, dI) CL_ [(cI, .int)] sz [.ref m0, .int x] [(m0, .inr (7, [.int (nI th), .ref a1, .ref a2, .int (nI vs), .ref a3, .int (nI bs), .int (nI ch), .int (nI mh), .int (nI me), .int (nI mb), .int (nI mn), .ref a4, .ref a5, .int (nI mw), .int (nI mr), .ref a6, .int (nI es), .int (nI pn), .ref a7, .ref a8, .int (oI ah), .ref a9, .int (nI fs)]))] [(m0, .inr (7, [.int (nI 1), .ref a1, .ref a2, .int (nI vs), .ref a3, .int (nI bs), .int (nI ch), .int (nI mh), .int (nI me), .int (nI mb), .int (nI mn), .ref a4, .ref a5, .int (nI mw), .int (nI mr), .ref a6, .int (nI es), .int (nI pn), .ref a7, .ref a8, .int (oI ah), .ref a9, .int (nI fs)]))] (nI 0) := by
  refine k_start_i (cc := b_Mod_about) (maxL := 4) (by decide) (Nat.le_of_ble_eq_true rfl) ?_
  intro p e s m args below meth c A QQ ls SS hK hP hD hA hl hN hret
  obtain ⟨hx, hb, hml, hown, hts⟩ := id SS
  have hl : lv_has ls 4 [(0, .ref m0), (1, .int x)] := hl
  have hS : va_S A s.heap s.heap [] := va_S.rf
  refine lv_aload_n hx hb d_Mod_about_0 rfl (lv_at hl 0 rfl) ?_
  refine lv_iload_n hx hb d_Mod_about_1 rfl (lv_at hl 1 rfl) ?_
  refine lv_if_lt (tgt := 11) hx hb d_Mod_about_2 (by decide) (fun c_2 => ?_) (fun c_2 => ?_)
  · skip
    refine lv_iconst (v := bI true) hx hb d_Mod_about_11 (by decide) ?_
    refine lv_goto (tgt := 16) hx hb d_Mod_about_12 (by decide) ?_
    refine lv_iconst (v := bI false) hx hb d_Mod_about_16 (by decide) ?_
    refine kj_i (wr := []) (va_runV (As := [.int (bI true), .int (bI false)]) (rest := []) SS (m_refuse1 l dC dI cI s.heap.size m0 a1 a2 a3 a4 a5 a6 a7 a8 a9 th vs bs ch mh me mb mn mw mr es pn ah fs false ) (k_cwV 2 hts u_744 u_746 u_25 u_43 u_747 rfl rfl (by decide +kernel) ⟨Nat.le_of_ble_eq_true rfl, Nat.le_of_ble_eq_true rfl⟩) (kp_V hN hK [0] rfl hP hD [0] rfl (by decide) (ci := 7) rfl 0 rfl) rfl rfl hl.1 rfl (lv_room (Nat.le_of_ble_eq_true rfl)) d_Mod_about_17 ⟨Nat.le_of_ble_eq_true rfl, Nat.le_of_ble_eq_true rfl⟩) hP hD hS hA [0] [] rfl rfl (by decide) (by decide) (fun H locs hP hD hS => ?_)
    have hP : va_P (dC, dI) CL_ [(m0, .inr (7, [.int (nI 1), .ref a1, .ref a2, .int (nI vs), .ref a3, .int (nI bs), .int (nI ch), .int (nI mh), .int (nI me), .int (nI mb), .int (nI mn), .ref a4, .ref a5, .int (nI mw), .int (nI mr), .ref a6, .int (nI es), .int (nI pn), .ref a7, .ref a8, .int (oI ah), .ref a9, .int (nI fs)]))] H := hP
    have hD : va_D A [(m0, .inr (7, [.int (nI 1), .ref a1, .ref a2, .int (nI vs), .ref a3, .int (nI bs), .int (nI ch), .int (nI mh), .int (nI me), .int (nI mb), .int (nI mn), .ref a4, .ref a5, .int (nI mw), .int (nI mr), .ref a6, .int (nI es), .int (nI pn), .ref a7, .ref a8, .int (oI ah), .ref a9, .int (nI fs)]))] := hD
    refine n_if_eqB (tgt := 25) hx hb d_Mod_about_20 (by decide) (fun c_20 => ?_) (fun c_20 => ?_)
    · exact absurd c_20 (by decide)
    · skip
      refine lv_iconst (v := nI 0) hx hb d_Mod_about_23 (by decide) ?_
      exact hret (nI 0) _ _ 24 ls d_Mod_about_24 (hP.sub [0] rfl) (hD.sub [0] (by decide) rfl) hS rfl
  · skip
    refine lv_iload_n hx hb d_Mod_about_5 rfl (lv_at hl 1 rfl) ?_
    refine lv_bipush (v := nI 8) hx hb d_Mod_about_6 (by decide) ?_
    refine lv_icmp_le (tgt := 15) hx hb d_Mod_about_8 (by decide) (fun c_8 => ?_) (fun c_8 => ?_)
    · exact absurd hx1 (fun q => q.elim c_2 (Int32.not_lt.mpr c_8))
    · skip
      refine lv_iconst (v := bI true) hx hb d_Mod_about_11 (by decide) ?_
      refine lv_goto (tgt := 16) hx hb d_Mod_about_12 (by decide) ?_
      refine lv_iconst (v := bI false) hx hb d_Mod_about_16 (by decide) ?_
      refine kj_i (wr := []) (va_runV (As := [.int (bI true), .int (bI false)]) (rest := []) SS (m_refuse1 l dC dI cI s.heap.size m0 a1 a2 a3 a4 a5 a6 a7 a8 a9 th vs bs ch mh me mb mn mw mr es pn ah fs false ) (k_cwV 2 hts u_744 u_746 u_25 u_43 u_747 rfl rfl (by decide +kernel) ⟨Nat.le_of_ble_eq_true rfl, Nat.le_of_ble_eq_true rfl⟩) (kp_V hN hK [0] rfl hP hD [0] rfl (by decide) (ci := 7) rfl 0 rfl) rfl rfl hl.1 rfl (lv_room (Nat.le_of_ble_eq_true rfl)) d_Mod_about_17 ⟨Nat.le_of_ble_eq_true rfl, Nat.le_of_ble_eq_true rfl⟩) hP hD hS hA [0] [] rfl rfl (by decide) (by decide) (fun H locs hP hD hS => ?_)
      have hP : va_P (dC, dI) CL_ [(m0, .inr (7, [.int (nI 1), .ref a1, .ref a2, .int (nI vs), .ref a3, .int (nI bs), .int (nI ch), .int (nI mh), .int (nI me), .int (nI mb), .int (nI mn), .ref a4, .ref a5, .int (nI mw), .int (nI mr), .ref a6, .int (nI es), .int (nI pn), .ref a7, .ref a8, .int (oI ah), .ref a9, .int (nI fs)]))] H := hP
      have hD : va_D A [(m0, .inr (7, [.int (nI 1), .ref a1, .ref a2, .int (nI vs), .ref a3, .int (nI bs), .int (nI ch), .int (nI mh), .int (nI me), .int (nI mb), .int (nI mn), .ref a4, .ref a5, .int (nI mw), .int (nI mr), .ref a6, .int (nI es), .int (nI pn), .ref a7, .ref a8, .int (oI ah), .ref a9, .int (nI fs)]))] := hD
      refine n_if_eqB (tgt := 25) hx hb d_Mod_about_20 (by decide) (fun c_20 => ?_) (fun c_20 => ?_)
      · exact absurd c_20 (by decide)
      · skip
        refine lv_iconst (v := nI 0) hx hb d_Mod_about_23 (by decide) ?_
        exact hret (nI 0) _ _ 24 ls d_Mod_about_24 (hP.sub [0] rfl) (hD.sub [0] (by decide) rfl) hS rfl
