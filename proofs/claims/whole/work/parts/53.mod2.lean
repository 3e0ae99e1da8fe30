abbrev rmm_isEntry0 : Room := { frames := 0, cells := 0, slots := 0, locals := 0 }
set_option maxHeartbeats 4000000 in
set_option maxRecDepth 100000 in
theorem m_isEntry0 (l : Launch) (dC : Nat → ClassId) (dI : Nat → Nat → Nat) (cI : ClassId) (sz : Nat) (m0 : Nat) (a1 : Nat) (a2 : Nat) (a3 : Nat) (a4 : Nat) (a5 : Nat) (a6 : Nat) (a7 : Nat) (a8 : Nat) (a9 : Nat) (th : Nat) (vs : Nat) (bs : Nat) (ch : Nat) (mh : Nat) (me : Nat) (mb : Nat) (mn : Nat) (mw : Nat) (mr : Nat) (es : Nat) (pn : Nat) (ah : Option Nat) (fs : Nat) (ee : Nat → Nat) (hes : es ≤ 2470) (hee : ∀ j, ee j < 256) : KI l y_Mod_isEntry w_Mod_isEntry rmm_isEntry0 (dC, dI) CL_ [(cI, .int)] sz [.ref m0, .int (bI false)] [(m0, .inr (7, [.int (nI th), .ref a1, .ref a2, .int (nI vs), .ref a3, .int (nI bs), .int (nI ch), .int (nI mh), .int (nI me), .int (nI mb), .int (nI mn), .ref a4, .ref a5, .int (nI mw), .int (nI mr), .ref a6, .int (nI es), .int (nI pn), .ref a7, .ref a8, .int (oI ah), .ref a9, .int (nI fs)])), (a6, .inl (cI, 2600, .inl (nA ee)))] [(m0, .inr (7, [.int (nI th), .ref a1, .ref a2, .int (nI vs), .ref a3, .int (nI bs), .int (nI ch), .int (nI mh), .int (nI me), .int (nI mb), .int (nI mn), .ref a4, .ref a5, .int (nI mw), .int (nI mr), .ref a6, .int (nI es), .int (nI pn), .ref a7, .ref a8, .int (oI ah), .ref a9, .int (nI fs)])), (a6, .inl (cI, 2600, .inl (nA ee)))] (bI (isEntM ee es)) := by
  refine k_start_z (cc := b_Mod_isEntry) (maxL := 7) (by decide) (Nat.le_of_ble_eq_true rfl) ?_
  intro p e s m args below meth c A QQ ls SS hK hP hD hA hl hN hret
  obtain ⟨hx, hb, hml, hown, hts⟩ := id SS
  have hl : lv_has ls 7 [(0, .ref m0), (1, .int (bI false))] := hl
  have hS : va_S A s.heap s.heap [] := va_S.rf
  have hb0 := hee 0
  refine lv_aload_n hx hb d_Mod_isEntry_0 rfl (lv_at hl 0 rfl) ?_
  refine va_get (D := (dC, dI)) (ci := 7) (v := .ref a6) (C := R_Mod) (T := F_Mod) (N := 23) hx hb hts in_Mod hown hK hP 0 rfl rfl 15 (by decide) (hts _ u_681) (fun _ h9 => h9) rfl d_Mod_isEntry_1 ?_
  refine lv_iconst (v := nI 0) hx hb d_Mod_isEntry_4 (by decide) ?_
  refine n_iald (v := nI (ee 0)) hx hb hK hP 1 0 rfl rfl rfl (by omega) (by omega) d_Mod_isEntry_5 ?_
  refine lv_istore_n (lv' := [(2, .int (nI (ee 0))), (0, .ref m0), (1, .int (bI false))]) hx hb d_Mod_isEntry_6 rfl hl (by decide) rfl (fun ls hl => ?_)
  refine lv_iconst (v := nI 1) hx hb d_Mod_isEntry_7 (by decide) ?_
  refine lv_istore_n (lv' := [(3, .int (nI 1)), (2, .int (nI (ee 0))), (0, .ref m0), (1, .int (bI false))]) hx hb d_Mod_isEntry_8 rfl hl (by decide) rfl (fun ls hl => ?_)
  refine lv_iload_n hx hb d_Mod_isEntry_9 rfl (lv_at hl 1 rfl) ?_
  refine lv_iconst (v := nI 1) hx hb d_Mod_isEntry_10 (by decide) ?_
  refine n_icmp_lt (tgt := 24) hx hb d_Mod_isEntry_11 (by decide) (by omega) (by omega) (fun c_11 => ?_) (fun c_11 => ?_)
  · skip
    refine lv_iconst (v := bI false) hx hb d_Mod_isEntry_24 (by decide) ?_
    refine lv_istore (lv' := [(4, .int (bI false)), (3, .int (nI 1)), (2, .int (nI (ee 0))), (0, .ref m0), (1, .int (bI false))]) hx hb d_Mod_isEntry_25 hl (by decide) rfl (fun ls hl => ?_)
    refine lv_iconst (v := nI 0) hx hb d_Mod_isEntry_27 (by decide) ?_
    refine lv_istore (lv' := [(5, .int (nI 0)), (4, .int (bI false)), (3, .int (nI 1)), (2, .int (nI (ee 0))), (0, .ref m0), (1, .int (bI false))]) hx hb d_Mod_isEntry_28 hl (by decide) rfl (fun ls hl => ?_)
    have loop_30 : ∀ (n_ : Nat) (k at' : Nat) (good : Bool), (k ≤ ee 0) → (ee 0 + 1 ≤ k + n_) → (at' ≤ 1 + k * 257) → (isEntM ee es = (good && decide (meLoop ee es (ee 0 - k) at' = some es))) → ∀ (H : Heap) (locs : List Loc) (ls : Array Slot), va_P (dC, dI) CL_ [(m0, .inr (7, [.int (nI th), .ref a1, .ref a2, .int (nI vs), .ref a3, .int (nI bs), .int (nI ch), .int (nI mh), .int (nI me), .int (nI mb), .int (nI mn), .ref a4, .ref a5, .int (nI mw), .int (nI mr), .ref a6, .int (nI es), .int (nI pn), .ref a7, .ref a8, .int (oI ah), .ref a9, .int (nI fs)])), (a6, .inl (cI, 2600, .inl (nA ee)))] H → va_D A [(m0, .inr (7, [.int (nI th), .ref a1, .ref a2, .int (nI vs), .ref a3, .int (nI bs), .int (nI ch), .int (nI mh), .int (nI me), .int (nI mb), .int (nI mn), .ref a4, .ref a5, .int (nI mw), .int (nI mr), .ref a6, .int (nI es), .int (nI pn), .ref a7, .ref a8, .int (oI ah), .ref a9, .int (nI fs)])), (a6, .inl (cI, 2600, .inl (nA ee)))] → va_S A s.heap H locs → lv_has ls 7 [(0, .ref m0), (1, .int (bI false)), (2, .int (nI (ee 0))), (3, .int (nI at')), (4, .int (bI good)), (5, .int (nI k))] → W p l e rmm_isEntry0 s m args below meth c H locs 0 0 QQ (F0 m 30 ls []) := by
      intro n_
      induction n_ with
      | zero =>
        intro k at' good hk hf hat hinv
        exact absurd hf (by omega)
      | succ n_ ih =>
        intro k at' good hk hf hat hinv H locs ls hP hD hS hl
        have hb1 := hee at'
        have hb2 := hee (at' + 1)
        refine lv_iload hx hb d_Mod_isEntry_30 (lv_at hl 5 rfl) ?_
        refine lv_iload_n hx hb d_Mod_isEntry_32 rfl (lv_at hl 2 rfl) ?_
        refine n_icmp_ge (tgt := 177) hx hb d_Mod_isEntry_33 (by decide) (by omega) (by omega) (fun c_33 => ?_) (fun c_33 => ?_)
        · skip
          refine lv_iload hx hb d_Mod_isEntry_177 (lv_at hl 4 rfl) ?_
          refine n_if_eqB (tgt := 194) hx hb d_Mod_isEntry_179 (by decide) (fun c_179 => ?_) (fun c_179 => ?_)
          · skip
            refine lv_iconst (v := bI false) hx hb d_Mod_isEntry_194 (by decide) ?_
            exact hret false _ _ 195 ls d_Mod_isEntry_195 (hP.sub [0, 1] rfl) (hD.sub [0, 1] (by decide) rfl) hS (by rw [hinv, c_179]; rfl)
          · skip
            refine lv_iload_n hx hb d_Mod_isEntry_182 rfl (lv_at hl 3 rfl) ?_
            refine lv_aload_n hx hb d_Mod_isEntry_183 rfl (lv_at hl 0 rfl) ?_
            refine va_get (D := (dC, dI)) (ci := 7) (v := .int (nI es)) (C := R_Mod) (T := F_Mod) (N := 23) hx hb hts in_Mod hown hK hP 0 rfl rfl 16 (by decide) (hts _ u_682) (fun _ h9 => h9) rfl d_Mod_isEntry_184 ?_
            refine n_icmp_ne (tgt := 194) hx hb d_Mod_isEntry_187 (by decide) (by omega) (by omega) (fun c_187 => ?_) (fun c_187 => ?_)
            · skip
              refine lv_iconst (v := bI false) hx hb d_Mod_isEntry_194 (by decide) ?_
              exact hret false _ _ 195 ls d_Mod_isEntry_195 (hP.sub [0, 1] rfl) (hD.sub [0, 1] (by decide) rfl) hS (by rw [hinv, c_179, show ee 0 - k = 0 by omega, meLoop, Bool.true_and]; exact (decide_eq_false (fun q => c_187 (Option.some.inj q))).symm)
            · skip
              refine lv_iconst (v := bI true) hx hb d_Mod_isEntry_190 (by decide) ?_
              refine lv_goto (tgt := 195) hx hb d_Mod_isEntry_191 (by decide) ?_
              exact hret true _ _ 195 ls d_Mod_isEntry_195 (hP.sub [0, 1] rfl) (hD.sub [0, 1] (by decide) rfl) hS (by rw [hinv, c_179, show ee 0 - k = 0 by omega, meLoop, Bool.true_and]; exact (decide_eq_true (congrArg some c_187)).symm)
        · skip
          refine lv_iload hx hb d_Mod_isEntry_36 (lv_at hl 4 rfl) ?_
          refine n_if_eqB (tgt := 177) hx hb d_Mod_isEntry_38 (by decide) (fun c_38 => ?_) (fun c_38 => ?_)
          · skip
            refine lv_iload hx hb d_Mod_isEntry_177 (lv_at hl 4 rfl) ?_
            refine n_if_eqB (tgt := 194) hx hb d_Mod_isEntry_179 (by decide) (fun c_179 => ?_) (fun c_179 => ?_)
            · skip
              refine lv_iconst (v := bI false) hx hb d_Mod_isEntry_194 (by decide) ?_
              exact hret false _ _ 195 ls d_Mod_isEntry_195 (hP.sub [0, 1] rfl) (hD.sub [0, 1] (by decide) rfl) hS (by rw [hinv, c_179]; rfl)
            · exact absurd (c_38.symm.trans c_179) (by decide)
          · skip
            refine lv_iload_n hx hb d_Mod_isEntry_41 rfl (lv_at hl 3 rfl) ?_
            refine lv_iconst (v := nI 2) hx hb d_Mod_isEntry_42 (by decide) ?_
            refine n_iadd hx hb d_Mod_isEntry_43 ?_
            refine lv_aload_n hx hb d_Mod_isEntry_44 rfl (lv_at hl 0 rfl) ?_
            refine va_get (D := (dC, dI)) (ci := 7) (v := .int (nI es)) (C := R_Mod) (T := F_Mod) (N := 23) hx hb hts in_Mod hown hK hP 0 rfl rfl 16 (by decide) (hts _ u_682) (fun _ h9 => h9) rfl d_Mod_isEntry_45 ?_
            refine n_icmp_gt (tgt := 94) hx hb d_Mod_isEntry_48 (by decide) (by omega) (by omega) (fun c_48 => ?_) (fun c_48 => ?_)
            · skip
              refine lv_iconst (v := bI false) hx hb d_Mod_isEntry_94 (by decide) ?_
              refine lv_istore (lv' := [(4, .int (bI false)), (0, .ref m0), (1, .int (bI false)), (2, .int (nI (ee 0))), (3, .int (nI at')), (5, .int (nI k))]) hx hb d_Mod_isEntry_95 hl (by decide) rfl (fun ls hl => ?_)
              refine lv_iload hx hb d_Mod_isEntry_97 (lv_at hl 0 rfl) ?_
              refine n_if_eqB (tgt := 171) hx hb d_Mod_isEntry_99 (by decide) (fun c_99 => ?_) (fun c_99 => ?_)
              · skip
                refine lv_iinc (v := nI (k + 1)) (lv' := [(5, .int (nI (k + 1))), (4, .int (bI false)), (0, .ref m0), (1, .int (bI false)), (2, .int (nI (ee 0))), (3, .int (nI at'))]) hx hb d_Mod_isEntry_171 hl (k := 5) rfl (inc1 k) (by decide) rfl (fun ls hl => ?_)
                refine lv_goto (tgt := 30) hx hb d_Mod_isEntry_174 (by decide) ?_
                exact ih (k + 1) at' false (by omega) (by omega) (by omega) (by rw [hinv, c_38, show ee 0 - k = (ee 0 - (k + 1)) + 1 by omega, meLoop, if_neg (fun q => by omega)]; rfl) _ _ _ (hP.sub [0, 1] rfl) (hD.sub [0, 1] (by decide) rfl) hS (lv_sub hl [2, 3, 4, 5, 1, 0] rfl)
              · exact absurd c_99 (by decide)
            · skip
              refine lv_aload_n hx hb d_Mod_isEntry_51 rfl (lv_at hl 0 rfl) ?_
              refine va_get (D := (dC, dI)) (ci := 7) (v := .ref a6) (C := R_Mod) (T := F_Mod) (N := 23) hx hb hts in_Mod hown hK hP 0 rfl rfl 15 (by decide) (hts _ u_681) (fun _ h9 => h9) rfl d_Mod_isEntry_52 ?_
              refine lv_iload_n hx hb d_Mod_isEntry_55 rfl (lv_at hl 3 rfl) ?_
              refine n_iald (v := nI (ee at')) hx hb hK hP 1 0 rfl rfl rfl (by omega) (by omega) d_Mod_isEntry_56 ?_
              refine lv_sipush (v := nI 200) hx hb d_Mod_isEntry_57 (by decide) ?_
              refine n_icmp_ge (tgt := 94) hx hb d_Mod_isEntry_60 (by decide) (by omega) (by omega) (fun c_60 => ?_) (fun c_60 => ?_)
              · skip
                refine lv_iconst (v := bI false) hx hb d_Mod_isEntry_94 (by decide) ?_
                refine lv_istore (lv' := [(4, .int (bI false)), (0, .ref m0), (1, .int (bI false)), (2, .int (nI (ee 0))), (3, .int (nI at')), (5, .int (nI k))]) hx hb d_Mod_isEntry_95 hl (by decide) rfl (fun ls hl => ?_)
                refine lv_iload hx hb d_Mod_isEntry_97 (lv_at hl 0 rfl) ?_
                refine n_if_eqB (tgt := 171) hx hb d_Mod_isEntry_99 (by decide) (fun c_99 => ?_) (fun c_99 => ?_)
                · skip
                  refine lv_iinc (v := nI (k + 1)) (lv' := [(5, .int (nI (k + 1))), (4, .int (bI false)), (0, .ref m0), (1, .int (bI false)), (2, .int (nI (ee 0))), (3, .int (nI at'))]) hx hb d_Mod_isEntry_171 hl (k := 5) rfl (inc1 k) (by decide) rfl (fun ls hl => ?_)
                  refine lv_goto (tgt := 30) hx hb d_Mod_isEntry_174 (by decide) ?_
                  exact ih (k + 1) at' false (by omega) (by omega) (by omega) (by rw [hinv, c_38, show ee 0 - k = (ee 0 - (k + 1)) + 1 by omega, meLoop, if_neg (fun q => by omega)]; rfl) _ _ _ (hP.sub [0, 1] rfl) (hD.sub [0, 1] (by decide) rfl) hS (lv_sub hl [2, 3, 4, 5, 1, 0] rfl)
                · exact absurd c_99 (by decide)
              · skip
                refine lv_aload_n hx hb d_Mod_isEntry_63 rfl (lv_at hl 0 rfl) ?_
                refine va_get (D := (dC, dI)) (ci := 7) (v := .ref a6) (C := R_Mod) (T := F_Mod) (N := 23) hx hb hts in_Mod hown hK hP 0 rfl rfl 15 (by decide) (hts _ u_681) (fun _ h9 => h9) rfl d_Mod_isEntry_64 ?_
                refine lv_iload_n hx hb d_Mod_isEntry_67 rfl (lv_at hl 3 rfl) ?_
                refine lv_iconst (v := nI 1) hx hb d_Mod_isEntry_68 (by decide) ?_
                refine n_iadd hx hb d_Mod_isEntry_69 ?_
                refine n_iald (v := nI (ee (at' + 1))) hx hb hK hP 1 0 rfl rfl rfl (by omega) (by omega) d_Mod_isEntry_70 ?_
                refine lv_bipush (v := nI 40) hx hb d_Mod_isEntry_71 (by decide) ?_
                refine n_icmp_le (tgt := 90) hx hb d_Mod_isEntry_73 (by decide) (by omega) (by omega) (fun c_73 => ?_) (fun c_73 => ?_)
                · skip
                  refine lv_iconst (v := bI true) hx hb d_Mod_isEntry_90 (by decide) ?_
                  refine lv_goto (tgt := 95) hx hb d_Mod_isEntry_91 (by decide) ?_
                  refine lv_istore (lv' := [(4, .int (bI true)), (0, .ref m0), (1, .int (bI false)), (2, .int (nI (ee 0))), (3, .int (nI at')), (5, .int (nI k))]) hx hb d_Mod_isEntry_95 hl (by decide) rfl (fun ls hl => ?_)
                  refine lv_iload hx hb d_Mod_isEntry_97 (lv_at hl 0 rfl) ?_
                  refine n_if_eqB (tgt := 171) hx hb d_Mod_isEntry_99 (by decide) (fun c_99 => ?_) (fun c_99 => ?_)
                  · exact absurd c_99 (by decide)
                  · skip
                    refine lv_aload_n hx hb d_Mod_isEntry_102 rfl (lv_at hl 1 rfl) ?_
                    refine va_get (D := (dC, dI)) (ci := 7) (v := .ref a6) (C := R_Mod) (T := F_Mod) (N := 23) hx hb hts in_Mod hown hK hP 0 rfl rfl 15 (by decide) (hts _ u_681) (fun _ h9 => h9) rfl d_Mod_isEntry_103 ?_
                    refine lv_iload_n hx hb d_Mod_isEntry_106 rfl (lv_at hl 4 rfl) ?_
                    refine lv_iconst (v := nI 1) hx hb d_Mod_isEntry_107 (by decide) ?_
                    refine n_iadd hx hb d_Mod_isEntry_108 ?_
                    refine n_iald (v := nI (ee (at' + 1))) hx hb hK hP 1 0 rfl rfl rfl (by omega) (by omega) d_Mod_isEntry_109 ?_
                    refine lv_sipush (v := nI 255) hx hb d_Mod_isEntry_110 (by decide) ?_
                    refine n_icmp_ne (tgt := 120) hx hb d_Mod_isEntry_113 (by decide) (by omega) (by omega) (fun c_113 => ?_) (fun c_113 => ?_)
                    · skip
                      refine lv_aload_n hx hb d_Mod_isEntry_120 rfl (lv_at hl 1 rfl) ?_
                      refine va_get (D := (dC, dI)) (ci := 7) (v := .ref a6) (C := R_Mod) (T := F_Mod) (N := 23) hx hb hts in_Mod hown hK hP 0 rfl rfl 15 (by decide) (hts _ u_681) (fun _ h9 => h9) rfl d_Mod_isEntry_121 ?_
                      refine lv_iload_n hx hb d_Mod_isEntry_124 rfl (lv_at hl 4 rfl) ?_
                      refine lv_iconst (v := nI 1) hx hb d_Mod_isEntry_125 (by decide) ?_
                      refine n_iadd hx hb d_Mod_isEntry_126 ?_
                      refine n_iald (v := nI (ee (at' + 1))) hx hb hK hP 1 0 rfl rfl rfl (by omega) (by omega) d_Mod_isEntry_127 ?_
                      refine top_i (nI (if ee (at' + 1) = 255 then 0 else ee (at' + 1))) (by first | rw [if_pos c_113] | rw [if_neg c_113]) ?_
                      refine lv_istore (lv' := [(6, .int (nI (if ee (at' + 1) = 255 then 0 else ee (at' + 1)))), (4, .int (bI true)), (0, .ref m0), (1, .int (bI false)), (2, .int (nI (ee 0))), (3, .int (nI at')), (5, .int (nI k))]) hx hb d_Mod_isEntry_128 hl (by decide) rfl (fun ls hl => ?_)
                      have hM : (if ee (at' + 1) = 255 then 0 else ee (at' + 1)) ≤ 255 := by split <;> omega
                      refine lv_iload_n hx hb d_Mod_isEntry_130 rfl (lv_at hl 5 rfl) ?_
                      refine lv_iconst (v := nI 2) hx hb d_Mod_isEntry_131 (by decide) ?_
                      refine n_iadd hx hb d_Mod_isEntry_132 ?_
                      refine lv_iload hx hb d_Mod_isEntry_133 (lv_at hl 0 rfl) ?_
                      refine n_iadd hx hb d_Mod_isEntry_135 ?_
                      refine lv_aload_n hx hb d_Mod_isEntry_136 rfl (lv_at hl 2 rfl) ?_
                      refine va_get (D := (dC, dI)) (ci := 7) (v := .int (nI es)) (C := R_Mod) (T := F_Mod) (N := 23) hx hb hts in_Mod hown hK hP 0 rfl rfl 16 (by decide) (hts _ u_682) (fun _ h9 => h9) rfl d_Mod_isEntry_137 ?_
                      refine n_icmp_gt (tgt := 147) hx hb d_Mod_isEntry_140 (by decide) (by omega) (by omega) (fun c_140 => ?_) (fun c_140 => ?_)
                      · skip
                        refine lv_iconst (v := bI false) hx hb d_Mod_isEntry_147 (by decide) ?_
                        refine lv_istore (lv' := [(4, .int (bI false)), (6, .int (nI (if ee (at' + 1) = 255 then 0 else ee (at' + 1)))), (0, .ref m0), (1, .int (bI false)), (2, .int (nI (ee 0))), (3, .int (nI at')), (5, .int (nI k))]) hx hb d_Mod_isEntry_148 hl (by decide) rfl (fun ls hl => ?_)
                        refine lv_iload hx hb d_Mod_isEntry_150 (lv_at hl 0 rfl) ?_
                        refine n_if_eqB (tgt := 164) hx hb d_Mod_isEntry_152 (by decide) (fun c_152 => ?_) (fun c_152 => ?_)
                        · skip
                          refine lv_iload_n hx hb d_Mod_isEntry_164 rfl (lv_at hl 5 rfl) ?_
                          refine lv_iconst (v := nI 2) hx hb d_Mod_isEntry_165 (by decide) ?_
                          refine lv_iload hx hb d_Mod_isEntry_166 (lv_at hl 1 rfl) ?_
                          refine n_iadd hx hb d_Mod_isEntry_168 ?_
                          refine n_iadd hx hb d_Mod_isEntry_169 ?_
                          refine lv_istore_n (lv' := [(3, .int (nI (at' + (2 + (if ee (at' + 1) = 255 then 0 else ee (at' + 1)))))), (4, .int (bI false)), (6, .int (nI (if ee (at' + 1) = 255 then 0 else ee (at' + 1)))), (0, .ref m0), (1, .int (bI false)), (2, .int (nI (ee 0))), (5, .int (nI k))]) hx hb d_Mod_isEntry_170 rfl hl (by decide) rfl (fun ls hl => ?_)
                          refine lv_iinc (v := nI (k + 1)) (lv' := [(5, .int (nI (k + 1))), (3, .int (nI (at' + (2 + (if ee (at' + 1) = 255 then 0 else ee (at' + 1)))))), (4, .int (bI false)), (6, .int (nI (if ee (at' + 1) = 255 then 0 else ee (at' + 1)))), (0, .ref m0), (1, .int (bI false)), (2, .int (nI (ee 0)))]) hx hb d_Mod_isEntry_171 hl (k := 6) rfl (inc1 k) (by decide) rfl (fun ls hl => ?_)
                          refine lv_goto (tgt := 30) hx hb d_Mod_isEntry_174 (by decide) ?_
                          exact ih (k + 1) (at' + (2 + (if ee (at' + 1) = 255 then 0 else ee (at' + 1)))) false (by omega) (by omega) (by split <;> omega) (by rw [hinv, c_38, show ee 0 - k = (ee 0 - (k + 1)) + 1 by omega, meLoop, if_neg (fun q => absurd q.2.2.2 (Nat.not_le.mpr c_140))]; rfl) _ _ _ (hP.sub [0, 1] rfl) (hD.sub [0, 1] (by decide) rfl) hS (lv_sub hl [4, 5, 6, 1, 2, 0] rfl)
                        · exact absurd c_152 (by decide)
                      · skip
                        refine lv_iconst (v := bI true) hx hb d_Mod_isEntry_143 (by decide) ?_
                        refine lv_goto (tgt := 148) hx hb d_Mod_isEntry_144 (by decide) ?_
                        refine lv_istore (lv' := [(4, .int (bI true)), (6, .int (nI (if ee (at' + 1) = 255 then 0 else ee (at' + 1)))), (0, .ref m0), (1, .int (bI false)), (2, .int (nI (ee 0))), (3, .int (nI at')), (5, .int (nI k))]) hx hb d_Mod_isEntry_148 hl (by decide) rfl (fun ls hl => ?_)
                        refine lv_iload hx hb d_Mod_isEntry_150 (lv_at hl 0 rfl) ?_
                        refine n_if_eqB (tgt := 164) hx hb d_Mod_isEntry_152 (by decide) (fun c_152 => ?_) (fun c_152 => ?_)
                        · exact absurd c_152 (by decide)
                        · skip
                          refine lv_iload_n hx hb d_Mod_isEntry_155 rfl (lv_at hl 3 rfl) ?_
                          refine n_if_eqB (tgt := 164) hx hb d_Mod_isEntry_156 (by decide) (fun c_156 => ?_) (fun c_156 => ?_)
                          · skip
                            refine lv_iload_n hx hb d_Mod_isEntry_164 rfl (lv_at hl 5 rfl) ?_
                            refine lv_iconst (v := nI 2) hx hb d_Mod_isEntry_165 (by decide) ?_
                            refine lv_iload hx hb d_Mod_isEntry_166 (lv_at hl 1 rfl) ?_
                            refine n_iadd hx hb d_Mod_isEntry_168 ?_
                            refine n_iadd hx hb d_Mod_isEntry_169 ?_
                            refine lv_istore_n (lv' := [(3, .int (nI (at' + (2 + (if ee (at' + 1) = 255 then 0 else ee (at' + 1)))))), (4, .int (bI true)), (6, .int (nI (if ee (at' + 1) = 255 then 0 else ee (at' + 1)))), (0, .ref m0), (1, .int (bI false)), (2, .int (nI (ee 0))), (5, .int (nI k))]) hx hb d_Mod_isEntry_170 rfl hl (by decide) rfl (fun ls hl => ?_)
                            refine lv_iinc (v := nI (k + 1)) (lv' := [(5, .int (nI (k + 1))), (3, .int (nI (at' + (2 + (if ee (at' + 1) = 255 then 0 else ee (at' + 1)))))), (4, .int (bI true)), (6, .int (nI (if ee (at' + 1) = 255 then 0 else ee (at' + 1)))), (0, .ref m0), (1, .int (bI false)), (2, .int (nI (ee 0)))]) hx hb d_Mod_isEntry_171 hl (k := 6) rfl (inc1 k) (by decide) rfl (fun ls hl => ?_)
                            refine lv_goto (tgt := 30) hx hb d_Mod_isEntry_174 (by decide) ?_
                            exact ih (k + 1) (at' + (2 + (if ee (at' + 1) = 255 then 0 else ee (at' + 1)))) true (by omega) (by omega) (by split <;> omega) (by rw [hinv, c_38, show ee 0 - k = (ee 0 - (k + 1)) + 1 by omega, meLoop, if_pos ⟨by omega, by omega, by omega, c_140⟩]) _ _ _ (hP.sub [0, 1] rfl) (hD.sub [0, 1] (by decide) rfl) hS (lv_sub hl [4, 5, 6, 1, 2, 0] rfl)
                          · exact absurd c_156 (by decide)
                    · skip
                      refine lv_iconst (v := nI 0) hx hb d_Mod_isEntry_116 (by decide) ?_
                      refine lv_goto (tgt := 128) hx hb d_Mod_isEntry_117 (by decide) ?_
                      refine top_i (nI (if ee (at' + 1) = 255 then 0 else ee (at' + 1))) (by first | rw [if_pos c_113] | rw [if_neg c_113]) ?_
                      refine lv_istore (lv' := [(6, .int (nI (if ee (at' + 1) = 255 then 0 else ee (at' + 1)))), (4, .int (bI true)), (0, .ref m0), (1, .int (bI false)), (2, .int (nI (ee 0))), (3, .int (nI at')), (5, .int (nI k))]) hx hb d_Mod_isEntry_128 hl (by decide) rfl (fun ls hl => ?_)
                      have hM : (if ee (at' + 1) = 255 then 0 else ee (at' + 1)) ≤ 255 := by split <;> omega
                      refine lv_iload_n hx hb d_Mod_isEntry_130 rfl (lv_at hl 5 rfl) ?_
                      refine lv_iconst (v := nI 2) hx hb d_Mod_isEntry_131 (by decide) ?_
                      refine n_iadd hx hb d_Mod_isEntry_132 ?_
                      refine lv_iload hx hb d_Mod_isEntry_133 (lv_at hl 0 rfl) ?_
                      refine n_iadd hx hb d_Mod_isEntry_135 ?_
                      refine lv_aload_n hx hb d_Mod_isEntry_136 rfl (lv_at hl 2 rfl) ?_
                      refine va_get (D := (dC, dI)) (ci := 7) (v := .int (nI es)) (C := R_Mod) (T := F_Mod) (N := 23) hx hb hts in_Mod hown hK hP 0 rfl rfl 16 (by decide) (hts _ u_682) (fun _ h9 => h9) rfl d_Mod_isEntry_137 ?_
                      refine n_icmp_gt (tgt := 147) hx hb d_Mod_isEntry_140 (by decide) (by omega) (by omega) (fun c_140 => ?_) (fun c_140 => ?_)
                      · skip
                        refine lv_iconst (v := bI false) hx hb d_Mod_isEntry_147 (by decide) ?_
                        refine lv_istore (lv' := [(4, .int (bI false)), (6, .int (nI (if ee (at' + 1) = 255 then 0 else ee (at' + 1)))), (0, .ref m0), (1, .int (bI false)), (2, .int (nI (ee 0))), (3, .int (nI at')), (5, .int (nI k))]) hx hb d_Mod_isEntry_148 hl (by decide) rfl (fun ls hl => ?_)
                        refine lv_iload hx hb d_Mod_isEntry_150 (lv_at hl 0 rfl) ?_
                        refine n_if_eqB (tgt := 164) hx hb d_Mod_isEntry_152 (by decide) (fun c_152 => ?_) (fun c_152 => ?_)
                        · skip
                          refine lv_iload_n hx hb d_Mod_isEntry_164 rfl (lv_at hl 5 rfl) ?_
                          refine lv_iconst (v := nI 2) hx hb d_Mod_isEntry_165 (by decide) ?_
                          refine lv_iload hx hb d_Mod_isEntry_166 (lv_at hl 1 rfl) ?_
                          refine n_iadd hx hb d_Mod_isEntry_168 ?_
                          refine n_iadd hx hb d_Mod_isEntry_169 ?_
                          refine lv_istore_n (lv' := [(3, .int (nI (at' + (2 + (if ee (at' + 1) = 255 then 0 else ee (at' + 1)))))), (4, .int (bI false)), (6, .int (nI (if ee (at' + 1) = 255 then 0 else ee (at' + 1)))), (0, .ref m0), (1, .int (bI false)), (2, .int (nI (ee 0))), (5, .int (nI k))]) hx hb d_Mod_isEntry_170 rfl hl (by decide) rfl (fun ls hl => ?_)
                          refine lv_iinc (v := nI (k + 1)) (lv' := [(5, .int (nI (k + 1))), (3, .int (nI (at' + (2 + (if ee (at' + 1) = 255 then 0 else ee (at' + 1)))))), (4, .int (bI false)), (6, .int (nI (if ee (at' + 1) = 255 then 0 else ee (at' + 1)))), (0, .ref m0), (1, .int (bI false)), (2, .int (nI (ee 0)))]) hx hb d_Mod_isEntry_171 hl (k := 6) rfl (inc1 k) (by decide) rfl (fun ls hl => ?_)
                          refine lv_goto (tgt := 30) hx hb d_Mod_isEntry_174 (by decide) ?_
                          exact ih (k + 1) (at' + (2 + (if ee (at' + 1) = 255 then 0 else ee (at' + 1)))) false (by omega) (by omega) (by split <;> omega) (by rw [hinv, c_38, show ee 0 - k = (ee 0 - (k + 1)) + 1 by omega, meLoop, if_neg (fun q => absurd q.2.2.2 (Nat.not_le.mpr c_140))]; rfl) _ _ _ (hP.sub [0, 1] rfl) (hD.sub [0, 1] (by decide) rfl) hS (lv_sub hl [4, 5, 6, 1, 2, 0] rfl)
                        · exact absurd c_152 (by decide)
                      · skip
                        refine lv_iconst (v := bI true) hx hb d_Mod_isEntry_143 (by decide) ?_
                        refine lv_goto (tgt := 148) hx hb d_Mod_isEntry_144 (by decide) ?_
                        refine lv_istore (lv' := [(4, .int (bI true)), (6, .int (nI (if ee (at' + 1) = 255 then 0 else ee (at' + 1)))), (0, .ref m0), (1, .int (bI false)), (2, .int (nI (ee 0))), (3, .int (nI at')), (5, .int (nI k))]) hx hb d_Mod_isEntry_148 hl (by decide) rfl (fun ls hl => ?_)
                        refine lv_iload hx hb d_Mod_isEntry_150 (lv_at hl 0 rfl) ?_
                        refine n_if_eqB (tgt := 164) hx hb d_Mod_isEntry_152 (by decide) (fun c_152 => ?_) (fun c_152 => ?_)
                        · exact absurd c_152 (by decide)
                        · skip
                          refine lv_iload_n hx hb d_Mod_isEntry_155 rfl (lv_at hl 3 rfl) ?_
                          refine n_if_eqB (tgt := 164) hx hb d_Mod_isEntry_156 (by decide) (fun c_156 => ?_) (fun c_156 => ?_)
                          · skip
                            refine lv_iload_n hx hb d_Mod_isEntry_164 rfl (lv_at hl 5 rfl) ?_
                            refine lv_iconst (v := nI 2) hx hb d_Mod_isEntry_165 (by decide) ?_
                            refine lv_iload hx hb d_Mod_isEntry_166 (lv_at hl 1 rfl) ?_
                            refine n_iadd hx hb d_Mod_isEntry_168 ?_
                            refine n_iadd hx hb d_Mod_isEntry_169 ?_
                            refine lv_istore_n (lv' := [(3, .int (nI (at' + (2 + (if ee (at' + 1) = 255 then 0 else ee (at' + 1)))))), (4, .int (bI true)), (6, .int (nI (if ee (at' + 1) = 255 then 0 else ee (at' + 1)))), (0, .ref m0), (1, .int (bI false)), (2, .int (nI (ee 0))), (5, .int (nI k))]) hx hb d_Mod_isEntry_170 rfl hl (by decide) rfl (fun ls hl => ?_)
                            refine lv_iinc (v := nI (k + 1)) (lv' := [(5, .int (nI (k + 1))), (3, .int (nI (at' + (2 + (if ee (at' + 1) = 255 then 0 else ee (at' + 1)))))), (4, .int (bI true)), (6, .int (nI (if ee (at' + 1) = 255 then 0 else ee (at' + 1)))), (0, .ref m0), (1, .int (bI false)), (2, .int (nI (ee 0)))]) hx hb d_Mod_isEntry_171 hl (k := 6) rfl (inc1 k) (by decide) rfl (fun ls hl => ?_)
                            refine lv_goto (tgt := 30) hx hb d_Mod_isEntry_174 (by decide) ?_
                            exact ih (k + 1) (at' + (2 + (if ee (at' + 1) = 255 then 0 else ee (at' + 1)))) true (by omega) (by omega) (by split <;> omega) (by rw [hinv, c_38, show ee 0 - k = (ee 0 - (k + 1)) + 1 by omega, meLoop, if_pos ⟨by omega, by omega, by omega, c_140⟩]) _ _ _ (hP.sub [0, 1] rfl) (hD.sub [0, 1] (by decide) rfl) hS (lv_sub hl [4, 5, 6, 1, 2, 0] rfl)
                          · exact absurd c_156 (by decide)
                · skip
                  refine lv_aload_n hx hb d_Mod_isEntry_76 rfl (lv_at hl 0 rfl) ?_
                  refine va_get (D := (dC, dI)) (ci := 7) (v := .ref a6) (C := R_Mod) (T := F_Mod) (N := 23) hx hb hts in_Mod hown hK hP 0 rfl rfl 15 (by decide) (hts _ u_681) (fun _ h9 => h9) rfl d_Mod_isEntry_77 ?_
                  refine lv_iload_n hx hb d_Mod_isEntry_80 rfl (lv_at hl 3 rfl) ?_
                  refine lv_iconst (v := nI 1) hx hb d_Mod_isEntry_81 (by decide) ?_
                  refine n_iadd hx hb d_Mod_isEntry_82 ?_
                  refine n_iald (v := nI (ee (at' + 1))) hx hb hK hP 1 0 rfl rfl rfl (by omega) (by omega) d_Mod_isEntry_83 ?_
                  refine lv_sipush (v := nI 255) hx hb d_Mod_isEntry_84 (by decide) ?_
                  refine n_icmp_ne (tgt := 94) hx hb d_Mod_isEntry_87 (by decide) (by omega) (by omega) (fun c_87 => ?_) (fun c_87 => ?_)
                  · skip
                    refine lv_iconst (v := bI false) hx hb d_Mod_isEntry_94 (by decide) ?_
                    refine lv_istore (lv' := [(4, .int (bI false)), (0, .ref m0), (1, .int (bI false)), (2, .int (nI (ee 0))), (3, .int (nI at')), (5, .int (nI k))]) hx hb d_Mod_isEntry_95 hl (by decide) rfl (fun ls hl => ?_)
                    refine lv_iload hx hb d_Mod_isEntry_97 (lv_at hl 0 rfl) ?_
                    refine n_if_eqB (tgt := 171) hx hb d_Mod_isEntry_99 (by decide) (fun c_99 => ?_) (fun c_99 => ?_)
                    · skip
                      refine lv_iinc (v := nI (k + 1)) (lv' := [(5, .int (nI (k + 1))), (4, .int (bI false)), (0, .ref m0), (1, .int (bI false)), (2, .int (nI (ee 0))), (3, .int (nI at'))]) hx hb d_Mod_isEntry_171 hl (k := 5) rfl (inc1 k) (by decide) rfl (fun ls hl => ?_)
                      refine lv_goto (tgt := 30) hx hb d_Mod_isEntry_174 (by decide) ?_
                      exact ih (k + 1) at' false (by omega) (by omega) (by omega) (by rw [hinv, c_38, show ee 0 - k = (ee 0 - (k + 1)) + 1 by omega, meLoop, if_neg (fun q => by omega)]; rfl) _ _ _ (hP.sub [0, 1] rfl) (hD.sub [0, 1] (by decide) rfl) hS (lv_sub hl [2, 3, 4, 5, 1, 0] rfl)
                    · exact absurd c_99 (by decide)
                  · skip
                    refine lv_iconst (v := bI true) hx hb d_Mod_isEntry_90 (by decide) ?_
                    refine lv_goto (tgt := 95) hx hb d_Mod_isEntry_91 (by decide) ?_
                    refine lv_istore (lv' := [(4, .int (bI true)), (0, .ref m0), (1, .int (bI false)), (2, .int (nI (ee 0))), (3, .int (nI at')), (5, .int (nI k))]) hx hb d_Mod_isEntry_95 hl (by decide) rfl (fun ls hl => ?_)
                    refine lv_iload hx hb d_Mod_isEntry_97 (lv_at hl 0 rfl) ?_
                    refine n_if_eqB (tgt := 171) hx hb d_Mod_isEntry_99 (by decide) (fun c_99 => ?_) (fun c_99 => ?_)
                    · exact absurd c_99 (by decide)
                    · skip
                      refine lv_aload_n hx hb d_Mod_isEntry_102 rfl (lv_at hl 1 rfl) ?_
                      refine va_get (D := (dC, dI)) (ci := 7) (v := .ref a6) (C := R_Mod) (T := F_Mod) (N := 23) hx hb hts in_Mod hown hK hP 0 rfl rfl 15 (by decide) (hts _ u_681) (fun _ h9 => h9) rfl d_Mod_isEntry_103 ?_
                      refine lv_iload_n hx hb d_Mod_isEntry_106 rfl (lv_at hl 4 rfl) ?_
                      refine lv_iconst (v := nI 1) hx hb d_Mod_isEntry_107 (by decide) ?_
                      refine n_iadd hx hb d_Mod_isEntry_108 ?_
                      refine n_iald (v := nI (ee (at' + 1))) hx hb hK hP 1 0 rfl rfl rfl (by omega) (by omega) d_Mod_isEntry_109 ?_
                      refine lv_sipush (v := nI 255) hx hb d_Mod_isEntry_110 (by decide) ?_
                      refine n_icmp_ne (tgt := 120) hx hb d_Mod_isEntry_113 (by decide) (by omega) (by omega) (fun c_113 => ?_) (fun c_113 => ?_)
                      · skip
                        refine lv_aload_n hx hb d_Mod_isEntry_120 rfl (lv_at hl 1 rfl) ?_
                        refine va_get (D := (dC, dI)) (ci := 7) (v := .ref a6) (C := R_Mod) (T := F_Mod) (N := 23) hx hb hts in_Mod hown hK hP 0 rfl rfl 15 (by decide) (hts _ u_681) (fun _ h9 => h9) rfl d_Mod_isEntry_121 ?_
                        refine lv_iload_n hx hb d_Mod_isEntry_124 rfl (lv_at hl 4 rfl) ?_
                        refine lv_iconst (v := nI 1) hx hb d_Mod_isEntry_125 (by decide) ?_
                        refine n_iadd hx hb d_Mod_isEntry_126 ?_
                        refine n_iald (v := nI (ee (at' + 1))) hx hb hK hP 1 0 rfl rfl rfl (by omega) (by omega) d_Mod_isEntry_127 ?_
                        refine top_i (nI (if ee (at' + 1) = 255 then 0 else ee (at' + 1))) (by first | rw [if_pos c_113] | rw [if_neg c_113]) ?_
                        refine lv_istore (lv' := [(6, .int (nI (if ee (at' + 1) = 255 then 0 else ee (at' + 1)))), (4, .int (bI true)), (0, .ref m0), (1, .int (bI false)), (2, .int (nI (ee 0))), (3, .int (nI at')), (5, .int (nI k))]) hx hb d_Mod_isEntry_128 hl (by decide) rfl (fun ls hl => ?_)
                        have hM : (if ee (at' + 1) = 255 then 0 else ee (at' + 1)) ≤ 255 := by split <;> omega
                        refine lv_iload_n hx hb d_Mod_isEntry_130 rfl (lv_at hl 5 rfl) ?_
                        refine lv_iconst (v := nI 2) hx hb d_Mod_isEntry_131 (by decide) ?_
                        refine n_iadd hx hb d_Mod_isEntry_132 ?_
                        refine lv_iload hx hb d_Mod_isEntry_133 (lv_at hl 0 rfl) ?_
                        refine n_iadd hx hb d_Mod_isEntry_135 ?_
                        refine lv_aload_n hx hb d_Mod_isEntry_136 rfl (lv_at hl 2 rfl) ?_
                        refine va_get (D := (dC, dI)) (ci := 7) (v := .int (nI es)) (C := R_Mod) (T := F_Mod) (N := 23) hx hb hts in_Mod hown hK hP 0 rfl rfl 16 (by decide) (hts _ u_682) (fun _ h9 => h9) rfl d_Mod_isEntry_137 ?_
                        refine n_icmp_gt (tgt := 147) hx hb d_Mod_isEntry_140 (by decide) (by omega) (by omega) (fun c_140 => ?_) (fun c_140 => ?_)
                        · skip
                          refine lv_iconst (v := bI false) hx hb d_Mod_isEntry_147 (by decide) ?_
                          refine lv_istore (lv' := [(4, .int (bI false)), (6, .int (nI (if ee (at' + 1) = 255 then 0 else ee (at' + 1)))), (0, .ref m0), (1, .int (bI false)), (2, .int (nI (ee 0))), (3, .int (nI at')), (5, .int (nI k))]) hx hb d_Mod_isEntry_148 hl (by decide) rfl (fun ls hl => ?_)
                          refine lv_iload hx hb d_Mod_isEntry_150 (lv_at hl 0 rfl) ?_
                          refine n_if_eqB (tgt := 164) hx hb d_Mod_isEntry_152 (by decide) (fun c_152 => ?_) (fun c_152 => ?_)
                          · skip
                            refine lv_iload_n hx hb d_Mod_isEntry_164 rfl (lv_at hl 5 rfl) ?_
                            refine lv_iconst (v := nI 2) hx hb d_Mod_isEntry_165 (by decide) ?_
                            refine lv_iload hx hb d_Mod_isEntry_166 (lv_at hl 1 rfl) ?_
                            refine n_iadd hx hb d_Mod_isEntry_168 ?_
                            refine n_iadd hx hb d_Mod_isEntry_169 ?_
                            refine lv_istore_n (lv' := [(3, .int (nI (at' + (2 + (if ee (at' + 1) = 255 then 0 else ee (at' + 1)))))), (4, .int (bI false)), (6, .int (nI (if ee (at' + 1) = 255 then 0 else ee (at' + 1)))), (0, .ref m0), (1, .int (bI false)), (2, .int (nI (ee 0))), (5, .int (nI k))]) hx hb d_Mod_isEntry_170 rfl hl (by decide) rfl (fun ls hl => ?_)
                            refine lv_iinc (v := nI (k + 1)) (lv' := [(5, .int (nI (k + 1))), (3, .int (nI (at' + (2 + (if ee (at' + 1) = 255 then 0 else ee (at' + 1)))))), (4, .int (bI false)), (6, .int (nI (if ee (at' + 1) = 255 then 0 else ee (at' + 1)))), (0, .ref m0), (1, .int (bI false)), (2, .int (nI (ee 0)))]) hx hb d_Mod_isEntry_171 hl (k := 6) rfl (inc1 k) (by decide) rfl (fun ls hl => ?_)
                            refine lv_goto (tgt := 30) hx hb d_Mod_isEntry_174 (by decide) ?_
                            exact ih (k + 1) (at' + (2 + (if ee (at' + 1) = 255 then 0 else ee (at' + 1)))) false (by omega) (by omega) (by split <;> omega) (by rw [hinv, c_38, show ee 0 - k = (ee 0 - (k + 1)) + 1 by omega, meLoop, if_neg (fun q => absurd q.2.2.2 (Nat.not_le.mpr c_140))]; rfl) _ _ _ (hP.sub [0, 1] rfl) (hD.sub [0, 1] (by decide) rfl) hS (lv_sub hl [4, 5, 6, 1, 2, 0] rfl)
                          · exact absurd c_152 (by decide)
                        · skip
                          refine lv_iconst (v := bI true) hx hb d_Mod_isEntry_143 (by decide) ?_
                          refine lv_goto (tgt := 148) hx hb d_Mod_isEntry_144 (by decide) ?_
                          refine lv_istore (lv' := [(4, .int (bI true)), (6, .int (nI (if ee (at' + 1) = 255 then 0 else ee (at' + 1)))), (0, .ref m0), (1, .int (bI false)), (2, .int (nI (ee 0))), (3, .int (nI at')), (5, .int (nI k))]) hx hb d_Mod_isEntry_148 hl (by decide) rfl (fun ls hl => ?_)
                          refine lv_iload hx hb d_Mod_isEntry_150 (lv_at hl 0 rfl) ?_
                          refine n_if_eqB (tgt := 164) hx hb d_Mod_isEntry_152 (by decide) (fun c_152 => ?_) (fun c_152 => ?_)
                          · exact absurd c_152 (by decide)
                          · skip
                            refine lv_iload_n hx hb d_Mod_isEntry_155 rfl (lv_at hl 3 rfl) ?_
                            refine n_if_eqB (tgt := 164) hx hb d_Mod_isEntry_156 (by decide) (fun c_156 => ?_) (fun c_156 => ?_)
                            · skip
                              refine lv_iload_n hx hb d_Mod_isEntry_164 rfl (lv_at hl 5 rfl) ?_
                              refine lv_iconst (v := nI 2) hx hb d_Mod_isEntry_165 (by decide) ?_
                              refine lv_iload hx hb d_Mod_isEntry_166 (lv_at hl 1 rfl) ?_
                              refine n_iadd hx hb d_Mod_isEntry_168 ?_
                              refine n_iadd hx hb d_Mod_isEntry_169 ?_
                              refine lv_istore_n (lv' := [(3, .int (nI (at' + (2 + (if ee (at' + 1) = 255 then 0 else ee (at' + 1)))))), (4, .int (bI true)), (6, .int (nI (if ee (at' + 1) = 255 then 0 else ee (at' + 1)))), (0, .ref m0), (1, .int (bI false)), (2, .int (nI (ee 0))), (5, .int (nI k))]) hx hb d_Mod_isEntry_170 rfl hl (by decide) rfl (fun ls hl => ?_)
                              refine lv_iinc (v := nI (k + 1)) (lv' := [(5, .int (nI (k + 1))), (3, .int (nI (at' + (2 + (if ee (at' + 1) = 255 then 0 else ee (at' + 1)))))), (4, .int (bI true)), (6, .int (nI (if ee (at' + 1) = 255 then 0 else ee (at' + 1)))), (0, .ref m0), (1, .int (bI false)), (2, .int (nI (ee 0)))]) hx hb d_Mod_isEntry_171 hl (k := 6) rfl (inc1 k) (by decide) rfl (fun ls hl => ?_)
                              refine lv_goto (tgt := 30) hx hb d_Mod_isEntry_174 (by decide) ?_
                              exact ih (k + 1) (at' + (2 + (if ee (at' + 1) = 255 then 0 else ee (at' + 1)))) true (by omega) (by omega) (by split <;> omega) (by rw [hinv, c_38, show ee 0 - k = (ee 0 - (k + 1)) + 1 by omega, meLoop, if_pos ⟨by omega, by omega, by omega, c_140⟩]) _ _ _ (hP.sub [0, 1] rfl) (hD.sub [0, 1] (by decide) rfl) hS (lv_sub hl [4, 5, 6, 1, 2, 0] rfl)
                            · exact absurd c_156 (by decide)
                      · skip
                        refine lv_iconst (v := nI 0) hx hb d_Mod_isEntry_116 (by decide) ?_
                        refine lv_goto (tgt := 128) hx hb d_Mod_isEntry_117 (by decide) ?_
                        refine top_i (nI (if ee (at' + 1) = 255 then 0 else ee (at' + 1))) (by first | rw [if_pos c_113] | rw [if_neg c_113]) ?_
                        refine lv_istore (lv' := [(6, .int (nI (if ee (at' + 1) = 255 then 0 else ee (at' + 1)))), (4, .int (bI true)), (0, .ref m0), (1, .int (bI false)), (2, .int (nI (ee 0))), (3, .int (nI at')), (5, .int (nI k))]) hx hb d_Mod_isEntry_128 hl (by decide) rfl (fun ls hl => ?_)
                        have hM : (if ee (at' + 1) = 255 then 0 else ee (at' + 1)) ≤ 255 := by split <;> omega
                        refine lv_iload_n hx hb d_Mod_isEntry_130 rfl (lv_at hl 5 rfl) ?_
                        refine lv_iconst (v := nI 2) hx hb d_Mod_isEntry_131 (by decide) ?_
                        refine n_iadd hx hb d_Mod_isEntry_132 ?_
                        refine lv_iload hx hb d_Mod_isEntry_133 (lv_at hl 0 rfl) ?_
                        refine n_iadd hx hb d_Mod_isEntry_135 ?_
                        refine lv_aload_n hx hb d_Mod_isEntry_136 rfl (lv_at hl 2 rfl) ?_
                        refine va_get (D := (dC, dI)) (ci := 7) (v := .int (nI es)) (C := R_Mod) (T := F_Mod) (N := 23) hx hb hts in_Mod hown hK hP 0 rfl rfl 16 (by decide) (hts _ u_682) (fun _ h9 => h9) rfl d_Mod_isEntry_137 ?_
                        refine n_icmp_gt (tgt := 147) hx hb d_Mod_isEntry_140 (by decide) (by omega) (by omega) (fun c_140 => ?_) (fun c_140 => ?_)
                        · skip
                          refine lv_iconst (v := bI false) hx hb d_Mod_isEntry_147 (by decide) ?_
                          refine lv_istore (lv' := [(4, .int (bI false)), (6, .int (nI (if ee (at' + 1) = 255 then 0 else ee (at' + 1)))), (0, .ref m0), (1, .int (bI false)), (2, .int (nI (ee 0))), (3, .int (nI at')), (5, .int (nI k))]) hx hb d_Mod_isEntry_148 hl (by decide) rfl (fun ls hl => ?_)
                          refine lv_iload hx hb d_Mod_isEntry_150 (lv_at hl 0 rfl) ?_
                          refine n_if_eqB (tgt := 164) hx hb d_Mod_isEntry_152 (by decide) (fun c_152 => ?_) (fun c_152 => ?_)
                          · skip
                            refine lv_iload_n hx hb d_Mod_isEntry_164 rfl (lv_at hl 5 rfl) ?_
                            refine lv_iconst (v := nI 2) hx hb d_Mod_isEntry_165 (by decide) ?_
                            refine lv_iload hx hb d_Mod_isEntry_166 (lv_at hl 1 rfl) ?_
                            refine n_iadd hx hb d_Mod_isEntry_168 ?_
                            refine n_iadd hx hb d_Mod_isEntry_169 ?_
                            refine lv_istore_n (lv' := [(3, .int (nI (at' + (2 + (if ee (at' + 1) = 255 then 0 else ee (at' + 1)))))), (4, .int (bI false)), (6, .int (nI (if ee (at' + 1) = 255 then 0 else ee (at' + 1)))), (0, .ref m0), (1, .int (bI false)), (2, .int (nI (ee 0))), (5, .int (nI k))]) hx hb d_Mod_isEntry_170 rfl hl (by decide) rfl (fun ls hl => ?_)
                            refine lv_iinc (v := nI (k + 1)) (lv' := [(5, .int (nI (k + 1))), (3, .int (nI (at' + (2 + (if ee (at' + 1) = 255 then 0 else ee (at' + 1)))))), (4, .int (bI false)), (6, .int (nI (if ee (at' + 1) = 255 then 0 else ee (at' + 1)))), (0, .ref m0), (1, .int (bI false)), (2, .int (nI (ee 0)))]) hx hb d_Mod_isEntry_171 hl (k := 6) rfl (inc1 k) (by decide) rfl (fun ls hl => ?_)
                            refine lv_goto (tgt := 30) hx hb d_Mod_isEntry_174 (by decide) ?_
                            exact ih (k + 1) (at' + (2 + (if ee (at' + 1) = 255 then 0 else ee (at' + 1)))) false (by omega) (by omega) (by split <;> omega) (by rw [hinv, c_38, show ee 0 - k = (ee 0 - (k + 1)) + 1 by omega, meLoop, if_neg (fun q => absurd q.2.2.2 (Nat.not_le.mpr c_140))]; rfl) _ _ _ (hP.sub [0, 1] rfl) (hD.sub [0, 1] (by decide) rfl) hS (lv_sub hl [4, 5, 6, 1, 2, 0] rfl)
                          · exact absurd c_152 (by decide)
                        · skip
                          refine lv_iconst (v := bI true) hx hb d_Mod_isEntry_143 (by decide) ?_
                          refine lv_goto (tgt := 148) hx hb d_Mod_isEntry_144 (by decide) ?_
                          refine lv_istore (lv' := [(4, .int (bI true)), (6, .int (nI (if ee (at' + 1) = 255 then 0 else ee (at' + 1)))), (0, .ref m0), (1, .int (bI false)), (2, .int (nI (ee 0))), (3, .int (nI at')), (5, .int (nI k))]) hx hb d_Mod_isEntry_148 hl (by decide) rfl (fun ls hl => ?_)
                          refine lv_iload hx hb d_Mod_isEntry_150 (lv_at hl 0 rfl) ?_
                          refine n_if_eqB (tgt := 164) hx hb d_Mod_isEntry_152 (by decide) (fun c_152 => ?_) (fun c_152 => ?_)
                          · exact absurd c_152 (by decide)
                          · skip
                            refine lv_iload_n hx hb d_Mod_isEntry_155 rfl (lv_at hl 3 rfl) ?_
                            refine n_if_eqB (tgt := 164) hx hb d_Mod_isEntry_156 (by decide) (fun c_156 => ?_) (fun c_156 => ?_)
                            · skip
                              refine lv_iload_n hx hb d_Mod_isEntry_164 rfl (lv_at hl 5 rfl) ?_
                              refine lv_iconst (v := nI 2) hx hb d_Mod_isEntry_165 (by decide) ?_
                              refine lv_iload hx hb d_Mod_isEntry_166 (lv_at hl 1 rfl) ?_
                              refine n_iadd hx hb d_Mod_isEntry_168 ?_
                              refine n_iadd hx hb d_Mod_isEntry_169 ?_
                              refine lv_istore_n (lv' := [(3, .int (nI (at' + (2 + (if ee (at' + 1) = 255 then 0 else ee (at' + 1)))))), (4, .int (bI true)), (6, .int (nI (if ee (at' + 1) = 255 then 0 else ee (at' + 1)))), (0, .ref m0), (1, .int (bI false)), (2, .int (nI (ee 0))), (5, .int (nI k))]) hx hb d_Mod_isEntry_170 rfl hl (by decide) rfl (fun ls hl => ?_)
                              refine lv_iinc (v := nI (k + 1)) (lv' := [(5, .int (nI (k + 1))), (3, .int (nI (at' + (2 + (if ee (at' + 1) = 255 then 0 else ee (at' + 1)))))), (4, .int (bI true)), (6, .int (nI (if ee (at' + 1) = 255 then 0 else ee (at' + 1)))), (0, .ref m0), (1, .int (bI false)), (2, .int (nI (ee 0)))]) hx hb d_Mod_isEntry_171 hl (k := 6) rfl (inc1 k) (by decide) rfl (fun ls hl => ?_)
                              refine lv_goto (tgt := 30) hx hb d_Mod_isEntry_174 (by decide) ?_
                              exact ih (k + 1) (at' + (2 + (if ee (at' + 1) = 255 then 0 else ee (at' + 1)))) true (by omega) (by omega) (by split <;> omega) (by rw [hinv, c_38, show ee 0 - k = (ee 0 - (k + 1)) + 1 by omega, meLoop, if_pos ⟨by omega, by omega, by omega, c_140⟩]) _ _ _ (hP.sub [0, 1] rfl) (hD.sub [0, 1] (by decide) rfl) hS (lv_sub hl [4, 5, 6, 1, 2, 0] rfl)
                            · exact absurd c_156 (by decide)
    exact loop_30 (ee 0 + 1) 0 1 false (by omega) (by omega) (by omega) (by rw [Bool.false_and]; exact decide_eq_false (fun q => by omega)) _ _ _ (hP.sub [0, 1] rfl) (hD.sub [0, 1] (by decide) rfl) hS (lv_sub hl [4, 5, 3, 2, 1, 0] rfl)
  · skip
    refine lv_iload_n hx hb d_Mod_isEntry_14 rfl (lv_at hl 1 rfl) ?_
    refine lv_bipush (v := nI 8) hx hb d_Mod_isEntry_15 (by decide) ?_
    refine n_icmp_gt (tgt := 24) hx hb d_Mod_isEntry_17 (by decide) (by omega) (by omega) (fun c_17 => ?_) (fun c_17 => ?_)
    · skip
      refine lv_iconst (v := bI false) hx hb d_Mod_isEntry_24 (by decide) ?_
      refine lv_istore (lv' := [(4, .int (bI false)), (3, .int (nI 1)), (2, .int (nI (ee 0))), (0, .ref m0), (1, .int (bI false))]) hx hb d_Mod_isEntry_25 hl (by decide) rfl (fun ls hl => ?_)
      refine lv_iconst (v := nI 0) hx hb d_Mod_isEntry_27 (by decide) ?_
      refine lv_istore (lv' := [(5, .int (nI 0)), (4, .int (bI false)), (3, .int (nI 1)), (2, .int (nI (ee 0))), (0, .ref m0), (1, .int (bI false))]) hx hb d_Mod_isEntry_28 hl (by decide) rfl (fun ls hl => ?_)
      have loop_30 : ∀ (n_ : Nat) (k at' : Nat) (good : Bool), (k ≤ ee 0) → (ee 0 + 1 ≤ k + n_) → (at' ≤ 1 + k * 257) → (isEntM ee es = (good && decide (meLoop ee es (ee 0 - k) at' = some es))) → ∀ (H : Heap) (locs : List Loc) (ls : Array Slot), va_P (dC, dI) CL_ [(m0, .inr (7, [.int (nI th), .ref a1, .ref a2, .int (nI vs), .ref a3, .int (nI bs), .int (nI ch), .int (nI mh), .int (nI me), .int (nI mb), .int (nI mn), .ref a4, .ref a5, .int (nI mw), .int (nI mr), .ref a6, .int (nI es), .int (nI pn), .ref a7, .ref a8, .int (oI ah), .ref a9, .int (nI fs)])), (a6, .inl (cI, 2600, .inl (nA ee)))] H → va_D A [(m0, .inr (7, [.int (nI th), .ref a1, .ref a2, .int (nI vs), .ref a3, .int (nI bs), .int (nI ch), .int (nI mh), .int (nI me), .int (nI mb), .int (nI mn), .ref a4, .ref a5, .int (nI mw), .int (nI mr), .ref a6, .int (nI es), .int (nI pn), .ref a7, .ref a8, .int (oI ah), .ref a9, .int (nI fs)])), (a6, .inl (cI, 2600, .inl (nA ee)))] → va_S A s.heap H locs → lv_has ls 7 [(0, .ref m0), (1, .int (bI false)), (2, .int (nI (ee 0))), (3, .int (nI at')), (4, .int (bI good)), (5, .int (nI k))] → W p l e rmm_isEntry0 s m args below meth c H locs 0 0 QQ (F0 m 30 ls []) := by
        intro n_
        induction n_ with
        | zero =>
          intro k at' good hk hf hat hinv
          exact absurd hf (by omega)
        | succ n_ ih =>
          intro k at' good hk hf hat hinv H locs ls hP hD hS hl
          have hb1 := hee at'
          have hb2 := hee (at' + 1)
          refine lv_iload hx hb d_Mod_isEntry_30 (lv_at hl 5 rfl) ?_
          refine lv_iload_n hx hb d_Mod_isEntry_32 rfl (lv_at hl 2 rfl) ?_
          refine n_icmp_ge (tgt := 177) hx hb d_Mod_isEntry_33 (by decide) (by omega) (by omega) (fun c_33 => ?_) (fun c_33 => ?_)
          · skip
            refine lv_iload hx hb d_Mod_isEntry_177 (lv_at hl 4 rfl) ?_
            refine n_if_eqB (tgt := 194) hx hb d_Mod_isEntry_179 (by decide) (fun c_179 => ?_) (fun c_179 => ?_)
            · skip
              refine lv_iconst (v := bI false) hx hb d_Mod_isEntry_194 (by decide) ?_
              exact hret false _ _ 195 ls d_Mod_isEntry_195 (hP.sub [0, 1] rfl) (hD.sub [0, 1] (by decide) rfl) hS (by rw [hinv, c_179]; rfl)
            · skip
              refine lv_iload_n hx hb d_Mod_isEntry_182 rfl (lv_at hl 3 rfl) ?_
              refine lv_aload_n hx hb d_Mod_isEntry_183 rfl (lv_at hl 0 rfl) ?_
              refine va_get (D := (dC, dI)) (ci := 7) (v := .int (nI es)) (C := R_Mod) (T := F_Mod) (N := 23) hx hb hts in_Mod hown hK hP 0 rfl rfl 16 (by decide) (hts _ u_682) (fun _ h9 => h9) rfl d_Mod_isEntry_184 ?_
              refine n_icmp_ne (tgt := 194) hx hb d_Mod_isEntry_187 (by decide) (by omega) (by omega) (fun c_187 => ?_) (fun c_187 => ?_)
              · skip
                refine lv_iconst (v := bI false) hx hb d_Mod_isEntry_194 (by decide) ?_
                exact hret false _ _ 195 ls d_Mod_isEntry_195 (hP.sub [0, 1] rfl) (hD.sub [0, 1] (by decide) rfl) hS (by rw [hinv, c_179, show ee 0 - k = 0 by omega, meLoop, Bool.true_and]; exact (decide_eq_false (fun q => c_187 (Option.some.inj q))).symm)
              · skip
                refine lv_iconst (v := bI true) hx hb d_Mod_isEntry_190 (by decide) ?_
                refine lv_goto (tgt := 195) hx hb d_Mod_isEntry_191 (by decide) ?_
                exact hret true _ _ 195 ls d_Mod_isEntry_195 (hP.sub [0, 1] rfl) (hD.sub [0, 1] (by decide) rfl) hS (by rw [hinv, c_179, show ee 0 - k = 0 by omega, meLoop, Bool.true_and]; exact (decide_eq_true (congrArg some c_187)).symm)
          · skip
            refine lv_iload hx hb d_Mod_isEntry_36 (lv_at hl 4 rfl) ?_
            refine n_if_eqB (tgt := 177) hx hb d_Mod_isEntry_38 (by decide) (fun c_38 => ?_) (fun c_38 => ?_)
            · skip
              refine lv_iload hx hb d_Mod_isEntry_177 (lv_at hl 4 rfl) ?_
              refine n_if_eqB (tgt := 194) hx hb d_Mod_isEntry_179 (by decide) (fun c_179 => ?_) (fun c_179 => ?_)
              · skip
                refine lv_iconst (v := bI false) hx hb d_Mod_isEntry_194 (by decide) ?_
                exact hret false _ _ 195 ls d_Mod_isEntry_195 (hP.sub [0, 1] rfl) (hD.sub [0, 1] (by decide) rfl) hS (by rw [hinv, c_179]; rfl)
              · exact absurd (c_38.symm.trans c_179) (by decide)
            · skip
              refine lv_iload_n hx hb d_Mod_isEntry_41 rfl (lv_at hl 3 rfl) ?_
              refine lv_iconst (v := nI 2) hx hb d_Mod_isEntry_42 (by decide) ?_
              refine n_iadd hx hb d_Mod_isEntry_43 ?_
              refine lv_aload_n hx hb d_Mod_isEntry_44 rfl (lv_at hl 0 rfl) ?_
              refine va_get (D := (dC, dI)) (ci := 7) (v := .int (nI es)) (C := R_Mod) (T := F_Mod) (N := 23) hx hb hts in_Mod hown hK hP 0 rfl rfl 16 (by decide) (hts _ u_682) (fun _ h9 => h9) rfl d_Mod_isEntry_45 ?_
              refine n_icmp_gt (tgt := 94) hx hb d_Mod_isEntry_48 (by decide) (by omega) (by omega) (fun c_48 => ?_) (fun c_48 => ?_)
              · skip
                refine lv_iconst (v := bI false) hx hb d_Mod_isEntry_94 (by decide) ?_
                refine lv_istore (lv' := [(4, .int (bI false)), (0, .ref m0), (1, .int (bI false)), (2, .int (nI (ee 0))), (3, .int (nI at')), (5, .int (nI k))]) hx hb d_Mod_isEntry_95 hl (by decide) rfl (fun ls hl => ?_)
                refine lv_iload hx hb d_Mod_isEntry_97 (lv_at hl 0 rfl) ?_
                refine n_if_eqB (tgt := 171) hx hb d_Mod_isEntry_99 (by decide) (fun c_99 => ?_) (fun c_99 => ?_)
                · skip
                  refine lv_iinc (v := nI (k + 1)) (lv' := [(5, .int (nI (k + 1))), (4, .int (bI false)), (0, .ref m0), (1, .int (bI false)), (2, .int (nI (ee 0))), (3, .int (nI at'))]) hx hb d_Mod_isEntry_171 hl (k := 5) rfl (inc1 k) (by decide) rfl (fun ls hl => ?_)
                  refine lv_goto (tgt := 30) hx hb d_Mod_isEntry_174 (by decide) ?_
                  exact ih (k + 1) at' false (by omega) (by omega) (by omega) (by rw [hinv, c_38, show ee 0 - k = (ee 0 - (k + 1)) + 1 by omega, meLoop, if_neg (fun q => by omega)]; rfl) _ _ _ (hP.sub [0, 1] rfl) (hD.sub [0, 1] (by decide) rfl) hS (lv_sub hl [2, 3, 4, 5, 1, 0] rfl)
                · exact absurd c_99 (by decide)
              · skip
                refine lv_aload_n hx hb d_Mod_isEntry_51 rfl (lv_at hl 0 rfl) ?_
                refine va_get (D := (dC, dI)) (ci := 7) (v := .ref a6) (C := R_Mod) (T := F_Mod) (N := 23) hx hb hts in_Mod hown hK hP 0 rfl rfl 15 (by decide) (hts _ u_681) (fun _ h9 => h9) rfl d_Mod_isEntry_52 ?_
                refine lv_iload_n hx hb d_Mod_isEntry_55 rfl (lv_at hl 3 rfl) ?_
                refine n_iald (v := nI (ee at')) hx hb hK hP 1 0 rfl rfl rfl (by omega) (by omega) d_Mod_isEntry_56 ?_
                refine lv_sipush (v := nI 200) hx hb d_Mod_isEntry_57 (by decide) ?_
                refine n_icmp_ge (tgt := 94) hx hb d_Mod_isEntry_60 (by decide) (by omega) (by omega) (fun c_60 => ?_) (fun c_60 => ?_)
                · skip
                  refine lv_iconst (v := bI false) hx hb d_Mod_isEntry_94 (by decide) ?_
                  refine lv_istore (lv' := [(4, .int (bI false)), (0, .ref m0), (1, .int (bI false)), (2, .int (nI (ee 0))), (3, .int (nI at')), (5, .int (nI k))]) hx hb d_Mod_isEntry_95 hl (by decide) rfl (fun ls hl => ?_)
                  refine lv_iload hx hb d_Mod_isEntry_97 (lv_at hl 0 rfl) ?_
                  refine n_if_eqB (tgt := 171) hx hb d_Mod_isEntry_99 (by decide) (fun c_99 => ?_) (fun c_99 => ?_)
                  · skip
                    refine lv_iinc (v := nI (k + 1)) (lv' := [(5, .int (nI (k + 1))), (4, .int (bI false)), (0, .ref m0), (1, .int (bI false)), (2, .int (nI (ee 0))), (3, .int (nI at'))]) hx hb d_Mod_isEntry_171 hl (k := 5) rfl (inc1 k) (by decide) rfl (fun ls hl => ?_)
                    refine lv_goto (tgt := 30) hx hb d_Mod_isEntry_174 (by decide) ?_
                    exact ih (k + 1) at' false (by omega) (by omega) (by omega) (by rw [hinv, c_38, show ee 0 - k = (ee 0 - (k + 1)) + 1 by omega, meLoop, if_neg (fun q => by omega)]; rfl) _ _ _ (hP.sub [0, 1] rfl) (hD.sub [0, 1] (by decide) rfl) hS (lv_sub hl [2, 3, 4, 5, 1, 0] rfl)
                  · exact absurd c_99 (by decide)
                · skip
                  refine lv_aload_n hx hb d_Mod_isEntry_63 rfl (lv_at hl 0 rfl) ?_
                  refine va_get (D := (dC, dI)) (ci := 7) (v := .ref a6) (C := R_Mod) (T := F_Mod) (N := 23) hx hb hts in_Mod hown hK hP 0 rfl rfl 15 (by decide) (hts _ u_681) (fun _ h9 => h9) rfl d_Mod_isEntry_64 ?_
                  refine lv_iload_n hx hb d_Mod_isEntry_67 rfl (lv_at hl 3 rfl) ?_
                  refine lv_iconst (v := nI 1) hx hb d_Mod_isEntry_68 (by decide) ?_
                  refine n_iadd hx hb d_Mod_isEntry_69 ?_
                  refine n_iald (v := nI (ee (at' + 1))) hx hb hK hP 1 0 rfl rfl rfl (by omega) (by omega) d_Mod_isEntry_70 ?_
                  refine lv_bipush (v := nI 40) hx hb d_Mod_isEntry_71 (by decide) ?_
                  refine n_icmp_le (tgt := 90) hx hb d_Mod_isEntry_73 (by decide) (by omega) (by omega) (fun c_73 => ?_) (fun c_73 => ?_)
                  · skip
                    refine lv_iconst (v := bI true) hx hb d_Mod_isEntry_90 (by decide) ?_
                    refine lv_goto (tgt := 95) hx hb d_Mod_isEntry_91 (by decide) ?_
                    refine lv_istore (lv' := [(4, .int (bI true)), (0, .ref m0), (1, .int (bI false)), (2, .int (nI (ee 0))), (3, .int (nI at')), (5, .int (nI k))]) hx hb d_Mod_isEntry_95 hl (by decide) rfl (fun ls hl => ?_)
                    refine lv_iload hx hb d_Mod_isEntry_97 (lv_at hl 0 rfl) ?_
                    refine n_if_eqB (tgt := 171) hx hb d_Mod_isEntry_99 (by decide) (fun c_99 => ?_) (fun c_99 => ?_)
                    · exact absurd c_99 (by decide)
                    · skip
                      refine lv_aload_n hx hb d_Mod_isEntry_102 rfl (lv_at hl 1 rfl) ?_
                      refine va_get (D := (dC, dI)) (ci := 7) (v := .ref a6) (C := R_Mod) (T := F_Mod) (N := 23) hx hb hts in_Mod hown hK hP 0 rfl rfl 15 (by decide) (hts _ u_681) (fun _ h9 => h9) rfl d_Mod_isEntry_103 ?_
                      refine lv_iload_n hx hb d_Mod_isEntry_106 rfl (lv_at hl 4 rfl) ?_
                      refine lv_iconst (v := nI 1) hx hb d_Mod_isEntry_107 (by decide) ?_
                      refine n_iadd hx hb d_Mod_isEntry_108 ?_
                      refine n_iald (v := nI (ee (at' + 1))) hx hb hK hP 1 0 rfl rfl rfl (by omega) (by omega) d_Mod_isEntry_109 ?_
                      refine lv_sipush (v := nI 255) hx hb d_Mod_isEntry_110 (by decide) ?_
                      refine n_icmp_ne (tgt := 120) hx hb d_Mod_isEntry_113 (by decide) (by omega) (by omega) (fun c_113 => ?_) (fun c_113 => ?_)
                      · skip
                        refine lv_aload_n hx hb d_Mod_isEntry_120 rfl (lv_at hl 1 rfl) ?_
                        refine va_get (D := (dC, dI)) (ci := 7) (v := .ref a6) (C := R_Mod) (T := F_Mod) (N := 23) hx hb hts in_Mod hown hK hP 0 rfl rfl 15 (by decide) (hts _ u_681) (fun _ h9 => h9) rfl d_Mod_isEntry_121 ?_
                        refine lv_iload_n hx hb d_Mod_isEntry_124 rfl (lv_at hl 4 rfl) ?_
                        refine lv_iconst (v := nI 1) hx hb d_Mod_isEntry_125 (by decide) ?_
                        refine n_iadd hx hb d_Mod_isEntry_126 ?_
                        refine n_iald (v := nI (ee (at' + 1))) hx hb hK hP 1 0 rfl rfl rfl (by omega) (by omega) d_Mod_isEntry_127 ?_
                        refine top_i (nI (if ee (at' + 1) = 255 then 0 else ee (at' + 1))) (by first | rw [if_pos c_113] | rw [if_neg c_113]) ?_
                        refine lv_istore (lv' := [(6, .int (nI (if ee (at' + 1) = 255 then 0 else ee (at' + 1)))), (4, .int (bI true)), (0, .ref m0), (1, .int (bI false)), (2, .int (nI (ee 0))), (3, .int (nI at')), (5, .int (nI k))]) hx hb d_Mod_isEntry_128 hl (by decide) rfl (fun ls hl => ?_)
                        have hM : (if ee (at' + 1) = 255 then 0 else ee (at' + 1)) ≤ 255 := by split <;> omega
                        refine lv_iload_n hx hb d_Mod_isEntry_130 rfl (lv_at hl 5 rfl) ?_
                        refine lv_iconst (v := nI 2) hx hb d_Mod_isEntry_131 (by decide) ?_
                        refine n_iadd hx hb d_Mod_isEntry_132 ?_
                        refine lv_iload hx hb d_Mod_isEntry_133 (lv_at hl 0 rfl) ?_
                        refine n_iadd hx hb d_Mod_isEntry_135 ?_
                        refine lv_aload_n hx hb d_Mod_isEntry_136 rfl (lv_at hl 2 rfl) ?_
                        refine va_get (D := (dC, dI)) (ci := 7) (v := .int (nI es)) (C := R_Mod) (T := F_Mod) (N := 23) hx hb hts in_Mod hown hK hP 0 rfl rfl 16 (by decide) (hts _ u_682) (fun _ h9 => h9) rfl d_Mod_isEntry_137 ?_
                        refine n_icmp_gt (tgt := 147) hx hb d_Mod_isEntry_140 (by decide) (by omega) (by omega) (fun c_140 => ?_) (fun c_140 => ?_)
                        · skip
                          refine lv_iconst (v := bI false) hx hb d_Mod_isEntry_147 (by decide) ?_
                          refine lv_istore (lv' := [(4, .int (bI false)), (6, .int (nI (if ee (at' + 1) = 255 then 0 else ee (at' + 1)))), (0, .ref m0), (1, .int (bI false)), (2, .int (nI (ee 0))), (3, .int (nI at')), (5, .int (nI k))]) hx hb d_Mod_isEntry_148 hl (by decide) rfl (fun ls hl => ?_)
                          refine lv_iload hx hb d_Mod_isEntry_150 (lv_at hl 0 rfl) ?_
                          refine n_if_eqB (tgt := 164) hx hb d_Mod_isEntry_152 (by decide) (fun c_152 => ?_) (fun c_152 => ?_)
                          · skip
                            refine lv_iload_n hx hb d_Mod_isEntry_164 rfl (lv_at hl 5 rfl) ?_
                            refine lv_iconst (v := nI 2) hx hb d_Mod_isEntry_165 (by decide) ?_
                            refine lv_iload hx hb d_Mod_isEntry_166 (lv_at hl 1 rfl) ?_
                            refine n_iadd hx hb d_Mod_isEntry_168 ?_
                            refine n_iadd hx hb d_Mod_isEntry_169 ?_
                            refine lv_istore_n (lv' := [(3, .int (nI (at' + (2 + (if ee (at' + 1) = 255 then 0 else ee (at' + 1)))))), (4, .int (bI false)), (6, .int (nI (if ee (at' + 1) = 255 then 0 else ee (at' + 1)))), (0, .ref m0), (1, .int (bI false)), (2, .int (nI (ee 0))), (5, .int (nI k))]) hx hb d_Mod_isEntry_170 rfl hl (by decide) rfl (fun ls hl => ?_)
                            refine lv_iinc (v := nI (k + 1)) (lv' := [(5, .int (nI (k + 1))), (3, .int (nI (at' + (2 + (if ee (at' + 1) = 255 then 0 else ee (at' + 1)))))), (4, .int (bI false)), (6, .int (nI (if ee (at' + 1) = 255 then 0 else ee (at' + 1)))), (0, .ref m0), (1, .int (bI false)), (2, .int (nI (ee 0)))]) hx hb d_Mod_isEntry_171 hl (k := 6) rfl (inc1 k) (by decide) rfl (fun ls hl => ?_)
                            refine lv_goto (tgt := 30) hx hb d_Mod_isEntry_174 (by decide) ?_
                            exact ih (k + 1) (at' + (2 + (if ee (at' + 1) = 255 then 0 else ee (at' + 1)))) false (by omega) (by omega) (by split <;> omega) (by rw [hinv, c_38, show ee 0 - k = (ee 0 - (k + 1)) + 1 by omega, meLoop, if_neg (fun q => absurd q.2.2.2 (Nat.not_le.mpr c_140))]; rfl) _ _ _ (hP.sub [0, 1] rfl) (hD.sub [0, 1] (by decide) rfl) hS (lv_sub hl [4, 5, 6, 1, 2, 0] rfl)
                          · exact absurd c_152 (by decide)
                        · skip
                          refine lv_iconst (v := bI true) hx hb d_Mod_isEntry_143 (by decide) ?_
                          refine lv_goto (tgt := 148) hx hb d_Mod_isEntry_144 (by decide) ?_
                          refine lv_istore (lv' := [(4, .int (bI true)), (6, .int (nI (if ee (at' + 1) = 255 then 0 else ee (at' + 1)))), (0, .ref m0), (1, .int (bI false)), (2, .int (nI (ee 0))), (3, .int (nI at')), (5, .int (nI k))]) hx hb d_Mod_isEntry_148 hl (by decide) rfl (fun ls hl => ?_)
                          refine lv_iload hx hb d_Mod_isEntry_150 (lv_at hl 0 rfl) ?_
                          refine n_if_eqB (tgt := 164) hx hb d_Mod_isEntry_152 (by decide) (fun c_152 => ?_) (fun c_152 => ?_)
                          · exact absurd c_152 (by decide)
                          · skip
                            refine lv_iload_n hx hb d_Mod_isEntry_155 rfl (lv_at hl 3 rfl) ?_
                            refine n_if_eqB (tgt := 164) hx hb d_Mod_isEntry_156 (by decide) (fun c_156 => ?_) (fun c_156 => ?_)
                            · skip
                              refine lv_iload_n hx hb d_Mod_isEntry_164 rfl (lv_at hl 5 rfl) ?_
                              refine lv_iconst (v := nI 2) hx hb d_Mod_isEntry_165 (by decide) ?_
                              refine lv_iload hx hb d_Mod_isEntry_166 (lv_at hl 1 rfl) ?_
                              refine n_iadd hx hb d_Mod_isEntry_168 ?_
                              refine n_iadd hx hb d_Mod_isEntry_169 ?_
                              refine lv_istore_n (lv' := [(3, .int (nI (at' + (2 + (if ee (at' + 1) = 255 then 0 else ee (at' + 1)))))), (4, .int (bI true)), (6, .int (nI (if ee (at' + 1) = 255 then 0 else ee (at' + 1)))), (0, .ref m0), (1, .int (bI false)), (2, .int (nI (ee 0))), (5, .int (nI k))]) hx hb d_Mod_isEntry_170 rfl hl (by decide) rfl (fun ls hl => ?_)
                              refine lv_iinc (v := nI (k + 1)) (lv' := [(5, .int (nI (k + 1))), (3, .int (nI (at' + (2 + (if ee (at' + 1) = 255 then 0 else ee (at' + 1)))))), (4, .int (bI true)), (6, .int (nI (if ee (at' + 1) = 255 then 0 else ee (at' + 1)))), (0, .ref m0), (1, .int (bI false)), (2, .int (nI (ee 0)))]) hx hb d_Mod_isEntry_171 hl (k := 6) rfl (inc1 k) (by decide) rfl (fun ls hl => ?_)
                              refine lv_goto (tgt := 30) hx hb d_Mod_isEntry_174 (by decide) ?_
                              exact ih (k + 1) (at' + (2 + (if ee (at' + 1) = 255 then 0 else ee (at' + 1)))) true (by omega) (by omega) (by split <;> omega) (by rw [hinv, c_38, show ee 0 - k = (ee 0 - (k + 1)) + 1 by omega, meLoop, if_pos ⟨by omega, by omega, by omega, c_140⟩]) _ _ _ (hP.sub [0, 1] rfl) (hD.sub [0, 1] (by decide) rfl) hS (lv_sub hl [4, 5, 6, 1, 2, 0] rfl)
                            · exact absurd c_156 (by decide)
                      · skip
                        refine lv_iconst (v := nI 0) hx hb d_Mod_isEntry_116 (by decide) ?_
                        refine lv_goto (tgt := 128) hx hb d_Mod_isEntry_117 (by decide) ?_
                        refine top_i (nI (if ee (at' + 1) = 255 then 0 else ee (at' + 1))) (by first | rw [if_pos c_113] | rw [if_neg c_113]) ?_
                        refine lv_istore (lv' := [(6, .int (nI (if ee (at' + 1) = 255 then 0 else ee (at' + 1)))), (4, .int (bI true)), (0, .ref m0), (1, .int (bI false)), (2, .int (nI (ee 0))), (3, .int (nI at')), (5, .int (nI k))]) hx hb d_Mod_isEntry_128 hl (by decide) rfl (fun ls hl => ?_)
                        have hM : (if ee (at' + 1) = 255 then 0 else ee (at' + 1)) ≤ 255 := by split <;> omega
                        refine lv_iload_n hx hb d_Mod_isEntry_130 rfl (lv_at hl 5 rfl) ?_
                        refine lv_iconst (v := nI 2) hx hb d_Mod_isEntry_131 (by decide) ?_
                        refine n_iadd hx hb d_Mod_isEntry_132 ?_
                        refine lv_iload hx hb d_Mod_isEntry_133 (lv_at hl 0 rfl) ?_
                        refine n_iadd hx hb d_Mod_isEntry_135 ?_
                        refine lv_aload_n hx hb d_Mod_isEntry_136 rfl (lv_at hl 2 rfl) ?_
                        refine va_get (D := (dC, dI)) (ci := 7) (v := .int (nI es)) (C := R_Mod) (T := F_Mod) (N := 23) hx hb hts in_Mod hown hK hP 0 rfl rfl 16 (by decide) (hts _ u_682) (fun _ h9 => h9) rfl d_Mod_isEntry_137 ?_
                        refine n_icmp_gt (tgt := 147) hx hb d_Mod_isEntry_140 (by decide) (by omega) (by omega) (fun c_140 => ?_) (fun c_140 => ?_)
                        · skip
                          refine lv_iconst (v := bI false) hx hb d_Mod_isEntry_147 (by decide) ?_
                          refine lv_istore (lv' := [(4, .int (bI false)), (6, .int (nI (if ee (at' + 1) = 255 then 0 else ee (at' + 1)))), (0, .ref m0), (1, .int (bI false)), (2, .int (nI (ee 0))), (3, .int (nI at')), (5, .int (nI k))]) hx hb d_Mod_isEntry_148 hl (by decide) rfl (fun ls hl => ?_)
                          refine lv_iload hx hb d_Mod_isEntry_150 (lv_at hl 0 rfl) ?_
                          refine n_if_eqB (tgt := 164) hx hb d_Mod_isEntry_152 (by decide) (fun c_152 => ?_) (fun c_152 => ?_)
                          · skip
                            refine lv_iload_n hx hb d_Mod_isEntry_164 rfl (lv_at hl 5 rfl) ?_
                            refine lv_iconst (v := nI 2) hx hb d_Mod_isEntry_165 (by decide) ?_
                            refine lv_iload hx hb d_Mod_isEntry_166 (lv_at hl 1 rfl) ?_
                            refine n_iadd hx hb d_Mod_isEntry_168 ?_
                            refine n_iadd hx hb d_Mod_isEntry_169 ?_
                            refine lv_istore_n (lv' := [(3, .int (nI (at' + (2 + (if ee (at' + 1) = 255 then 0 else ee (at' + 1)))))), (4, .int (bI false)), (6, .int (nI (if ee (at' + 1) = 255 then 0 else ee (at' + 1)))), (0, .ref m0), (1, .int (bI false)), (2, .int (nI (ee 0))), (5, .int (nI k))]) hx hb d_Mod_isEntry_170 rfl hl (by decide) rfl (fun ls hl => ?_)
                            refine lv_iinc (v := nI (k + 1)) (lv' := [(5, .int (nI (k + 1))), (3, .int (nI (at' + (2 + (if ee (at' + 1) = 255 then 0 else ee (at' + 1)))))), (4, .int (bI false)), (6, .int (nI (if ee (at' + 1) = 255 then 0 else ee (at' + 1)))), (0, .ref m0), (1, .int (bI false)), (2, .int (nI (ee 0)))]) hx hb d_Mod_isEntry_171 hl (k := 6) rfl (inc1 k) (by decide) rfl (fun ls hl => ?_)
                            refine lv_goto (tgt := 30) hx hb d_Mod_isEntry_174 (by decide) ?_
                            exact ih (k + 1) (at' + (2 + (if ee (at' + 1) = 255 then 0 else ee (at' + 1)))) false (by omega) (by omega) (by split <;> omega) (by rw [hinv, c_38, show ee 0 - k = (ee 0 - (k + 1)) + 1 by omega, meLoop, if_neg (fun q => absurd q.2.2.2 (Nat.not_le.mpr c_140))]; rfl) _ _ _ (hP.sub [0, 1] rfl) (hD.sub [0, 1] (by decide) rfl) hS (lv_sub hl [4, 5, 6, 1, 2, 0] rfl)
                          · exact absurd c_152 (by decide)
                        · skip
                          refine lv_iconst (v := bI true) hx hb d_Mod_isEntry_143 (by decide) ?_
                          refine lv_goto (tgt := 148) hx hb d_Mod_isEntry_144 (by decide) ?_
                          refine lv_istore (lv' := [(4, .int (bI true)), (6, .int (nI (if ee (at' + 1) = 255 then 0 else ee (at' + 1)))), (0, .ref m0), (1, .int (bI false)), (2, .int (nI (ee 0))), (3, .int (nI at')), (5, .int (nI k))]) hx hb d_Mod_isEntry_148 hl (by decide) rfl (fun ls hl => ?_)
                          refine lv_iload hx hb d_Mod_isEntry_150 (lv_at hl 0 rfl) ?_
                          refine n_if_eqB (tgt := 164) hx hb d_Mod_isEntry_152 (by decide) (fun c_152 => ?_) (fun c_152 => ?_)
                          · exact absurd c_152 (by decide)
                          · skip
                            refine lv_iload_n hx hb d_Mod_isEntry_155 rfl (lv_at hl 3 rfl) ?_
                            refine n_if_eqB (tgt := 164) hx hb d_Mod_isEntry_156 (by decide) (fun c_156 => ?_) (fun c_156 => ?_)
                            · skip
                              refine lv_iload_n hx hb d_Mod_isEntry_164 rfl (lv_at hl 5 rfl) ?_
                              refine lv_iconst (v := nI 2) hx hb d_Mod_isEntry_165 (by decide) ?_
                              refine lv_iload hx hb d_Mod_isEntry_166 (lv_at hl 1 rfl) ?_
                              refine n_iadd hx hb d_Mod_isEntry_168 ?_
                              refine n_iadd hx hb d_Mod_isEntry_169 ?_
                              refine lv_istore_n (lv' := [(3, .int (nI (at' + (2 + (if ee (at' + 1) = 255 then 0 else ee (at' + 1)))))), (4, .int (bI true)), (6, .int (nI (if ee (at' + 1) = 255 then 0 else ee (at' + 1)))), (0, .ref m0), (1, .int (bI false)), (2, .int (nI (ee 0))), (5, .int (nI k))]) hx hb d_Mod_isEntry_170 rfl hl (by decide) rfl (fun ls hl => ?_)
                              refine lv_iinc (v := nI (k + 1)) (lv' := [(5, .int (nI (k + 1))), (3, .int (nI (at' + (2 + (if ee (at' + 1) = 255 then 0 else ee (at' + 1)))))), (4, .int (bI true)), (6, .int (nI (if ee (at' + 1) = 255 then 0 else ee (at' + 1)))), (0, .ref m0), (1, .int (bI false)), (2, .int (nI (ee 0)))]) hx hb d_Mod_isEntry_171 hl (k := 6) rfl (inc1 k) (by decide) rfl (fun ls hl => ?_)
                              refine lv_goto (tgt := 30) hx hb d_Mod_isEntry_174 (by decide) ?_
                              exact ih (k + 1) (at' + (2 + (if ee (at' + 1) = 255 then 0 else ee (at' + 1)))) true (by omega) (by omega) (by split <;> omega) (by rw [hinv, c_38, show ee 0 - k = (ee 0 - (k + 1)) + 1 by omega, meLoop, if_pos ⟨by omega, by omega, by omega, c_140⟩]) _ _ _ (hP.sub [0, 1] rfl) (hD.sub [0, 1] (by decide) rfl) hS (lv_sub hl [4, 5, 6, 1, 2, 0] rfl)
                            · exact absurd c_156 (by decide)
                  · skip
                    refine lv_aload_n hx hb d_Mod_isEntry_76 rfl (lv_at hl 0 rfl) ?_
                    refine va_get (D := (dC, dI)) (ci := 7) (v := .ref a6) (C := R_Mod) (T := F_Mod) (N := 23) hx hb hts in_Mod hown hK hP 0 rfl rfl 15 (by decide) (hts _ u_681) (fun _ h9 => h9) rfl d_Mod_isEntry_77 ?_
                    refine lv_iload_n hx hb d_Mod_isEntry_80 rfl (lv_at hl 3 rfl) ?_
                    refine lv_iconst (v := nI 1) hx hb d_Mod_isEntry_81 (by decide) ?_
                    refine n_iadd hx hb d_Mod_isEntry_82 ?_
                    refine n_iald (v := nI (ee (at' + 1))) hx hb hK hP 1 0 rfl rfl rfl (by omega) (by omega) d_Mod_isEntry_83 ?_
                    refine lv_sipush (v := nI 255) hx hb d_Mod_isEntry_84 (by decide) ?_
                    refine n_icmp_ne (tgt := 94) hx hb d_Mod_isEntry_87 (by decide) (by omega) (by omega) (fun c_87 => ?_) (fun c_87 => ?_)
                    · skip
                      refine lv_iconst (v := bI false) hx hb d_Mod_isEntry_94 (by decide) ?_
                      refine lv_istore (lv' := [(4, .int (bI false)), (0, .ref m0), (1, .int (bI false)), (2, .int (nI (ee 0))), (3, .int (nI at')), (5, .int (nI k))]) hx hb d_Mod_isEntry_95 hl (by decide) rfl (fun ls hl => ?_)
                      refine lv_iload hx hb d_Mod_isEntry_97 (lv_at hl 0 rfl) ?_
                      refine n_if_eqB (tgt := 171) hx hb d_Mod_isEntry_99 (by decide) (fun c_99 => ?_) (fun c_99 => ?_)
                      · skip
                        refine lv_iinc (v := nI (k + 1)) (lv' := [(5, .int (nI (k + 1))), (4, .int (bI false)), (0, .ref m0), (1, .int (bI false)), (2, .int (nI (ee 0))), (3, .int (nI at'))]) hx hb d_Mod_isEntry_171 hl (k := 5) rfl (inc1 k) (by decide) rfl (fun ls hl => ?_)
                        refine lv_goto (tgt := 30) hx hb d_Mod_isEntry_174 (by decide) ?_
                        exact ih (k + 1) at' false (by omega) (by omega) (by omega) (by rw [hinv, c_38, show ee 0 - k = (ee 0 - (k + 1)) + 1 by omega, meLoop, if_neg (fun q => by omega)]; rfl) _ _ _ (hP.sub [0, 1] rfl) (hD.sub [0, 1] (by decide) rfl) hS (lv_sub hl [2, 3, 4, 5, 1, 0] rfl)
                      · exact absurd c_99 (by decide)
                    · skip
                      refine lv_iconst (v := bI true) hx hb d_Mod_isEntry_90 (by decide) ?_
                      refine lv_goto (tgt := 95) hx hb d_Mod_isEntry_91 (by decide) ?_
                      refine lv_istore (lv' := [(4, .int (bI true)), (0, .ref m0), (1, .int (bI false)), (2, .int (nI (ee 0))), (3, .int (nI at')), (5, .int (nI k))]) hx hb d_Mod_isEntry_95 hl (by decide) rfl (fun ls hl => ?_)
                      refine lv_iload hx hb d_Mod_isEntry_97 (lv_at hl 0 rfl) ?_
                      refine n_if_eqB (tgt := 171) hx hb d_Mod_isEntry_99 (by decide) (fun c_99 => ?_) (fun c_99 => ?_)
                      · exact absurd c_99 (by decide)
                      · skip
                        refine lv_aload_n hx hb d_Mod_isEntry_102 rfl (lv_at hl 1 rfl) ?_
                        refine va_get (D := (dC, dI)) (ci := 7) (v := .ref a6) (C := R_Mod) (T := F_Mod) (N := 23) hx hb hts in_Mod hown hK hP 0 rfl rfl 15 (by decide) (hts _ u_681) (fun _ h9 => h9) rfl d_Mod_isEntry_103 ?_
                        refine lv_iload_n hx hb d_Mod_isEntry_106 rfl (lv_at hl 4 rfl) ?_
                        refine lv_iconst (v := nI 1) hx hb d_Mod_isEntry_107 (by decide) ?_
                        refine n_iadd hx hb d_Mod_isEntry_108 ?_
                        refine n_iald (v := nI (ee (at' + 1))) hx hb hK hP 1 0 rfl rfl rfl (by omega) (by omega) d_Mod_isEntry_109 ?_
                        refine lv_sipush (v := nI 255) hx hb d_Mod_isEntry_110 (by decide) ?_
                        refine n_icmp_ne (tgt := 120) hx hb d_Mod_isEntry_113 (by decide) (by omega) (by omega) (fun c_113 => ?_) (fun c_113 => ?_)
                        · skip
                          refine lv_aload_n hx hb d_Mod_isEntry_120 rfl (lv_at hl 1 rfl) ?_
                          refine va_get (D := (dC, dI)) (ci := 7) (v := .ref a6) (C := R_Mod) (T := F_Mod) (N := 23) hx hb hts in_Mod hown hK hP 0 rfl rfl 15 (by decide) (hts _ u_681) (fun _ h9 => h9) rfl d_Mod_isEntry_121 ?_
                          refine lv_iload_n hx hb d_Mod_isEntry_124 rfl (lv_at hl 4 rfl) ?_
                          refine lv_iconst (v := nI 1) hx hb d_Mod_isEntry_125 (by decide) ?_
                          refine n_iadd hx hb d_Mod_isEntry_126 ?_
                          refine n_iald (v := nI (ee (at' + 1))) hx hb hK hP 1 0 rfl rfl rfl (by omega) (by omega) d_Mod_isEntry_127 ?_
                          refine top_i (nI (if ee (at' + 1) = 255 then 0 else ee (at' + 1))) (by first | rw [if_pos c_113] | rw [if_neg c_113]) ?_
                          refine lv_istore (lv' := [(6, .int (nI (if ee (at' + 1) = 255 then 0 else ee (at' + 1)))), (4, .int (bI true)), (0, .ref m0), (1, .int (bI false)), (2, .int (nI (ee 0))), (3, .int (nI at')), (5, .int (nI k))]) hx hb d_Mod_isEntry_128 hl (by decide) rfl (fun ls hl => ?_)
                          have hM : (if ee (at' + 1) = 255 then 0 else ee (at' + 1)) ≤ 255 := by split <;> omega
                          refine lv_iload_n hx hb d_Mod_isEntry_130 rfl (lv_at hl 5 rfl) ?_
                          refine lv_iconst (v := nI 2) hx hb d_Mod_isEntry_131 (by decide) ?_
                          refine n_iadd hx hb d_Mod_isEntry_132 ?_
                          refine lv_iload hx hb d_Mod_isEntry_133 (lv_at hl 0 rfl) ?_
                          refine n_iadd hx hb d_Mod_isEntry_135 ?_
                          refine lv_aload_n hx hb d_Mod_isEntry_136 rfl (lv_at hl 2 rfl) ?_
                          refine va_get (D := (dC, dI)) (ci := 7) (v := .int (nI es)) (C := R_Mod) (T := F_Mod) (N := 23) hx hb hts in_Mod hown hK hP 0 rfl rfl 16 (by decide) (hts _ u_682) (fun _ h9 => h9) rfl d_Mod_isEntry_137 ?_
                          refine n_icmp_gt (tgt := 147) hx hb d_Mod_isEntry_140 (by decide) (by omega) (by omega) (fun c_140 => ?_) (fun c_140 => ?_)
                          · skip
                            refine lv_iconst (v := bI false) hx hb d_Mod_isEntry_147 (by decide) ?_
                            refine lv_istore (lv' := [(4, .int (bI false)), (6, .int (nI (if ee (at' + 1) = 255 then 0 else ee (at' + 1)))), (0, .ref m0), (1, .int (bI false)), (2, .int (nI (ee 0))), (3, .int (nI at')), (5, .int (nI k))]) hx hb d_Mod_isEntry_148 hl (by decide) rfl (fun ls hl => ?_)
                            refine lv_iload hx hb d_Mod_isEntry_150 (lv_at hl 0 rfl) ?_
                            refine n_if_eqB (tgt := 164) hx hb d_Mod_isEntry_152 (by decide) (fun c_152 => ?_) (fun c_152 => ?_)
                            · skip
                              refine lv_iload_n hx hb d_Mod_isEntry_164 rfl (lv_at hl 5 rfl) ?_
                              refine lv_iconst (v := nI 2) hx hb d_Mod_isEntry_165 (by decide) ?_
                              refine lv_iload hx hb d_Mod_isEntry_166 (lv_at hl 1 rfl) ?_
                              refine n_iadd hx hb d_Mod_isEntry_168 ?_
                              refine n_iadd hx hb d_Mod_isEntry_169 ?_
                              refine lv_istore_n (lv' := [(3, .int (nI (at' + (2 + (if ee (at' + 1) = 255 then 0 else ee (at' + 1)))))), (4, .int (bI false)), (6, .int (nI (if ee (at' + 1) = 255 then 0 else ee (at' + 1)))), (0, .ref m0), (1, .int (bI false)), (2, .int (nI (ee 0))), (5, .int (nI k))]) hx hb d_Mod_isEntry_170 rfl hl (by decide) rfl (fun ls hl => ?_)
                              refine lv_iinc (v := nI (k + 1)) (lv' := [(5, .int (nI (k + 1))), (3, .int (nI (at' + (2 + (if ee (at' + 1) = 255 then 0 else ee (at' + 1)))))), (4, .int (bI false)), (6, .int (nI (if ee (at' + 1) = 255 then 0 else ee (at' + 1)))), (0, .ref m0), (1, .int (bI false)), (2, .int (nI (ee 0)))]) hx hb d_Mod_isEntry_171 hl (k := 6) rfl (inc1 k) (by decide) rfl (fun ls hl => ?_)
                              refine lv_goto (tgt := 30) hx hb d_Mod_isEntry_174 (by decide) ?_
                              exact ih (k + 1) (at' + (2 + (if ee (at' + 1) = 255 then 0 else ee (at' + 1)))) false (by omega) (by omega) (by split <;> omega) (by rw [hinv, c_38, show ee 0 - k = (ee 0 - (k + 1)) + 1 by omega, meLoop, if_neg (fun q => absurd q.2.2.2 (Nat.not_le.mpr c_140))]; rfl) _ _ _ (hP.sub [0, 1] rfl) (hD.sub [0, 1] (by decide) rfl) hS (lv_sub hl [4, 5, 6, 1, 2, 0] rfl)
                            · exact absurd c_152 (by decide)
                          · skip
                            refine lv_iconst (v := bI true) hx hb d_Mod_isEntry_143 (by decide) ?_
                            refine lv_goto (tgt := 148) hx hb d_Mod_isEntry_144 (by decide) ?_
                            refine lv_istore (lv' := [(4, .int (bI true)), (6, .int (nI (if ee (at' + 1) = 255 then 0 else ee (at' + 1)))), (0, .ref m0), (1, .int (bI false)), (2, .int (nI (ee 0))), (3, .int (nI at')), (5, .int (nI k))]) hx hb d_Mod_isEntry_148 hl (by decide) rfl (fun ls hl => ?_)
                            refine lv_iload hx hb d_Mod_isEntry_150 (lv_at hl 0 rfl) ?_
                            refine n_if_eqB (tgt := 164) hx hb d_Mod_isEntry_152 (by decide) (fun c_152 => ?_) (fun c_152 => ?_)
                            · exact absurd c_152 (by decide)
                            · skip
                              refine lv_iload_n hx hb d_Mod_isEntry_155 rfl (lv_at hl 3 rfl) ?_
                              refine n_if_eqB (tgt := 164) hx hb d_Mod_isEntry_156 (by decide) (fun c_156 => ?_) (fun c_156 => ?_)
                              · skip
                                refine lv_iload_n hx hb d_Mod_isEntry_164 rfl (lv_at hl 5 rfl) ?_
                                refine lv_iconst (v := nI 2) hx hb d_Mod_isEntry_165 (by decide) ?_
                                refine lv_iload hx hb d_Mod_isEntry_166 (lv_at hl 1 rfl) ?_
                                refine n_iadd hx hb d_Mod_isEntry_168 ?_
                                refine n_iadd hx hb d_Mod_isEntry_169 ?_
                                refine lv_istore_n (lv' := [(3, .int (nI (at' + (2 + (if ee (at' + 1) = 255 then 0 else ee (at' + 1)))))), (4, .int (bI true)), (6, .int (nI (if ee (at' + 1) = 255 then 0 else ee (at' + 1)))), (0, .ref m0), (1, .int (bI false)), (2, .int (nI (ee 0))), (5, .int (nI k))]) hx hb d_Mod_isEntry_170 rfl hl (by decide) rfl (fun ls hl => ?_)
                                refine lv_iinc (v := nI (k + 1)) (lv' := [(5, .int (nI (k + 1))), (3, .int (nI (at' + (2 + (if ee (at' + 1) = 255 then 0 else ee (at' + 1)))))), (4, .int (bI true)), (6, .int (nI (if ee (at' + 1) = 255 then 0 else ee (at' + 1)))), (0, .ref m0), (1, .int (bI false)), (2, .int (nI (ee 0)))]) hx hb d_Mod_isEntry_171 hl (k := 6) rfl (inc1 k) (by decide) rfl (fun ls hl => ?_)
                                refine lv_goto (tgt := 30) hx hb d_Mod_isEntry_174 (by decide) ?_
                                exact ih (k + 1) (at' + (2 + (if ee (at' + 1) = 255 then 0 else ee (at' + 1)))) true (by omega) (by omega) (by split <;> omega) (by rw [hinv, c_38, show ee 0 - k = (ee 0 - (k + 1)) + 1 by omega, meLoop, if_pos ⟨by omega, by omega, by omega, c_140⟩]) _ _ _ (hP.sub [0, 1] rfl) (hD.sub [0, 1] (by decide) rfl) hS (lv_sub hl [4, 5, 6, 1, 2, 0] rfl)
                              · exact absurd c_156 (by decide)
                        · skip
                          refine lv_iconst (v := nI 0) hx hb d_Mod_isEntry_116 (by decide) ?_
                          refine lv_goto (tgt := 128) hx hb d_Mod_isEntry_117 (by decide) ?_
                          refine top_i (nI (if ee (at' + 1) = 255 then 0 else ee (at' + 1))) (by first | rw [if_pos c_113] | rw [if_neg c_113]) ?_
                          refine lv_istore (lv' := [(6, .int (nI (if ee (at' + 1) = 255 then 0 else ee (at' + 1)))), (4, .int (bI true)), (0, .ref m0), (1, .int (bI false)), (2, .int (nI (ee 0))), (3, .int (nI at')), (5, .int (nI k))]) hx hb d_Mod_isEntry_128 hl (by decide) rfl (fun ls hl => ?_)
                          have hM : (if ee (at' + 1) = 255 then 0 else ee (at' + 1)) ≤ 255 := by split <;> omega
                          refine lv_iload_n hx hb d_Mod_isEntry_130 rfl (lv_at hl 5 rfl) ?_
                          refine lv_iconst (v := nI 2) hx hb d_Mod_isEntry_131 (by decide) ?_
                          refine n_iadd hx hb d_Mod_isEntry_132 ?_
                          refine lv_iload hx hb d_Mod_isEntry_133 (lv_at hl 0 rfl) ?_
                          refine n_iadd hx hb d_Mod_isEntry_135 ?_
                          refine lv_aload_n hx hb d_Mod_isEntry_136 rfl (lv_at hl 2 rfl) ?_
                          refine va_get (D := (dC, dI)) (ci := 7) (v := .int (nI es)) (C := R_Mod) (T := F_Mod) (N := 23) hx hb hts in_Mod hown hK hP 0 rfl rfl 16 (by decide) (hts _ u_682) (fun _ h9 => h9) rfl d_Mod_isEntry_137 ?_
                          refine n_icmp_gt (tgt := 147) hx hb d_Mod_isEntry_140 (by decide) (by omega) (by omega) (fun c_140 => ?_) (fun c_140 => ?_)
                          · skip
                            refine lv_iconst (v := bI false) hx hb d_Mod_isEntry_147 (by decide) ?_
                            refine lv_istore (lv' := [(4, .int (bI false)), (6, .int (nI (if ee (at' + 1) = 255 then 0 else ee (at' + 1)))), (0, .ref m0), (1, .int (bI false)), (2, .int (nI (ee 0))), (3, .int (nI at')), (5, .int (nI k))]) hx hb d_Mod_isEntry_148 hl (by decide) rfl (fun ls hl => ?_)
                            refine lv_iload hx hb d_Mod_isEntry_150 (lv_at hl 0 rfl) ?_
                            refine n_if_eqB (tgt := 164) hx hb d_Mod_isEntry_152 (by decide) (fun c_152 => ?_) (fun c_152 => ?_)
                            · skip
                              refine lv_iload_n hx hb d_Mod_isEntry_164 rfl (lv_at hl 5 rfl) ?_
                              refine lv_iconst (v := nI 2) hx hb d_Mod_isEntry_165 (by decide) ?_
                              refine lv_iload hx hb d_Mod_isEntry_166 (lv_at hl 1 rfl) ?_
                              refine n_iadd hx hb d_Mod_isEntry_168 ?_
                              refine n_iadd hx hb d_Mod_isEntry_169 ?_
                              refine lv_istore_n (lv' := [(3, .int (nI (at' + (2 + (if ee (at' + 1) = 255 then 0 else ee (at' + 1)))))), (4, .int (bI false)), (6, .int (nI (if ee (at' + 1) = 255 then 0 else ee (at' + 1)))), (0, .ref m0), (1, .int (bI false)), (2, .int (nI (ee 0))), (5, .int (nI k))]) hx hb d_Mod_isEntry_170 rfl hl (by decide) rfl (fun ls hl => ?_)
                              refine lv_iinc (v := nI (k + 1)) (lv' := [(5, .int (nI (k + 1))), (3, .int (nI (at' + (2 + (if ee (at' + 1) = 255 then 0 else ee (at' + 1)))))), (4, .int (bI false)), (6, .int (nI (if ee (at' + 1) = 255 then 0 else ee (at' + 1)))), (0, .ref m0), (1, .int (bI false)), (2, .int (nI (ee 0)))]) hx hb d_Mod_isEntry_171 hl (k := 6) rfl (inc1 k) (by decide) rfl (fun ls hl => ?_)
                              refine lv_goto (tgt := 30) hx hb d_Mod_isEntry_174 (by decide) ?_
                              exact ih (k + 1) (at' + (2 + (if ee (at' + 1) = 255 then 0 else ee (at' + 1)))) false (by omega) (by omega) (by split <;> omega) (by rw [hinv, c_38, show ee 0 - k = (ee 0 - (k + 1)) + 1 by omega, meLoop, if_neg (fun q => absurd q.2.2.2 (Nat.not_le.mpr c_140))]; rfl) _ _ _ (hP.sub [0, 1] rfl) (hD.sub [0, 1] (by decide) rfl) hS (lv_sub hl [4, 5, 6, 1, 2, 0] rfl)
                            · exact absurd c_152 (by decide)
                          · skip
                            refine lv_iconst (v := bI true) hx hb d_Mod_isEntry_143 (by decide) ?_
                            refine lv_goto (tgt := 148) hx hb d_Mod_isEntry_144 (by decide) ?_
                            refine lv_istore (lv' := [(4, .int (bI true)), (6, .int (nI (if ee (at' + 1) = 255 then 0 else ee (at' + 1)))), (0, .ref m0), (1, .int (bI false)), (2, .int (nI (ee 0))), (3, .int (nI at')), (5, .int (nI k))]) hx hb d_Mod_isEntry_148 hl (by decide) rfl (fun ls hl => ?_)
                            refine lv_iload hx hb d_Mod_isEntry_150 (lv_at hl 0 rfl) ?_
                            refine n_if_eqB (tgt := 164) hx hb d_Mod_isEntry_152 (by decide) (fun c_152 => ?_) (fun c_152 => ?_)
                            · exact absurd c_152 (by decide)
                            · skip
                              refine lv_iload_n hx hb d_Mod_isEntry_155 rfl (lv_at hl 3 rfl) ?_
                              refine n_if_eqB (tgt := 164) hx hb d_Mod_isEntry_156 (by decide) (fun c_156 => ?_) (fun c_156 => ?_)
                              · skip
                                refine lv_iload_n hx hb d_Mod_isEntry_164 rfl (lv_at hl 5 rfl) ?_
                                refine lv_iconst (v := nI 2) hx hb d_Mod_isEntry_165 (by decide) ?_
                                refine lv_iload hx hb d_Mod_isEntry_166 (lv_at hl 1 rfl) ?_
                                refine n_iadd hx hb d_Mod_isEntry_168 ?_
                                refine n_iadd hx hb d_Mod_isEntry_169 ?_
                                refine lv_istore_n (lv' := [(3, .int (nI (at' + (2 + (if ee (at' + 1) = 255 then 0 else ee (at' + 1)))))), (4, .int (bI true)), (6, .int (nI (if ee (at' + 1) = 255 then 0 else ee (at' + 1)))), (0, .ref m0), (1, .int (bI false)), (2, .int (nI (ee 0))), (5, .int (nI k))]) hx hb d_Mod_isEntry_170 rfl hl (by decide) rfl (fun ls hl => ?_)
                                refine lv_iinc (v := nI (k + 1)) (lv' := [(5, .int (nI (k + 1))), (3, .int (nI (at' + (2 + (if ee (at' + 1) = 255 then 0 else ee (at' + 1)))))), (4, .int (bI true)), (6, .int (nI (if ee (at' + 1) = 255 then 0 else ee (at' + 1)))), (0, .ref m0), (1, .int (bI false)), (2, .int (nI (ee 0)))]) hx hb d_Mod_isEntry_171 hl (k := 6) rfl (inc1 k) (by decide) rfl (fun ls hl => ?_)
                                refine lv_goto (tgt := 30) hx hb d_Mod_isEntry_174 (by decide) ?_
                                exact ih (k + 1) (at' + (2 + (if ee (at' + 1) = 255 then 0 else ee (at' + 1)))) true (by omega) (by omega) (by split <;> omega) (by rw [hinv, c_38, show ee 0 - k = (ee 0 - (k + 1)) + 1 by omega, meLoop, if_pos ⟨by omega, by omega, by omega, c_140⟩]) _ _ _ (hP.sub [0, 1] rfl) (hD.sub [0, 1] (by decide) rfl) hS (lv_sub hl [4, 5, 6, 1, 2, 0] rfl)
                              · exact absurd c_156 (by decide)
      exact loop_30 (ee 0 + 1) 0 1 false (by omega) (by omega) (by omega) (by rw [Bool.false_and]; exact decide_eq_false (fun q => by omega)) _ _ _ (hP.sub [0, 1] rfl) (hD.sub [0, 1] (by decide) rfl) hS (lv_sub hl [4, 5, 3, 2, 1, 0] rfl)
    · skip
      refine lv_iconst (v := bI true) hx hb d_Mod_isEntry_20 (by decide) ?_
      refine lv_goto (tgt := 25) hx hb d_Mod_isEntry_21 (by decide) ?_
      refine lv_istore (lv' := [(4, .int (bI true)), (3, .int (nI 1)), (2, .int (nI (ee 0))), (0, .ref m0), (1, .int (bI false))]) hx hb d_Mod_isEntry_25 hl (by decide) rfl (fun ls hl => ?_)
      refine lv_iconst (v := nI 0) hx hb d_Mod_isEntry_27 (by decide) ?_
      refine lv_istore (lv' := [(5, .int (nI 0)), (4, .int (bI true)), (3, .int (nI 1)), (2, .int (nI (ee 0))), (0, .ref m0), (1, .int (bI false))]) hx hb d_Mod_isEntry_28 hl (by decide) rfl (fun ls hl => ?_)
      have loop_30 : ∀ (n_ : Nat) (k at' : Nat) (good : Bool), (k ≤ ee 0) → (ee 0 + 1 ≤ k + n_) → (at' ≤ 1 + k * 257) → (isEntM ee es = (good && decide (meLoop ee es (ee 0 - k) at' = some es))) → ∀ (H : Heap) (locs : List Loc) (ls : Array Slot), va_P (dC, dI) CL_ [(m0, .inr (7, [.int (nI th), .ref a1, .ref a2, .int (nI vs), .ref a3, .int (nI bs), .int (nI ch), .int (nI mh), .int (nI me), .int (nI mb), .int (nI mn), .ref a4, .ref a5, .int (nI mw), .int (nI mr), .ref a6, .int (nI es), .int (nI pn), .ref a7, .ref a8, .int (oI ah), .ref a9, .int (nI fs)])), (a6, .inl (cI, 2600, .inl (nA ee)))] H → va_D A [(m0, .inr (7, [.int (nI th), .ref a1, .ref a2, .int (nI vs), .ref a3, .int (nI bs), .int (nI ch), .int (nI mh), .int (nI me), .int (nI mb), .int (nI mn), .ref a4, .ref a5, .int (nI mw), .int (nI mr), .ref a6, .int (nI es), .int (nI pn), .ref a7, .ref a8, .int (oI ah), .ref a9, .int (nI fs)])), (a6, .inl (cI, 2600, .inl (nA ee)))] → va_S A s.heap H locs → lv_has ls 7 [(0, .ref m0), (1, .int (bI false)), (2, .int (nI (ee 0))), (3, .int (nI at')), (4, .int (bI good)), (5, .int (nI k))] → W p l e rmm_isEntry0 s m args below meth c H locs 0 0 QQ (F0 m 30 ls []) := by
        intro n_
        induction n_ with
        | zero =>
          intro k at' good hk hf hat hinv
          exact absurd hf (by omega)
        | succ n_ ih =>
          intro k at' good hk hf hat hinv H locs ls hP hD hS hl
          have hb1 := hee at'
          have hb2 := hee (at' + 1)
          refine lv_iload hx hb d_Mod_isEntry_30 (lv_at hl 5 rfl) ?_
          refine lv_iload_n hx hb d_Mod_isEntry_32 rfl (lv_at hl 2 rfl) ?_
          refine n_icmp_ge (tgt := 177) hx hb d_Mod_isEntry_33 (by decide) (by omega) (by omega) (fun c_33 => ?_) (fun c_33 => ?_)
          · skip
            refine lv_iload hx hb d_Mod_isEntry_177 (lv_at hl 4 rfl) ?_
            refine n_if_eqB (tgt := 194) hx hb d_Mod_isEntry_179 (by decide) (fun c_179 => ?_) (fun c_179 => ?_)
            · skip
              refine lv_iconst (v := bI false) hx hb d_Mod_isEntry_194 (by decide) ?_
              exact hret false _ _ 195 ls d_Mod_isEntry_195 (hP.sub [0, 1] rfl) (hD.sub [0, 1] (by decide) rfl) hS (by rw [hinv, c_179]; rfl)
            · skip
              refine lv_iload_n hx hb d_Mod_isEntry_182 rfl (lv_at hl 3 rfl) ?_
              refine lv_aload_n hx hb d_Mod_isEntry_183 rfl (lv_at hl 0 rfl) ?_
              refine va_get (D := (dC, dI)) (ci := 7) (v := .int (nI es)) (C := R_Mod) (T := F_Mod) (N := 23) hx hb hts in_Mod hown hK hP 0 rfl rfl 16 (by decide) (hts _ u_682) (fun _ h9 => h9) rfl d_Mod_isEntry_184 ?_
              refine n_icmp_ne (tgt := 194) hx hb d_Mod_isEntry_187 (by decide) (by omega) (by omega) (fun c_187 => ?_) (fun c_187 => ?_)
              · skip
                refine lv_iconst (v := bI false) hx hb d_Mod_isEntry_194 (by decide) ?_
                exact hret false _ _ 195 ls d_Mod_isEntry_195 (hP.sub [0, 1] rfl) (hD.sub [0, 1] (by decide) rfl) hS (by rw [hinv, c_179, show ee 0 - k = 0 by omega, meLoop, Bool.true_and]; exact (decide_eq_false (fun q => c_187 (Option.some.inj q))).symm)
              · skip
                refine lv_iconst (v := bI true) hx hb d_Mod_isEntry_190 (by decide) ?_
                refine lv_goto (tgt := 195) hx hb d_Mod_isEntry_191 (by decide) ?_
                exact hret true _ _ 195 ls d_Mod_isEntry_195 (hP.sub [0, 1] rfl) (hD.sub [0, 1] (by decide) rfl) hS (by rw [hinv, c_179, show ee 0 - k = 0 by omega, meLoop, Bool.true_and]; exact (decide_eq_true (congrArg some c_187)).symm)
          · skip
            refine lv_iload hx hb d_Mod_isEntry_36 (lv_at hl 4 rfl) ?_
            refine n_if_eqB (tgt := 177) hx hb d_Mod_isEntry_38 (by decide) (fun c_38 => ?_) (fun c_38 => ?_)
            · skip
              refine lv_iload hx hb d_Mod_isEntry_177 (lv_at hl 4 rfl) ?_
              refine n_if_eqB (tgt := 194) hx hb d_Mod_isEntry_179 (by decide) (fun c_179 => ?_) (fun c_179 => ?_)
              · skip
                refine lv_iconst (v := bI false) hx hb d_Mod_isEntry_194 (by decide) ?_
                exact hret false _ _ 195 ls d_Mod_isEntry_195 (hP.sub [0, 1] rfl) (hD.sub [0, 1] (by decide) rfl) hS (by rw [hinv, c_179]; rfl)
              · exact absurd (c_38.symm.trans c_179) (by decide)
            · skip
              refine lv_iload_n hx hb d_Mod_isEntry_41 rfl (lv_at hl 3 rfl) ?_
              refine lv_iconst (v := nI 2) hx hb d_Mod_isEntry_42 (by decide) ?_
              refine n_iadd hx hb d_Mod_isEntry_43 ?_
              refine lv_aload_n hx hb d_Mod_isEntry_44 rfl (lv_at hl 0 rfl) ?_
              refine va_get (D := (dC, dI)) (ci := 7) (v := .int (nI es)) (C := R_Mod) (T := F_Mod) (N := 23) hx hb hts in_Mod hown hK hP 0 rfl rfl 16 (by decide) (hts _ u_682) (fun _ h9 => h9) rfl d_Mod_isEntry_45 ?_
              refine n_icmp_gt (tgt := 94) hx hb d_Mod_isEntry_48 (by decide) (by omega) (by omega) (fun c_48 => ?_) (fun c_48 => ?_)
              · skip
                refine lv_iconst (v := bI false) hx hb d_Mod_isEntry_94 (by decide) ?_
                refine lv_istore (lv' := [(4, .int (bI false)), (0, .ref m0), (1, .int (bI false)), (2, .int (nI (ee 0))), (3, .int (nI at')), (5, .int (nI k))]) hx hb d_Mod_isEntry_95 hl (by decide) rfl (fun ls hl => ?_)
                refine lv_iload hx hb d_Mod_isEntry_97 (lv_at hl 0 rfl) ?_
                refine n_if_eqB (tgt := 171) hx hb d_Mod_isEntry_99 (by decide) (fun c_99 => ?_) (fun c_99 => ?_)
                · skip
                  refine lv_iinc (v := nI (k + 1)) (lv' := [(5, .int (nI (k + 1))), (4, .int (bI false)), (0, .ref m0), (1, .int (bI false)), (2, .int (nI (ee 0))), (3, .int (nI at'))]) hx hb d_Mod_isEntry_171 hl (k := 5) rfl (inc1 k) (by decide) rfl (fun ls hl => ?_)
                  refine lv_goto (tgt := 30) hx hb d_Mod_isEntry_174 (by decide) ?_
                  exact ih (k + 1) at' false (by omega) (by omega) (by omega) (by rw [hinv, c_38, show ee 0 - k = (ee 0 - (k + 1)) + 1 by omega, meLoop, if_neg (fun q => by omega)]; rfl) _ _ _ (hP.sub [0, 1] rfl) (hD.sub [0, 1] (by decide) rfl) hS (lv_sub hl [2, 3, 4, 5, 1, 0] rfl)
                · exact absurd c_99 (by decide)
              · skip
                refine lv_aload_n hx hb d_Mod_isEntry_51 rfl (lv_at hl 0 rfl) ?_
                refine va_get (D := (dC, dI)) (ci := 7) (v := .ref a6) (C := R_Mod) (T := F_Mod) (N := 23) hx hb hts in_Mod hown hK hP 0 rfl rfl 15 (by decide) (hts _ u_681) (fun _ h9 => h9) rfl d_Mod_isEntry_52 ?_
                refine lv_iload_n hx hb d_Mod_isEntry_55 rfl (lv_at hl 3 rfl) ?_
                refine n_iald (v := nI (ee at')) hx hb hK hP 1 0 rfl rfl rfl (by omega) (by omega) d_Mod_isEntry_56 ?_
                refine lv_sipush (v := nI 200) hx hb d_Mod_isEntry_57 (by decide) ?_
                refine n_icmp_ge (tgt := 94) hx hb d_Mod_isEntry_60 (by decide) (by omega) (by omega) (fun c_60 => ?_) (fun c_60 => ?_)
                · skip
                  refine lv_iconst (v := bI false) hx hb d_Mod_isEntry_94 (by decide) ?_
                  refine lv_istore (lv' := [(4, .int (bI false)), (0, .ref m0), (1, .int (bI false)), (2, .int (nI (ee 0))), (3, .int (nI at')), (5, .int (nI k))]) hx hb d_Mod_isEntry_95 hl (by decide) rfl (fun ls hl => ?_)
                  refine lv_iload hx hb d_Mod_isEntry_97 (lv_at hl 0 rfl) ?_
                  refine n_if_eqB (tgt := 171) hx hb d_Mod_isEntry_99 (by decide) (fun c_99 => ?_) (fun c_99 => ?_)
                  · skip
                    refine lv_iinc (v := nI (k + 1)) (lv' := [(5, .int (nI (k + 1))), (4, .int (bI false)), (0, .ref m0), (1, .int (bI false)), (2, .int (nI (ee 0))), (3, .int (nI at'))]) hx hb d_Mod_isEntry_171 hl (k := 5) rfl (inc1 k) (by decide) rfl (fun ls hl => ?_)
                    refine lv_goto (tgt := 30) hx hb d_Mod_isEntry_174 (by decide) ?_
                    exact ih (k + 1) at' false (by omega) (by omega) (by omega) (by rw [hinv, c_38, show ee 0 - k = (ee 0 - (k + 1)) + 1 by omega, meLoop, if_neg (fun q => by omega)]; rfl) _ _ _ (hP.sub [0, 1] rfl) (hD.sub [0, 1] (by decide) rfl) hS (lv_sub hl [2, 3, 4, 5, 1, 0] rfl)
                  · exact absurd c_99 (by decide)
                · skip
                  refine lv_aload_n hx hb d_Mod_isEntry_63 rfl (lv_at hl 0 rfl) ?_
                  refine va_get (D := (dC, dI)) (ci := 7) (v := .ref a6) (C := R_Mod) (T := F_Mod) (N := 23) hx hb hts in_Mod hown hK hP 0 rfl rfl 15 (by decide) (hts _ u_681) (fun _ h9 => h9) rfl d_Mod_isEntry_64 ?_
                  refine lv_iload_n hx hb d_Mod_isEntry_67 rfl (lv_at hl 3 rfl) ?_
                  refine lv_iconst (v := nI 1) hx hb d_Mod_isEntry_68 (by decide) ?_
                  refine n_iadd hx hb d_Mod_isEntry_69 ?_
                  refine n_iald (v := nI (ee (at' + 1))) hx hb hK hP 1 0 rfl rfl rfl (by omega) (by omega) d_Mod_isEntry_70 ?_
                  refine lv_bipush (v := nI 40) hx hb d_Mod_isEntry_71 (by decide) ?_
                  refine n_icmp_le (tgt := 90) hx hb d_Mod_isEntry_73 (by decide) (by omega) (by omega) (fun c_73 => ?_) (fun c_73 => ?_)
                  · skip
                    refine lv_iconst (v := bI true) hx hb d_Mod_isEntry_90 (by decide) ?_
                    refine lv_goto (tgt := 95) hx hb d_Mod_isEntry_91 (by decide) ?_
                    refine lv_istore (lv' := [(4, .int (bI true)), (0, .ref m0), (1, .int (bI false)), (2, .int (nI (ee 0))), (3, .int (nI at')), (5, .int (nI k))]) hx hb d_Mod_isEntry_95 hl (by decide) rfl (fun ls hl => ?_)
                    refine lv_iload hx hb d_Mod_isEntry_97 (lv_at hl 0 rfl) ?_
                    refine n_if_eqB (tgt := 171) hx hb d_Mod_isEntry_99 (by decide) (fun c_99 => ?_) (fun c_99 => ?_)
                    · exact absurd c_99 (by decide)
                    · skip
                      refine lv_aload_n hx hb d_Mod_isEntry_102 rfl (lv_at hl 1 rfl) ?_
                      refine va_get (D := (dC, dI)) (ci := 7) (v := .ref a6) (C := R_Mod) (T := F_Mod) (N := 23) hx hb hts in_Mod hown hK hP 0 rfl rfl 15 (by decide) (hts _ u_681) (fun _ h9 => h9) rfl d_Mod_isEntry_103 ?_
                      refine lv_iload_n hx hb d_Mod_isEntry_106 rfl (lv_at hl 4 rfl) ?_
                      refine lv_iconst (v := nI 1) hx hb d_Mod_isEntry_107 (by decide) ?_
                      refine n_iadd hx hb d_Mod_isEntry_108 ?_
                      refine n_iald (v := nI (ee (at' + 1))) hx hb hK hP 1 0 rfl rfl rfl (by omega) (by omega) d_Mod_isEntry_109 ?_
                      refine lv_sipush (v := nI 255) hx hb d_Mod_isEntry_110 (by decide) ?_
                      refine n_icmp_ne (tgt := 120) hx hb d_Mod_isEntry_113 (by decide) (by omega) (by omega) (fun c_113 => ?_) (fun c_113 => ?_)
                      · skip
                        refine lv_aload_n hx hb d_Mod_isEntry_120 rfl (lv_at hl 1 rfl) ?_
                        refine va_get (D := (dC, dI)) (ci := 7) (v := .ref a6) (C := R_Mod) (T := F_Mod) (N := 23) hx hb hts in_Mod hown hK hP 0 rfl rfl 15 (by decide) (hts _ u_681) (fun _ h9 => h9) rfl d_Mod_isEntry_121 ?_
                        refine lv_iload_n hx hb d_Mod_isEntry_124 rfl (lv_at hl 4 rfl) ?_
                        refine lv_iconst (v := nI 1) hx hb d_Mod_isEntry_125 (by decide) ?_
                        refine n_iadd hx hb d_Mod_isEntry_126 ?_
                        refine n_iald (v := nI (ee (at' + 1))) hx hb hK hP 1 0 rfl rfl rfl (by omega) (by omega) d_Mod_isEntry_127 ?_
                        refine top_i (nI (if ee (at' + 1) = 255 then 0 else ee (at' + 1))) (by first | rw [if_pos c_113] | rw [if_neg c_113]) ?_
                        refine lv_istore (lv' := [(6, .int (nI (if ee (at' + 1) = 255 then 0 else ee (at' + 1)))), (4, .int (bI true)), (0, .ref m0), (1, .int (bI false)), (2, .int (nI (ee 0))), (3, .int (nI at')), (5, .int (nI k))]) hx hb d_Mod_isEntry_128 hl (by decide) rfl (fun ls hl => ?_)
                        have hM : (if ee (at' + 1) = 255 then 0 else ee (at' + 1)) ≤ 255 := by split <;> omega
                        refine lv_iload_n hx hb d_Mod_isEntry_130 rfl (lv_at hl 5 rfl) ?_
                        refine lv_iconst (v := nI 2) hx hb d_Mod_isEntry_131 (by decide) ?_
                        refine n_iadd hx hb d_Mod_isEntry_132 ?_
                        refine lv_iload hx hb d_Mod_isEntry_133 (lv_at hl 0 rfl) ?_
                        refine n_iadd hx hb d_Mod_isEntry_135 ?_
                        refine lv_aload_n hx hb d_Mod_isEntry_136 rfl (lv_at hl 2 rfl) ?_
                        refine va_get (D := (dC, dI)) (ci := 7) (v := .int (nI es)) (C := R_Mod) (T := F_Mod) (N := 23) hx hb hts in_Mod hown hK hP 0 rfl rfl 16 (by decide) (hts _ u_682) (fun _ h9 => h9) rfl d_Mod_isEntry_137 ?_
                        refine n_icmp_gt (tgt := 147) hx hb d_Mod_isEntry_140 (by decide) (by omega) (by omega) (fun c_140 => ?_) (fun c_140 => ?_)
                        · skip
                          refine lv_iconst (v := bI false) hx hb d_Mod_isEntry_147 (by decide) ?_
                          refine lv_istore (lv' := [(4, .int (bI false)), (6, .int (nI (if ee (at' + 1) = 255 then 0 else ee (at' + 1)))), (0, .ref m0), (1, .int (bI false)), (2, .int (nI (ee 0))), (3, .int (nI at')), (5, .int (nI k))]) hx hb d_Mod_isEntry_148 hl (by decide) rfl (fun ls hl => ?_)
                          refine lv_iload hx hb d_Mod_isEntry_150 (lv_at hl 0 rfl) ?_
                          refine n_if_eqB (tgt := 164) hx hb d_Mod_isEntry_152 (by decide) (fun c_152 => ?_) (fun c_152 => ?_)
                          · skip
                            refine lv_iload_n hx hb d_Mod_isEntry_164 rfl (lv_at hl 5 rfl) ?_
                            refine lv_iconst (v := nI 2) hx hb d_Mod_isEntry_165 (by decide) ?_
                            refine lv_iload hx hb d_Mod_isEntry_166 (lv_at hl 1 rfl) ?_
                            refine n_iadd hx hb d_Mod_isEntry_168 ?_
                            refine n_iadd hx hb d_Mod_isEntry_169 ?_
                            refine lv_istore_n (lv' := [(3, .int (nI (at' + (2 + (if ee (at' + 1) = 255 then 0 else ee (at' + 1)))))), (4, .int (bI false)), (6, .int (nI (if ee (at' + 1) = 255 then 0 else ee (at' + 1)))), (0, .ref m0), (1, .int (bI false)), (2, .int (nI (ee 0))), (5, .int (nI k))]) hx hb d_Mod_isEntry_170 rfl hl (by decide) rfl (fun ls hl => ?_)
                            refine lv_iinc (v := nI (k + 1)) (lv' := [(5, .int (nI (k + 1))), (3, .int (nI (at' + (2 + (if ee (at' + 1) = 255 then 0 else ee (at' + 1)))))), (4, .int (bI false)), (6, .int (nI (if ee (at' + 1) = 255 then 0 else ee (at' + 1)))), (0, .ref m0), (1, .int (bI false)), (2, .int (nI (ee 0)))]) hx hb d_Mod_isEntry_171 hl (k := 6) rfl (inc1 k) (by decide) rfl (fun ls hl => ?_)
                            refine lv_goto (tgt := 30) hx hb d_Mod_isEntry_174 (by decide) ?_
                            exact ih (k + 1) (at' + (2 + (if ee (at' + 1) = 255 then 0 else ee (at' + 1)))) false (by omega) (by omega) (by split <;> omega) (by rw [hinv, c_38, show ee 0 - k = (ee 0 - (k + 1)) + 1 by omega, meLoop, if_neg (fun q => absurd q.2.2.2 (Nat.not_le.mpr c_140))]; rfl) _ _ _ (hP.sub [0, 1] rfl) (hD.sub [0, 1] (by decide) rfl) hS (lv_sub hl [4, 5, 6, 1, 2, 0] rfl)
                          · exact absurd c_152 (by decide)
                        · skip
                          refine lv_iconst (v := bI true) hx hb d_Mod_isEntry_143 (by decide) ?_
                          refine lv_goto (tgt := 148) hx hb d_Mod_isEntry_144 (by decide) ?_
                          refine lv_istore (lv' := [(4, .int (bI true)), (6, .int (nI (if ee (at' + 1) = 255 then 0 else ee (at' + 1)))), (0, .ref m0), (1, .int (bI false)), (2, .int (nI (ee 0))), (3, .int (nI at')), (5, .int (nI k))]) hx hb d_Mod_isEntry_148 hl (by decide) rfl (fun ls hl => ?_)
                          refine lv_iload hx hb d_Mod_isEntry_150 (lv_at hl 0 rfl) ?_
                          refine n_if_eqB (tgt := 164) hx hb d_Mod_isEntry_152 (by decide) (fun c_152 => ?_) (fun c_152 => ?_)
                          · exact absurd c_152 (by decide)
                          · skip
                            refine lv_iload_n hx hb d_Mod_isEntry_155 rfl (lv_at hl 3 rfl) ?_
                            refine n_if_eqB (tgt := 164) hx hb d_Mod_isEntry_156 (by decide) (fun c_156 => ?_) (fun c_156 => ?_)
                            · skip
                              refine lv_iload_n hx hb d_Mod_isEntry_164 rfl (lv_at hl 5 rfl) ?_
                              refine lv_iconst (v := nI 2) hx hb d_Mod_isEntry_165 (by decide) ?_
                              refine lv_iload hx hb d_Mod_isEntry_166 (lv_at hl 1 rfl) ?_
                              refine n_iadd hx hb d_Mod_isEntry_168 ?_
                              refine n_iadd hx hb d_Mod_isEntry_169 ?_
                              refine lv_istore_n (lv' := [(3, .int (nI (at' + (2 + (if ee (at' + 1) = 255 then 0 else ee (at' + 1)))))), (4, .int (bI true)), (6, .int (nI (if ee (at' + 1) = 255 then 0 else ee (at' + 1)))), (0, .ref m0), (1, .int (bI false)), (2, .int (nI (ee 0))), (5, .int (nI k))]) hx hb d_Mod_isEntry_170 rfl hl (by decide) rfl (fun ls hl => ?_)
                              refine lv_iinc (v := nI (k + 1)) (lv' := [(5, .int (nI (k + 1))), (3, .int (nI (at' + (2 + (if ee (at' + 1) = 255 then 0 else ee (at' + 1)))))), (4, .int (bI true)), (6, .int (nI (if ee (at' + 1) = 255 then 0 else ee (at' + 1)))), (0, .ref m0), (1, .int (bI false)), (2, .int (nI (ee 0)))]) hx hb d_Mod_isEntry_171 hl (k := 6) rfl (inc1 k) (by decide) rfl (fun ls hl => ?_)
                              refine lv_goto (tgt := 30) hx hb d_Mod_isEntry_174 (by decide) ?_
                              exact ih (k + 1) (at' + (2 + (if ee (at' + 1) = 255 then 0 else ee (at' + 1)))) true (by omega) (by omega) (by split <;> omega) (by rw [hinv, c_38, show ee 0 - k = (ee 0 - (k + 1)) + 1 by omega, meLoop, if_pos ⟨by omega, by omega, by omega, c_140⟩]) _ _ _ (hP.sub [0, 1] rfl) (hD.sub [0, 1] (by decide) rfl) hS (lv_sub hl [4, 5, 6, 1, 2, 0] rfl)
                            · exact absurd c_156 (by decide)
                      · skip
                        refine lv_iconst (v := nI 0) hx hb d_Mod_isEntry_116 (by decide) ?_
                        refine lv_goto (tgt := 128) hx hb d_Mod_isEntry_117 (by decide) ?_
                        refine top_i (nI (if ee (at' + 1) = 255 then 0 else ee (at' + 1))) (by first | rw [if_pos c_113] | rw [if_neg c_113]) ?_
                        refine lv_istore (lv' := [(6, .int (nI (if ee (at' + 1) = 255 then 0 else ee (at' + 1)))), (4, .int (bI true)), (0, .ref m0), (1, .int (bI false)), (2, .int (nI (ee 0))), (3, .int (nI at')), (5, .int (nI k))]) hx hb d_Mod_isEntry_128 hl (by decide) rfl (fun ls hl => ?_)
                        have hM : (if ee (at' + 1) = 255 then 0 else ee (at' + 1)) ≤ 255 := by split <;> omega
                        refine lv_iload_n hx hb d_Mod_isEntry_130 rfl (lv_at hl 5 rfl) ?_
                        refine lv_iconst (v := nI 2) hx hb d_Mod_isEntry_131 (by decide) ?_
                        refine n_iadd hx hb d_Mod_isEntry_132 ?_
                        refine lv_iload hx hb d_Mod_isEntry_133 (lv_at hl 0 rfl) ?_
                        refine n_iadd hx hb d_Mod_isEntry_135 ?_
                        refine lv_aload_n hx hb d_Mod_isEntry_136 rfl (lv_at hl 2 rfl) ?_
                        refine va_get (D := (dC, dI)) (ci := 7) (v := .int (nI es)) (C := R_Mod) (T := F_Mod) (N := 23) hx hb hts in_Mod hown hK hP 0 rfl rfl 16 (by decide) (hts _ u_682) (fun _ h9 => h9) rfl d_Mod_isEntry_137 ?_
                        refine n_icmp_gt (tgt := 147) hx hb d_Mod_isEntry_140 (by decide) (by omega) (by omega) (fun c_140 => ?_) (fun c_140 => ?_)
                        · skip
                          refine lv_iconst (v := bI false) hx hb d_Mod_isEntry_147 (by decide) ?_
                          refine lv_istore (lv' := [(4, .int (bI false)), (6, .int (nI (if ee (at' + 1) = 255 then 0 else ee (at' + 1)))), (0, .ref m0), (1, .int (bI false)), (2, .int (nI (ee 0))), (3, .int (nI at')), (5, .int (nI k))]) hx hb d_Mod_isEntry_148 hl (by decide) rfl (fun ls hl => ?_)
                          refine lv_iload hx hb d_Mod_isEntry_150 (lv_at hl 0 rfl) ?_
                          refine n_if_eqB (tgt := 164) hx hb d_Mod_isEntry_152 (by decide) (fun c_152 => ?_) (fun c_152 => ?_)
                          · skip
                            refine lv_iload_n hx hb d_Mod_isEntry_164 rfl (lv_at hl 5 rfl) ?_
                            refine lv_iconst (v := nI 2) hx hb d_Mod_isEntry_165 (by decide) ?_
                            refine lv_iload hx hb d_Mod_isEntry_166 (lv_at hl 1 rfl) ?_
                            refine n_iadd hx hb d_Mod_isEntry_168 ?_
                            refine n_iadd hx hb d_Mod_isEntry_169 ?_
                            refine lv_istore_n (lv' := [(3, .int (nI (at' + (2 + (if ee (at' + 1) = 255 then 0 else ee (at' + 1)))))), (4, .int (bI false)), (6, .int (nI (if ee (at' + 1) = 255 then 0 else ee (at' + 1)))), (0, .ref m0), (1, .int (bI false)), (2, .int (nI (ee 0))), (5, .int (nI k))]) hx hb d_Mod_isEntry_170 rfl hl (by decide) rfl (fun ls hl => ?_)
                            refine lv_iinc (v := nI (k + 1)) (lv' := [(5, .int (nI (k + 1))), (3, .int (nI (at' + (2 + (if ee (at' + 1) = 255 then 0 else ee (at' + 1)))))), (4, .int (bI false)), (6, .int (nI (if ee (at' + 1) = 255 then 0 else ee (at' + 1)))), (0, .ref m0), (1, .int (bI false)), (2, .int (nI (ee 0)))]) hx hb d_Mod_isEntry_171 hl (k := 6) rfl (inc1 k) (by decide) rfl (fun ls hl => ?_)
                            refine lv_goto (tgt := 30) hx hb d_Mod_isEntry_174 (by decide) ?_
                            exact ih (k + 1) (at' + (2 + (if ee (at' + 1) = 255 then 0 else ee (at' + 1)))) false (by omega) (by omega) (by split <;> omega) (by rw [hinv, c_38, show ee 0 - k = (ee 0 - (k + 1)) + 1 by omega, meLoop, if_neg (fun q => absurd q.2.2.2 (Nat.not_le.mpr c_140))]; rfl) _ _ _ (hP.sub [0, 1] rfl) (hD.sub [0, 1] (by decide) rfl) hS (lv_sub hl [4, 5, 6, 1, 2, 0] rfl)
                          · exact absurd c_152 (by decide)
                        · skip
                          refine lv_iconst (v := bI true) hx hb d_Mod_isEntry_143 (by decide) ?_
                          refine lv_goto (tgt := 148) hx hb d_Mod_isEntry_144 (by decide) ?_
                          refine lv_istore (lv' := [(4, .int (bI true)), (6, .int (nI (if ee (at' + 1) = 255 then 0 else ee (at' + 1)))), (0, .ref m0), (1, .int (bI false)), (2, .int (nI (ee 0))), (3, .int (nI at')), (5, .int (nI k))]) hx hb d_Mod_isEntry_148 hl (by decide) rfl (fun ls hl => ?_)
                          refine lv_iload hx hb d_Mod_isEntry_150 (lv_at hl 0 rfl) ?_
                          refine n_if_eqB (tgt := 164) hx hb d_Mod_isEntry_152 (by decide) (fun c_152 => ?_) (fun c_152 => ?_)
                          · exact absurd c_152 (by decide)
                          · skip
                            refine lv_iload_n hx hb d_Mod_isEntry_155 rfl (lv_at hl 3 rfl) ?_
                            refine n_if_eqB (tgt := 164) hx hb d_Mod_isEntry_156 (by decide) (fun c_156 => ?_) (fun c_156 => ?_)
                            · skip
                              refine lv_iload_n hx hb d_Mod_isEntry_164 rfl (lv_at hl 5 rfl) ?_
                              refine lv_iconst (v := nI 2) hx hb d_Mod_isEntry_165 (by decide) ?_
                              refine lv_iload hx hb d_Mod_isEntry_166 (lv_at hl 1 rfl) ?_
                              refine n_iadd hx hb d_Mod_isEntry_168 ?_
                              refine n_iadd hx hb d_Mod_isEntry_169 ?_
                              refine lv_istore_n (lv' := [(3, .int (nI (at' + (2 + (if ee (at' + 1) = 255 then 0 else ee (at' + 1)))))), (4, .int (bI true)), (6, .int (nI (if ee (at' + 1) = 255 then 0 else ee (at' + 1)))), (0, .ref m0), (1, .int (bI false)), (2, .int (nI (ee 0))), (5, .int (nI k))]) hx hb d_Mod_isEntry_170 rfl hl (by decide) rfl (fun ls hl => ?_)
                              refine lv_iinc (v := nI (k + 1)) (lv' := [(5, .int (nI (k + 1))), (3, .int (nI (at' + (2 + (if ee (at' + 1) = 255 then 0 else ee (at' + 1)))))), (4, .int (bI true)), (6, .int (nI (if ee (at' + 1) = 255 then 0 else ee (at' + 1)))), (0, .ref m0), (1, .int (bI false)), (2, .int (nI (ee 0)))]) hx hb d_Mod_isEntry_171 hl (k := 6) rfl (inc1 k) (by decide) rfl (fun ls hl => ?_)
                              refine lv_goto (tgt := 30) hx hb d_Mod_isEntry_174 (by decide) ?_
                              exact ih (k + 1) (at' + (2 + (if ee (at' + 1) = 255 then 0 else ee (at' + 1)))) true (by omega) (by omega) (by split <;> omega) (by rw [hinv, c_38, show ee 0 - k = (ee 0 - (k + 1)) + 1 by omega, meLoop, if_pos ⟨by omega, by omega, by omega, c_140⟩]) _ _ _ (hP.sub [0, 1] rfl) (hD.sub [0, 1] (by decide) rfl) hS (lv_sub hl [4, 5, 6, 1, 2, 0] rfl)
                            · exact absurd c_156 (by decide)
                  · skip
                    refine lv_aload_n hx hb d_Mod_isEntry_76 rfl (lv_at hl 0 rfl) ?_
                    refine va_get (D := (dC, dI)) (ci := 7) (v := .ref a6) (C := R_Mod) (T := F_Mod) (N := 23) hx hb hts in_Mod hown hK hP 0 rfl rfl 15 (by decide) (hts _ u_681) (fun _ h9 => h9) rfl d_Mod_isEntry_77 ?_
                    refine lv_iload_n hx hb d_Mod_isEntry_80 rfl (lv_at hl 3 rfl) ?_
                    refine lv_iconst (v := nI 1) hx hb d_Mod_isEntry_81 (by decide) ?_
                    refine n_iadd hx hb d_Mod_isEntry_82 ?_
                    refine n_iald (v := nI (ee (at' + 1))) hx hb hK hP 1 0 rfl rfl rfl (by omega) (by omega) d_Mod_isEntry_83 ?_
                    refine lv_sipush (v := nI 255) hx hb d_Mod_isEntry_84 (by decide) ?_
                    refine n_icmp_ne (tgt := 94) hx hb d_Mod_isEntry_87 (by decide) (by omega) (by omega) (fun c_87 => ?_) (fun c_87 => ?_)
                    · skip
                      refine lv_iconst (v := bI false) hx hb d_Mod_isEntry_94 (by decide) ?_
                      refine lv_istore (lv' := [(4, .int (bI false)), (0, .ref m0), (1, .int (bI false)), (2, .int (nI (ee 0))), (3, .int (nI at')), (5, .int (nI k))]) hx hb d_Mod_isEntry_95 hl (by decide) rfl (fun ls hl => ?_)
                      refine lv_iload hx hb d_Mod_isEntry_97 (lv_at hl 0 rfl) ?_
                      refine n_if_eqB (tgt := 171) hx hb d_Mod_isEntry_99 (by decide) (fun c_99 => ?_) (fun c_99 => ?_)
                      · skip
                        refine lv_iinc (v := nI (k + 1)) (lv' := [(5, .int (nI (k + 1))), (4, .int (bI false)), (0, .ref m0), (1, .int (bI false)), (2, .int (nI (ee 0))), (3, .int (nI at'))]) hx hb d_Mod_isEntry_171 hl (k := 5) rfl (inc1 k) (by decide) rfl (fun ls hl => ?_)
                        refine lv_goto (tgt := 30) hx hb d_Mod_isEntry_174 (by decide) ?_
                        exact ih (k + 1) at' false (by omega) (by omega) (by omega) (by rw [hinv, c_38, show ee 0 - k = (ee 0 - (k + 1)) + 1 by omega, meLoop, if_neg (fun q => by omega)]; rfl) _ _ _ (hP.sub [0, 1] rfl) (hD.sub [0, 1] (by decide) rfl) hS (lv_sub hl [2, 3, 4, 5, 1, 0] rfl)
                      · exact absurd c_99 (by decide)
                    · skip
                      refine lv_iconst (v := bI true) hx hb d_Mod_isEntry_90 (by decide) ?_
                      refine lv_goto (tgt := 95) hx hb d_Mod_isEntry_91 (by decide) ?_
                      refine lv_istore (lv' := [(4, .int (bI true)), (0, .ref m0), (1, .int (bI false)), (2, .int (nI (ee 0))), (3, .int (nI at')), (5, .int (nI k))]) hx hb d_Mod_isEntry_95 hl (by decide) rfl (fun ls hl => ?_)
                      refine lv_iload hx hb d_Mod_isEntry_97 (lv_at hl 0 rfl) ?_
                      refine n_if_eqB (tgt := 171) hx hb d_Mod_isEntry_99 (by decide) (fun c_99 => ?_) (fun c_99 => ?_)
                      · exact absurd c_99 (by decide)
                      · skip
                        refine lv_aload_n hx hb d_Mod_isEntry_102 rfl (lv_at hl 1 rfl) ?_
                        refine va_get (D := (dC, dI)) (ci := 7) (v := .ref a6) (C := R_Mod) (T := F_Mod) (N := 23) hx hb hts in_Mod hown hK hP 0 rfl rfl 15 (by decide) (hts _ u_681) (fun _ h9 => h9) rfl d_Mod_isEntry_103 ?_
                        refine lv_iload_n hx hb d_Mod_isEntry_106 rfl (lv_at hl 4 rfl) ?_
                        refine lv_iconst (v := nI 1) hx hb d_Mod_isEntry_107 (by decide) ?_
                        refine n_iadd hx hb d_Mod_isEntry_108 ?_
                        refine n_iald (v := nI (ee (at' + 1))) hx hb hK hP 1 0 rfl rfl rfl (by omega) (by omega) d_Mod_isEntry_109 ?_
                        refine lv_sipush (v := nI 255) hx hb d_Mod_isEntry_110 (by decide) ?_
                        refine n_icmp_ne (tgt := 120) hx hb d_Mod_isEntry_113 (by decide) (by omega) (by omega) (fun c_113 => ?_) (fun c_113 => ?_)
                        · skip
                          refine lv_aload_n hx hb d_Mod_isEntry_120 rfl (lv_at hl 1 rfl) ?_
                          refine va_get (D := (dC, dI)) (ci := 7) (v := .ref a6) (C := R_Mod) (T := F_Mod) (N := 23) hx hb hts in_Mod hown hK hP 0 rfl rfl 15 (by decide) (hts _ u_681) (fun _ h9 => h9) rfl d_Mod_isEntry_121 ?_
                          refine lv_iload_n hx hb d_Mod_isEntry_124 rfl (lv_at hl 4 rfl) ?_
                          refine lv_iconst (v := nI 1) hx hb d_Mod_isEntry_125 (by decide) ?_
                          refine n_iadd hx hb d_Mod_isEntry_126 ?_
                          refine n_iald (v := nI (ee (at' + 1))) hx hb hK hP 1 0 rfl rfl rfl (by omega) (by omega) d_Mod_isEntry_127 ?_
                          refine top_i (nI (if ee (at' + 1) = 255 then 0 else ee (at' + 1))) (by first | rw [if_pos c_113] | rw [if_neg c_113]) ?_
                          refine lv_istore (lv' := [(6, .int (nI (if ee (at' + 1) = 255 then 0 else ee (at' + 1)))), (4, .int (bI true)), (0, .ref m0), (1, .int (bI false)), (2, .int (nI (ee 0))), (3, .int (nI at')), (5, .int (nI k))]) hx hb d_Mod_isEntry_128 hl (by decide) rfl (fun ls hl => ?_)
                          have hM : (if ee (at' + 1) = 255 then 0 else ee (at' + 1)) ≤ 255 := by split <;> omega
                          refine lv_iload_n hx hb d_Mod_isEntry_130 rfl (lv_at hl 5 rfl) ?_
                          refine lv_iconst (v := nI 2) hx hb d_Mod_isEntry_131 (by decide) ?_
                          refine n_iadd hx hb d_Mod_isEntry_132 ?_
                          refine lv_iload hx hb d_Mod_isEntry_133 (lv_at hl 0 rfl) ?_
                          refine n_iadd hx hb d_Mod_isEntry_135 ?_
                          refine lv_aload_n hx hb d_Mod_isEntry_136 rfl (lv_at hl 2 rfl) ?_
                          refine va_get (D := (dC, dI)) (ci := 7) (v := .int (nI es)) (C := R_Mod) (T := F_Mod) (N := 23) hx hb hts in_Mod hown hK hP 0 rfl rfl 16 (by decide) (hts _ u_682) (fun _ h9 => h9) rfl d_Mod_isEntry_137 ?_
                          refine n_icmp_gt (tgt := 147) hx hb d_Mod_isEntry_140 (by decide) (by omega) (by omega) (fun c_140 => ?_) (fun c_140 => ?_)
                          · skip
                            refine lv_iconst (v := bI false) hx hb d_Mod_isEntry_147 (by decide) ?_
                            refine lv_istore (lv' := [(4, .int (bI false)), (6, .int (nI (if ee (at' + 1) = 255 then 0 else ee (at' + 1)))), (0, .ref m0), (1, .int (bI false)), (2, .int (nI (ee 0))), (3, .int (nI at')), (5, .int (nI k))]) hx hb d_Mod_isEntry_148 hl (by decide) rfl (fun ls hl => ?_)
                            refine lv_iload hx hb d_Mod_isEntry_150 (lv_at hl 0 rfl) ?_
                            refine n_if_eqB (tgt := 164) hx hb d_Mod_isEntry_152 (by decide) (fun c_152 => ?_) (fun c_152 => ?_)
                            · skip
                              refine lv_iload_n hx hb d_Mod_isEntry_164 rfl (lv_at hl 5 rfl) ?_
                              refine lv_iconst (v := nI 2) hx hb d_Mod_isEntry_165 (by decide) ?_
                              refine lv_iload hx hb d_Mod_isEntry_166 (lv_at hl 1 rfl) ?_
                              refine n_iadd hx hb d_Mod_isEntry_168 ?_
                              refine n_iadd hx hb d_Mod_isEntry_169 ?_
                              refine lv_istore_n (lv' := [(3, .int (nI (at' + (2 + (if ee (at' + 1) = 255 then 0 else ee (at' + 1)))))), (4, .int (bI false)), (6, .int (nI (if ee (at' + 1) = 255 then 0 else ee (at' + 1)))), (0, .ref m0), (1, .int (bI false)), (2, .int (nI (ee 0))), (5, .int (nI k))]) hx hb d_Mod_isEntry_170 rfl hl (by decide) rfl (fun ls hl => ?_)
                              refine lv_iinc (v := nI (k + 1)) (lv' := [(5, .int (nI (k + 1))), (3, .int (nI (at' + (2 + (if ee (at' + 1) = 255 then 0 else ee (at' + 1)))))), (4, .int (bI false)), (6, .int (nI (if ee (at' + 1) = 255 then 0 else ee (at' + 1)))), (0, .ref m0), (1, .int (bI false)), (2, .int (nI (ee 0)))]) hx hb d_Mod_isEntry_171 hl (k := 6) rfl (inc1 k) (by decide) rfl (fun ls hl => ?_)
                              refine lv_goto (tgt := 30) hx hb d_Mod_isEntry_174 (by decide) ?_
                              exact ih (k + 1) (at' + (2 + (if ee (at' + 1) = 255 then 0 else ee (at' + 1)))) false (by omega) (by omega) (by split <;> omega) (by rw [hinv, c_38, show ee 0 - k = (ee 0 - (k + 1)) + 1 by omega, meLoop, if_neg (fun q => absurd q.2.2.2 (Nat.not_le.mpr c_140))]; rfl) _ _ _ (hP.sub [0, 1] rfl) (hD.sub [0, 1] (by decide) rfl) hS (lv_sub hl [4, 5, 6, 1, 2, 0] rfl)
                            · exact absurd c_152 (by decide)
                          · skip
                            refine lv_iconst (v := bI true) hx hb d_Mod_isEntry_143 (by decide) ?_
                            refine lv_goto (tgt := 148) hx hb d_Mod_isEntry_144 (by decide) ?_
                            refine lv_istore (lv' := [(4, .int (bI true)), (6, .int (nI (if ee (at' + 1) = 255 then 0 else ee (at' + 1)))), (0, .ref m0), (1, .int (bI false)), (2, .int (nI (ee 0))), (3, .int (nI at')), (5, .int (nI k))]) hx hb d_Mod_isEntry_148 hl (by decide) rfl (fun ls hl => ?_)
                            refine lv_iload hx hb d_Mod_isEntry_150 (lv_at hl 0 rfl) ?_
                            refine n_if_eqB (tgt := 164) hx hb d_Mod_isEntry_152 (by decide) (fun c_152 => ?_) (fun c_152 => ?_)
                            · exact absurd c_152 (by decide)
                            · skip
                              refine lv_iload_n hx hb d_Mod_isEntry_155 rfl (lv_at hl 3 rfl) ?_
                              refine n_if_eqB (tgt := 164) hx hb d_Mod_isEntry_156 (by decide) (fun c_156 => ?_) (fun c_156 => ?_)
                              · skip
                                refine lv_iload_n hx hb d_Mod_isEntry_164 rfl (lv_at hl 5 rfl) ?_
                                refine lv_iconst (v := nI 2) hx hb d_Mod_isEntry_165 (by decide) ?_
                                refine lv_iload hx hb d_Mod_isEntry_166 (lv_at hl 1 rfl) ?_
                                refine n_iadd hx hb d_Mod_isEntry_168 ?_
                                refine n_iadd hx hb d_Mod_isEntry_169 ?_
                                refine lv_istore_n (lv' := [(3, .int (nI (at' + (2 + (if ee (at' + 1) = 255 then 0 else ee (at' + 1)))))), (4, .int (bI true)), (6, .int (nI (if ee (at' + 1) = 255 then 0 else ee (at' + 1)))), (0, .ref m0), (1, .int (bI false)), (2, .int (nI (ee 0))), (5, .int (nI k))]) hx hb d_Mod_isEntry_170 rfl hl (by decide) rfl (fun ls hl => ?_)
                                refine lv_iinc (v := nI (k + 1)) (lv' := [(5, .int (nI (k + 1))), (3, .int (nI (at' + (2 + (if ee (at' + 1) = 255 then 0 else ee (at' + 1)))))), (4, .int (bI true)), (6, .int (nI (if ee (at' + 1) = 255 then 0 else ee (at' + 1)))), (0, .ref m0), (1, .int (bI false)), (2, .int (nI (ee 0)))]) hx hb d_Mod_isEntry_171 hl (k := 6) rfl (inc1 k) (by decide) rfl (fun ls hl => ?_)
                                refine lv_goto (tgt := 30) hx hb d_Mod_isEntry_174 (by decide) ?_
                                exact ih (k + 1) (at' + (2 + (if ee (at' + 1) = 255 then 0 else ee (at' + 1)))) true (by omega) (by omega) (by split <;> omega) (by rw [hinv, c_38, show ee 0 - k = (ee 0 - (k + 1)) + 1 by omega, meLoop, if_pos ⟨by omega, by omega, by omega, c_140⟩]) _ _ _ (hP.sub [0, 1] rfl) (hD.sub [0, 1] (by decide) rfl) hS (lv_sub hl [4, 5, 6, 1, 2, 0] rfl)
                              · exact absurd c_156 (by decide)
                        · skip
                          refine lv_iconst (v := nI 0) hx hb d_Mod_isEntry_116 (by decide) ?_
                          refine lv_goto (tgt := 128) hx hb d_Mod_isEntry_117 (by decide) ?_
                          refine top_i (nI (if ee (at' + 1) = 255 then 0 else ee (at' + 1))) (by first | rw [if_pos c_113] | rw [if_neg c_113]) ?_
                          refine lv_istore (lv' := [(6, .int (nI (if ee (at' + 1) = 255 then 0 else ee (at' + 1)))), (4, .int (bI true)), (0, .ref m0), (1, .int (bI false)), (2, .int (nI (ee 0))), (3, .int (nI at')), (5, .int (nI k))]) hx hb d_Mod_isEntry_128 hl (by decide) rfl (fun ls hl => ?_)
                          have hM : (if ee (at' + 1) = 255 then 0 else ee (at' + 1)) ≤ 255 := by split <;> omega
                          refine lv_iload_n hx hb d_Mod_isEntry_130 rfl (lv_at hl 5 rfl) ?_
                          refine lv_iconst (v := nI 2) hx hb d_Mod_isEntry_131 (by decide) ?_
                          refine n_iadd hx hb d_Mod_isEntry_132 ?_
                          refine lv_iload hx hb d_Mod_isEntry_133 (lv_at hl 0 rfl) ?_
                          refine n_iadd hx hb d_Mod_isEntry_135 ?_
                          refine lv_aload_n hx hb d_Mod_isEntry_136 rfl (lv_at hl 2 rfl) ?_
                          refine va_get (D := (dC, dI)) (ci := 7) (v := .int (nI es)) (C := R_Mod) (T := F_Mod) (N := 23) hx hb hts in_Mod hown hK hP 0 rfl rfl 16 (by decide) (hts _ u_682) (fun _ h9 => h9) rfl d_Mod_isEntry_137 ?_
                          refine n_icmp_gt (tgt := 147) hx hb d_Mod_isEntry_140 (by decide) (by omega) (by omega) (fun c_140 => ?_) (fun c_140 => ?_)
                          · skip
                            refine lv_iconst (v := bI false) hx hb d_Mod_isEntry_147 (by decide) ?_
                            refine lv_istore (lv' := [(4, .int (bI false)), (6, .int (nI (if ee (at' + 1) = 255 then 0 else ee (at' + 1)))), (0, .ref m0), (1, .int (bI false)), (2, .int (nI (ee 0))), (3, .int (nI at')), (5, .int (nI k))]) hx hb d_Mod_isEntry_148 hl (by decide) rfl (fun ls hl => ?_)
                            refine lv_iload hx hb d_Mod_isEntry_150 (lv_at hl 0 rfl) ?_
                            refine n_if_eqB (tgt := 164) hx hb d_Mod_isEntry_152 (by decide) (fun c_152 => ?_) (fun c_152 => ?_)
                            · skip
                              refine lv_iload_n hx hb d_Mod_isEntry_164 rfl (lv_at hl 5 rfl) ?_
                              refine lv_iconst (v := nI 2) hx hb d_Mod_isEntry_165 (by decide) ?_
                              refine lv_iload hx hb d_Mod_isEntry_166 (lv_at hl 1 rfl) ?_
                              refine n_iadd hx hb d_Mod_isEntry_168 ?_
                              refine n_iadd hx hb d_Mod_isEntry_169 ?_
                              refine lv_istore_n (lv' := [(3, .int (nI (at' + (2 + (if ee (at' + 1) = 255 then 0 else ee (at' + 1)))))), (4, .int (bI false)), (6, .int (nI (if ee (at' + 1) = 255 then 0 else ee (at' + 1)))), (0, .ref m0), (1, .int (bI false)), (2, .int (nI (ee 0))), (5, .int (nI k))]) hx hb d_Mod_isEntry_170 rfl hl (by decide) rfl (fun ls hl => ?_)
                              refine lv_iinc (v := nI (k + 1)) (lv' := [(5, .int (nI (k + 1))), (3, .int (nI (at' + (2 + (if ee (at' + 1) = 255 then 0 else ee (at' + 1)))))), (4, .int (bI false)), (6, .int (nI (if ee (at' + 1) = 255 then 0 else ee (at' + 1)))), (0, .ref m0), (1, .int (bI false)), (2, .int (nI (ee 0)))]) hx hb d_Mod_isEntry_171 hl (k := 6) rfl (inc1 k) (by decide) rfl (fun ls hl => ?_)
                              refine lv_goto (tgt := 30) hx hb d_Mod_isEntry_174 (by decide) ?_
                              exact ih (k + 1) (at' + (2 + (if ee (at' + 1) = 255 then 0 else ee (at' + 1)))) false (by omega) (by omega) (by split <;> omega) (by rw [hinv, c_38, show ee 0 - k = (ee 0 - (k + 1)) + 1 by omega, meLoop, if_neg (fun q => absurd q.2.2.2 (Nat.not_le.mpr c_140))]; rfl) _ _ _ (hP.sub [0, 1] rfl) (hD.sub [0, 1] (by decide) rfl) hS (lv_sub hl [4, 5, 6, 1, 2, 0] rfl)
                            · exact absurd c_152 (by decide)
                          · skip
                            refine lv_iconst (v := bI true) hx hb d_Mod_isEntry_143 (by decide) ?_
                            refine lv_goto (tgt := 148) hx hb d_Mod_isEntry_144 (by decide) ?_
                            refine lv_istore (lv' := [(4, .int (bI true)), (6, .int (nI (if ee (at' + 1) = 255 then 0 else ee (at' + 1)))), (0, .ref m0), (1, .int (bI false)), (2, .int (nI (ee 0))), (3, .int (nI at')), (5, .int (nI k))]) hx hb d_Mod_isEntry_148 hl (by decide) rfl (fun ls hl => ?_)
                            refine lv_iload hx hb d_Mod_isEntry_150 (lv_at hl 0 rfl) ?_
                            refine n_if_eqB (tgt := 164) hx hb d_Mod_isEntry_152 (by decide) (fun c_152 => ?_) (fun c_152 => ?_)
                            · exact absurd c_152 (by decide)
                            · skip
                              refine lv_iload_n hx hb d_Mod_isEntry_155 rfl (lv_at hl 3 rfl) ?_
                              refine n_if_eqB (tgt := 164) hx hb d_Mod_isEntry_156 (by decide) (fun c_156 => ?_) (fun c_156 => ?_)
                              · skip
                                refine lv_iload_n hx hb d_Mod_isEntry_164 rfl (lv_at hl 5 rfl) ?_
                                refine lv_iconst (v := nI 2) hx hb d_Mod_isEntry_165 (by decide) ?_
                                refine lv_iload hx hb d_Mod_isEntry_166 (lv_at hl 1 rfl) ?_
                                refine n_iadd hx hb d_Mod_isEntry_168 ?_
                                refine n_iadd hx hb d_Mod_isEntry_169 ?_
                                refine lv_istore_n (lv' := [(3, .int (nI (at' + (2 + (if ee (at' + 1) = 255 then 0 else ee (at' + 1)))))), (4, .int (bI true)), (6, .int (nI (if ee (at' + 1) = 255 then 0 else ee (at' + 1)))), (0, .ref m0), (1, .int (bI false)), (2, .int (nI (ee 0))), (5, .int (nI k))]) hx hb d_Mod_isEntry_170 rfl hl (by decide) rfl (fun ls hl => ?_)
                                refine lv_iinc (v := nI (k + 1)) (lv' := [(5, .int (nI (k + 1))), (3, .int (nI (at' + (2 + (if ee (at' + 1) = 255 then 0 else ee (at' + 1)))))), (4, .int (bI true)), (6, .int (nI (if ee (at' + 1) = 255 then 0 else ee (at' + 1)))), (0, .ref m0), (1, .int (bI false)), (2, .int (nI (ee 0)))]) hx hb d_Mod_isEntry_171 hl (k := 6) rfl (inc1 k) (by decide) rfl (fun ls hl => ?_)
                                refine lv_goto (tgt := 30) hx hb d_Mod_isEntry_174 (by decide) ?_
                                exact ih (k + 1) (at' + (2 + (if ee (at' + 1) = 255 then 0 else ee (at' + 1)))) true (by omega) (by omega) (by split <;> omega) (by rw [hinv, c_38, show ee 0 - k = (ee 0 - (k + 1)) + 1 by omega, meLoop, if_pos ⟨by omega, by omega, by omega, c_140⟩]) _ _ _ (hP.sub [0, 1] rfl) (hD.sub [0, 1] (by decide) rfl) hS (lv_sub hl [4, 5, 6, 1, 2, 0] rfl)
                              · exact absurd c_156 (by decide)
      exact loop_30 (ee 0 + 1) 0 1 true (by omega) (by omega) (by omega) (by unfold isEntM; rw [Nat.sub_zero, Bool.true_and]; congr 1; exact propext ⟨fun q => q.2.2, fun q => ⟨by omega, by omega, q⟩⟩) _ _ _ (hP.sub [0, 1] rfl) (hD.sub [0, 1] (by decide) rfl) hS (lv_sub hl [4, 5, 3, 2, 1, 0] rfl)
abbrev rmm_changeD : Room := { frames := 0, cells := 0, slots := 0, locals := 0 }
set_option maxHeartbeats 4000000 in
set_option maxRecDepth 100000 in
theorem m_changeD (l : Launch) (dC : Nat → ClassId) (dI : Nat → Nat → Nat) (cI : ClassId) (sz : Nat) (m0 : Nat) (a1 : Nat) (a2 : Nat) (a3 : Nat) (a4 : Nat) (a5 : Nat) (a6 : Nat) (a7 : Nat) (a8 : Nat) (a9 : Nat) (th : Nat) (vs : Nat) (bs : Nat) (ch : Nat) (mh : Nat) (me : Nat) (mb : Nat) (mn : Nat) (mw : Nat) (mr : Nat) (es : Nat) (pn : Nat) (ah : Option Nat) (fs : Nat) (ee : Nat → Nat) (zz : Nat → Option Nat) (ll : Nat → Nat) (o : Nat) (hkey : ee o < 200) (ho : o + 2 ≤ 2600) (hn : ee (o + 1) = 255) : KV l y_Mod_change w_Mod_change rmm_changeD (dC, dI) CL_ [(cI, .int)] sz [.ref m0, .int (nI o)] [(m0, .inr (7, [.int (nI th), .ref a1, .ref a2, .int (nI vs), .ref a3, .int (nI bs), .int (nI ch), .int (nI mh), .int (nI me), .int (nI mb), .int (nI mn), .ref a4, .ref a5, .int (nI mw), .int (nI mr), .ref a6, .int (nI es), .int (nI pn), .ref a7, .ref a8, .int (oI ah), .ref a9, .int (nI fs)])), (a6, .inl (cI, 2600, .inl (nA ee))), (a4, .inl (cI, 200, .inl (oA zz))), (a5, .inl (cI, 8000, .inl (nA ll)))] [(m0, .inr (7, [.int (nI th), .ref a1, .ref a2, .int (nI vs), .ref a3, .int (nI bs), .int (nI ch), .int (nI mh), .int (nI me), .int (nI mb), .int (nI mn), .ref a4, .ref a5, .int (nI mw), .int (nI mr), .ref a6, .int (nI es), .int (nI pn), .ref a7, .ref a8, .int (oI ah), .ref a9, .int (nI fs)])), (a6, .inl (cI, 2600, .inl (nA ee))), (a4, .inl (cI, 200, .inl (oA (updO zz (ee o) none)))), (a5, .inl (cI, 8000, .inl (nA ll)))] := by
  refine k_start_v (cc := b_Mod_change) (maxL := 5) (by decide) (Nat.le_of_ble_eq_true rfl) ?_
  intro p e s m args below meth c A QQ ls SS hK hP hD hA hl hN hret
  obtain ⟨hx, hb, hml, hown, hts⟩ := id SS
  have hl : lv_has ls 5 [(0, .ref m0), (1, .int (nI o))] := hl
  have hS : va_S A s.heap s.heap [] := va_S.rf
  refine lv_aload_n hx hb d_Mod_change_0 rfl (lv_at hl 0 rfl) ?_
  refine va_get (D := (dC, dI)) (ci := 7) (v := .ref a6) (C := R_Mod) (T := F_Mod) (N := 23) hx hb hts in_Mod hown hK hP 0 rfl rfl 15 (by decide) (hts _ u_681) (fun _ h9 => h9) rfl d_Mod_change_1 ?_
  refine lv_iload_n hx hb d_Mod_change_4 rfl (lv_at hl 1 rfl) ?_
  refine n_iald (v := nI (ee o)) hx hb hK hP 1 0 rfl rfl rfl (by omega) (by omega) d_Mod_change_5 ?_
  refine lv_istore_n (lv' := [(2, .int (nI (ee o))), (0, .ref m0), (1, .int (nI o))]) hx hb d_Mod_change_6 rfl hl (by decide) rfl (fun ls hl => ?_)
  refine lv_aload_n hx hb d_Mod_change_7 rfl (lv_at hl 1 rfl) ?_
  refine va_get (D := (dC, dI)) (ci := 7) (v := .ref a6) (C := R_Mod) (T := F_Mod) (N := 23) hx hb hts in_Mod hown hK hP 0 rfl rfl 15 (by decide) (hts _ u_681) (fun _ h9 => h9) rfl d_Mod_change_8 ?_
  refine lv_iload_n hx hb d_Mod_change_11 rfl (lv_at hl 2 rfl) ?_
  refine lv_iconst (v := nI 1) hx hb d_Mod_change_12 (by decide) ?_
  refine n_iadd hx hb d_Mod_change_13 ?_
  refine n_iald (v := nI (ee (o + 1))) hx hb hK hP 1 0 rfl rfl rfl (by omega) (by omega) d_Mod_change_14 ?_
  refine lv_istore_n (lv' := [(3, .int (nI (ee (o + 1)))), (2, .int (nI (ee o))), (0, .ref m0), (1, .int (nI o))]) hx hb d_Mod_change_15 rfl hl (by decide) rfl (fun ls hl => ?_)
  refine lv_aload_n hx hb d_Mod_change_16 rfl (lv_at hl 2 rfl) ?_
  refine va_get (D := (dC, dI)) (ci := 7) (v := .ref a4) (C := R_Mod) (T := F_Mod) (N := 23) hx hb hts in_Mod hown hK hP 0 rfl rfl 11 (by decide) (hts _ u_677) (fun _ h9 => h9) rfl d_Mod_change_17 ?_
  refine lv_iload_n hx hb d_Mod_change_20 rfl (lv_at hl 1 rfl) ?_
  refine lv_iload_n hx hb d_Mod_change_21 rfl (lv_at hl 0 rfl) ?_
  refine lv_sipush (v := nI 255) hx hb d_Mod_change_22 (by decide) ?_
  refine n_icmp_ne (tgt := 32) hx hb d_Mod_change_25 (by decide) (by omega) (by omega) (fun c_25 => ?_) (fun c_25 => ?_)
  · exact absurd hn c_25
  · skip
    refine lv_iconst (v := (-1)) hx hb d_Mod_change_28 (by decide) ?_
    refine lv_goto (tgt := 33) hx hb d_Mod_change_29 (by decide) ?_
    refine n_iast (f' := oA (updO zz (ee o) none)) hx hb hK hP hD hS 2 0 rfl rfl (oA_upd _ _ none) (by omega) (by omega) d_Mod_change_33 (fun H locs hP hD hS => ?_)
    have hP : va_P (dC, dI) CL_ [(m0, .inr (7, [.int (nI th), .ref a1, .ref a2, .int (nI vs), .ref a3, .int (nI bs), .int (nI ch), .int (nI mh), .int (nI me), .int (nI mb), .int (nI mn), .ref a4, .ref a5, .int (nI mw), .int (nI mr), .ref a6, .int (nI es), .int (nI pn), .ref a7, .ref a8, .int (oI ah), .ref a9, .int (nI fs)])), (a6, .inl (cI, 2600, .inl (nA ee))), (a4, .inl (cI, 200, .inl (oA (updO zz (ee o) none)))), (a5, .inl (cI, 8000, .inl (nA ll)))] H := hP
    have hD : va_D A [(m0, .inr (7, [.int (nI th), .ref a1, .ref a2, .int (nI vs), .ref a3, .int (nI bs), .int (nI ch), .int (nI mh), .int (nI me), .int (nI mb), .int (nI mn), .ref a4, .ref a5, .int (nI mw), .int (nI mr), .ref a6, .int (nI es), .int (nI pn), .ref a7, .ref a8, .int (oI ah), .ref a9, .int (nI fs)])), (a6, .inl (cI, 2600, .inl (nA ee))), (a4, .inl (cI, 200, .inl (oA (updO zz (ee o) none)))), (a5, .inl (cI, 8000, .inl (nA ll)))] := hD
    refine lv_iconst (v := nI 0) hx hb d_Mod_change_34 (by decide) ?_
    refine lv_istore (lv' := [(4, .int (nI 0)), (3, .int (nI (ee (o + 1)))), (2, .int (nI (ee o))), (0, .ref m0), (1, .int (nI o))]) hx hb d_Mod_change_35 hl (by decide) rfl (fun ls hl => ?_)
    refine lv_iload hx hb d_Mod_change_37 (lv_at hl 0 rfl) ?_
    refine lv_aload_n hx hb d_Mod_change_39 rfl (lv_at hl 3 rfl) ?_
    refine va_get (D := (dC, dI)) (ci := 7) (v := .ref a4) (C := R_Mod) (T := F_Mod) (N := 23) hx hb hts in_Mod hown hK hP 0 rfl rfl 11 (by decide) (hts _ u_677) (fun _ h9 => h9) rfl d_Mod_change_40 ?_
    refine lv_iload_n hx hb d_Mod_change_43 rfl (lv_at hl 2 rfl) ?_
    refine n_iald (v := oI ((updO zz (ee o) none) (ee o))) hx hb hK hP 2 0 rfl rfl rfl (by omega) (by omega) d_Mod_change_44 ?_
    refine top_i ((-1)) (by show oI (updO zz (ee o) none (ee o)) = -1; unfold updO; rw [if_pos rfl]; rfl) ?_
    refine lv_icmp_ge (tgt := 77) hx hb d_Mod_change_45 (by decide) (fun c_45 => ?_) (fun c_45 => ?_)
    · skip
      exact hret _ _ 77 ls d_Mod_change_77 (hP.sub [0, 1, 2, 3] rfl) (hD.sub [0, 1, 2, 3] (by decide) rfl) hS
    · exact absurd (by decide) c_45
abbrev rmm_changeV : Room := { frames := 0, cells := 0, slots := 0, locals := 0 }
set_option maxHeartbeats 4000000 in
set_option maxRecDepth 100000 in
theorem m_changeV (l : Launch) (dC : Nat → ClassId) (dI : Nat → Nat → Nat) (cI : ClassId) (sz : Nat) (m0 : Nat) (a1 : Nat) (a2 : Nat) (a3 : Nat) (a4 : Nat) (a5 : Nat) (a6 : Nat) (a7 : Nat) (a8 : Nat) (a9 : Nat) (th : Nat) (vs : Nat) (bs : Nat) (ch : Nat) (mh : Nat) (me : Nat) (mb : Nat) (mn : Nat) (mw : Nat) (mr : Nat) (es : Nat) (pn : Nat) (ah : Option Nat) (fs : Nat) (ee : Nat → Nat) (zz : Nat → Option Nat) (ll : Nat → Nat) (o : Nat) (hkey : ee o < 200) (hn : ee (o + 1) ≤ 40) (ho : o + 2 + ee (o + 1) ≤ 2600) : KV l y_Mod_change w_Mod_change rmm_changeV (dC, dI) CL_ [(cI, .int)] sz [.ref m0, .int (nI o)] [(m0, .inr (7, [.int (nI th), .ref a1, .ref a2, .int (nI vs), .ref a3, .int (nI bs), .int (nI ch), .int (nI mh), .int (nI me), .int (nI mb), .int (nI mn), .ref a4, .ref a5, .int (nI mw), .int (nI mr), .ref a6, .int (nI es), .int (nI pn), .ref a7, .ref a8, .int (oI ah), .ref a9, .int (nI fs)])), (a6, .inl (cI, 2600, .inl (nA ee))), (a4, .inl (cI, 200, .inl (oA zz))), (a5, .inl (cI, 8000, .inl (nA ll)))] [(m0, .inr (7, [.int (nI th), .ref a1, .ref a2, .int (nI vs), .ref a3, .int (nI bs), .int (nI ch), .int (nI mh), .int (nI me), .int (nI mb), .int (nI mn), .ref a4, .ref a5, .int (nI mw), .int (nI mr), .ref a6, .int (nI es), .int (nI pn), .ref a7, .ref a8, .int (oI ah), .ref a9, .int (nI fs)])), (a6, .inl (cI, 2600, .inl (nA ee))), (a4, .inl (cI, 200, .inl (oA (updO zz (ee o) (some (ee (o + 1))))))), (a5, .inl (cI, 8000, .inl (nA (fillN ll (40 * ee o) (fun i => ee (o + 2 + i)) (ee (o + 1))))))] := by
  refine k_start_v (cc := b_Mod_change) (maxL := 5) (by decide) (Nat.le_of_ble_eq_true rfl) ?_
  intro p e s m args below meth c A QQ ls SS hK hP hD hA hl hN hret
  obtain ⟨hx, hb, hml, hown, hts⟩ := id SS
  have hl : lv_has ls 5 [(0, .ref m0), (1, .int (nI o))] := hl
  have hS : va_S A s.heap s.heap [] := va_S.rf
  refine lv_aload_n hx hb d_Mod_change_0 rfl (lv_at hl 0 rfl) ?_
  refine va_get (D := (dC, dI)) (ci := 7) (v := .ref a6) (C := R_Mod) (T := F_Mod) (N := 23) hx hb hts in_Mod hown hK hP 0 rfl rfl 15 (by decide) (hts _ u_681) (fun _ h9 => h9) rfl d_Mod_change_1 ?_
  refine lv_iload_n hx hb d_Mod_change_4 rfl (lv_at hl 1 rfl) ?_
  refine n_iald (v := nI (ee o)) hx hb hK hP 1 0 rfl rfl rfl (by omega) (by omega) d_Mod_change_5 ?_
  refine lv_istore_n (lv' := [(2, .int (nI (ee o))), (0, .ref m0), (1, .int (nI o))]) hx hb d_Mod_change_6 rfl hl (by decide) rfl (fun ls hl => ?_)
  refine lv_aload_n hx hb d_Mod_change_7 rfl (lv_at hl 1 rfl) ?_
  refine va_get (D := (dC, dI)) (ci := 7) (v := .ref a6) (C := R_Mod) (T := F_Mod) (N := 23) hx hb hts in_Mod hown hK hP 0 rfl rfl 15 (by decide) (hts _ u_681) (fun _ h9 => h9) rfl d_Mod_change_8 ?_
  refine lv_iload_n hx hb d_Mod_change_11 rfl (lv_at hl 2 rfl) ?_
  refine lv_iconst (v := nI 1) hx hb d_Mod_change_12 (by decide) ?_
  refine n_iadd hx hb d_Mod_change_13 ?_
  refine n_iald (v := nI (ee (o + 1))) hx hb hK hP 1 0 rfl rfl rfl (by omega) (by omega) d_Mod_change_14 ?_
  refine lv_istore_n (lv' := [(3, .int (nI (ee (o + 1)))), (2, .int (nI (ee o))), (0, .ref m0), (1, .int (nI o))]) hx hb d_Mod_change_15 rfl hl (by decide) rfl (fun ls hl => ?_)
  refine lv_aload_n hx hb d_Mod_change_16 rfl (lv_at hl 2 rfl) ?_
  refine va_get (D := (dC, dI)) (ci := 7) (v := .ref a4) (C := R_Mod) (T := F_Mod) (N := 23) hx hb hts in_Mod hown hK hP 0 rfl rfl 11 (by decide) (hts _ u_677) (fun _ h9 => h9) rfl d_Mod_change_17 ?_
  refine lv_iload_n hx hb d_Mod_change_20 rfl (lv_at hl 1 rfl) ?_
  refine lv_iload_n hx hb d_Mod_change_21 rfl (lv_at hl 0 rfl) ?_
  refine lv_sipush (v := nI 255) hx hb d_Mod_change_22 (by decide) ?_
  refine n_icmp_ne (tgt := 32) hx hb d_Mod_change_25 (by decide) (by omega) (by omega) (fun c_25 => ?_) (fun c_25 => ?_)
  · skip
    refine lv_iload_n hx hb d_Mod_change_32 rfl (lv_at hl 0 rfl) ?_
    refine n_iast (f' := oA (updO zz (ee o) (some (ee (o + 1))))) hx hb hK hP hD hS 2 0 rfl rfl (oA_upd _ _ (some (ee (o + 1)))) (by omega) (by omega) d_Mod_change_33 (fun H locs hP hD hS => ?_)
    have hP : va_P (dC, dI) CL_ [(m0, .inr (7, [.int (nI th), .ref a1, .ref a2, .int (nI vs), .ref a3, .int (nI bs), .int (nI ch), .int (nI mh), .int (nI me), .int (nI mb), .int (nI mn), .ref a4, .ref a5, .int (nI mw), .int (nI mr), .ref a6, .int (nI es), .int (nI pn), .ref a7, .ref a8, .int (oI ah), .ref a9, .int (nI fs)])), (a6, .inl (cI, 2600, .inl (nA ee))), (a4, .inl (cI, 200, .inl (oA (updO zz (ee o) (some (ee (o + 1))))))), (a5, .inl (cI, 8000, .inl (nA ll)))] H := hP
    have hD : va_D A [(m0, .inr (7, [.int (nI th), .ref a1, .ref a2, .int (nI vs), .ref a3, .int (nI bs), .int (nI ch), .int (nI mh), .int (nI me), .int (nI mb), .int (nI mn), .ref a4, .ref a5, .int (nI mw), .int (nI mr), .ref a6, .int (nI es), .int (nI pn), .ref a7, .ref a8, .int (oI ah), .ref a9, .int (nI fs)])), (a6, .inl (cI, 2600, .inl (nA ee))), (a4, .inl (cI, 200, .inl (oA (updO zz (ee o) (some (ee (o + 1))))))), (a5, .inl (cI, 8000, .inl (nA ll)))] := hD
    refine lv_iconst (v := nI 0) hx hb d_Mod_change_34 (by decide) ?_
    refine lv_istore (lv' := [(4, .int (nI 0)), (3, .int (nI (ee (o + 1)))), (2, .int (nI (ee o))), (0, .ref m0), (1, .int (nI o))]) hx hb d_Mod_change_35 hl (by decide) rfl (fun ls hl => ?_)
    have loop_37 : ∀ (n_ : Nat) (i : Nat), (i ≤ ee (o + 1)) → (ee (o + 1) + 1 ≤ i + n_) → ∀ (H : Heap) (locs : List Loc) (ls : Array Slot), va_P (dC, dI) CL_ [(m0, .inr (7, [.int (nI th), .ref a1, .ref a2, .int (nI vs), .ref a3, .int (nI bs), .int (nI ch), .int (nI mh), .int (nI me), .int (nI mb), .int (nI mn), .ref a4, .ref a5, .int (nI mw), .int (nI mr), .ref a6, .int (nI es), .int (nI pn), .ref a7, .ref a8, .int (oI ah), .ref a9, .int (nI fs)])), (a6, .inl (cI, 2600, .inl (nA ee))), (a4, .inl (cI, 200, .inl (oA (updO zz (ee o) (some (ee (o + 1))))))), (a5, .inl (cI, 8000, .inl (nA (fillN ll (40 * ee o) (fun i => ee (o + 2 + i)) i))))] H → va_D A [(m0, .inr (7, [.int (nI th), .ref a1, .ref a2, .int (nI vs), .ref a3, .int (nI bs), .int (nI ch), .int (nI mh), .int (nI me), .int (nI mb), .int (nI mn), .ref a4, .ref a5, .int (nI mw), .int (nI mr), .ref a6, .int (nI es), .int (nI pn), .ref a7, .ref a8, .int (oI ah), .ref a9, .int (nI fs)])), (a6, .inl (cI, 2600, .inl (nA ee))), (a4, .inl (cI, 200, .inl (oA (updO zz (ee o) (some (ee (o + 1))))))), (a5, .inl (cI, 8000, .inl (nA (fillN ll (40 * ee o) (fun i => ee (o + 2 + i)) i))))] → va_S A s.heap H locs → lv_has ls 5 [(0, .ref m0), (1, .int (nI o)), (2, .int (nI (ee o))), (3, .int (nI (ee (o + 1)))), (4, .int (nI i))] → W p l e rmm_changeV s m args below meth c H locs 0 0 QQ (F0 m 37 ls []) := by
      intro n_
      induction n_ with
      | zero =>
        intro i hi hf
        exact absurd hf (by omega)
      | succ n_ ih =>
        intro i hi hf H locs ls hP hD hS hl
        refine lv_iload hx hb d_Mod_change_37 (lv_at hl 4 rfl) ?_
        refine lv_aload_n hx hb d_Mod_change_39 rfl (lv_at hl 0 rfl) ?_
        refine va_get (D := (dC, dI)) (ci := 7) (v := .ref a4) (C := R_Mod) (T := F_Mod) (N := 23) hx hb hts in_Mod hown hK hP 0 rfl rfl 11 (by decide) (hts _ u_677) (fun _ h9 => h9) rfl d_Mod_change_40 ?_
        refine lv_iload_n hx hb d_Mod_change_43 rfl (lv_at hl 2 rfl) ?_
        refine n_iald (v := oI ((updO zz (ee o) (some (ee (o + 1)))) (ee o))) hx hb hK hP 2 0 rfl rfl rfl (by omega) (by omega) d_Mod_change_44 ?_
        refine top_i (nI (ee (o + 1))) (by show oI (updO zz (ee o) (some (ee (o + 1))) (ee o)) = nI _; unfold updO; rw [if_pos rfl]; rfl) ?_
        refine n_icmp_ge (tgt := 77) hx hb d_Mod_change_45 (by decide) (by omega) (by omega) (fun c_45 => ?_) (fun c_45 => ?_)
        · skip
          have hq : i = ee (o + 1) := by omega
          rw [hq] at hP hD
          exact hret _ _ 77 ls d_Mod_change_77 (hP.sub [0, 1, 2, 3] rfl) (hD.sub [0, 1, 2, 3] (by decide) rfl) hS
        · skip
          refine lv_aload_n hx hb d_Mod_change_48 rfl (lv_at hl 0 rfl) ?_
          refine va_get (D := (dC, dI)) (ci := 7) (v := .ref a5) (C := R_Mod) (T := F_Mod) (N := 23) hx hb hts in_Mod hown hK hP 0 rfl rfl 12 (by decide) (hts _ u_678) (fun _ h9 => h9) rfl d_Mod_change_49 ?_
          refine lv_bipush (v := nI 40) hx hb d_Mod_change_52 (by decide) ?_
          refine lv_iload_n hx hb d_Mod_change_54 rfl (lv_at hl 2 rfl) ?_
          refine n_imul hx hb d_Mod_change_55 ?_
          refine lv_iload hx hb d_Mod_change_56 (lv_at hl 4 rfl) ?_
          refine n_iadd hx hb d_Mod_change_58 ?_
          refine lv_aload_n hx hb d_Mod_change_59 rfl (lv_at hl 0 rfl) ?_
          refine va_get (D := (dC, dI)) (ci := 7) (v := .ref a6) (C := R_Mod) (T := F_Mod) (N := 23) hx hb hts in_Mod hown hK hP 0 rfl rfl 15 (by decide) (hts _ u_681) (fun _ h9 => h9) rfl d_Mod_change_60 ?_
          refine lv_iload_n hx hb d_Mod_change_63 rfl (lv_at hl 1 rfl) ?_
          refine lv_iconst (v := nI 2) hx hb d_Mod_change_64 (by decide) ?_
          refine n_iadd hx hb d_Mod_change_65 ?_
          refine lv_iload hx hb d_Mod_change_66 (lv_at hl 4 rfl) ?_
          refine n_iadd hx hb d_Mod_change_68 ?_
          refine n_iald (v := nI (ee ((o + 2) + i))) hx hb hK hP 1 0 rfl rfl rfl (by omega) (by omega) d_Mod_change_69 ?_
          refine n_iast (f' := nA (updN (fillN ll (40 * ee o) (fun i => ee (o + 2 + i)) i) ((40 * (ee o)) + i) (ee ((o + 2) + i)))) hx hb hK hP hD hS 3 0 rfl rfl (nA_upd _ _ _) (by omega) (by omega) d_Mod_change_70 (fun H locs hP hD hS => ?_)
          have hP : va_P (dC, dI) CL_ [(m0, .inr (7, [.int (nI th), .ref a1, .ref a2, .int (nI vs), .ref a3, .int (nI bs), .int (nI ch), .int (nI mh), .int (nI me), .int (nI mb), .int (nI mn), .ref a4, .ref a5, .int (nI mw), .int (nI mr), .ref a6, .int (nI es), .int (nI pn), .ref a7, .ref a8, .int (oI ah), .ref a9, .int (nI fs)])), (a6, .inl (cI, 2600, .inl (nA ee))), (a4, .inl (cI, 200, .inl (oA (updO zz (ee o) (some (ee (o + 1))))))), (a5, .inl (cI, 8000, .inl (nA (updN (fillN ll (40 * ee o) (fun i => ee (o + 2 + i)) i) ((40 * (ee o)) + i) (ee ((o + 2) + i))))))] H := hP
          have hD : va_D A [(m0, .inr (7, [.int (nI th), .ref a1, .ref a2, .int (nI vs), .ref a3, .int (nI bs), .int (nI ch), .int (nI mh), .int (nI me), .int (nI mb), .int (nI mn), .ref a4, .ref a5, .int (nI mw), .int (nI mr), .ref a6, .int (nI es), .int (nI pn), .ref a7, .ref a8, .int (oI ah), .ref a9, .int (nI fs)])), (a6, .inl (cI, 2600, .inl (nA ee))), (a4, .inl (cI, 200, .inl (oA (updO zz (ee o) (some (ee (o + 1))))))), (a5, .inl (cI, 8000, .inl (nA (updN (fillN ll (40 * ee o) (fun i => ee (o + 2 + i)) i) ((40 * (ee o)) + i) (ee ((o + 2) + i))))))] := hD
          refine lv_iinc (v := nI (i + 1)) (lv' := [(4, .int (nI (i + 1))), (0, .ref m0), (1, .int (nI o)), (2, .int (nI (ee o))), (3, .int (nI (ee (o + 1))))]) hx hb d_Mod_change_71 hl (k := 4) rfl (inc1 i) (by decide) rfl (fun ls hl => ?_)
          refine lv_goto (tgt := 37) hx hb d_Mod_change_74 (by decide) ?_
          have e9 : updN (fillN ll (40 * ee o) (fun i => ee (o + 2 + i)) i) (40 * ee o + i) (ee (o + 2 + i)) = fillN ll (40 * ee o) (fun i => ee (o + 2 + i)) (i + 1) := fillN_s _ _ _ _
          rw [e9] at hP hD
          exact ih (i + 1) (by omega) (by omega) _ _ _ (hP.sub [0, 1, 2, 3] rfl) (hD.sub [0, 1, 2, 3] (by decide) rfl) hS (lv_sub hl [1, 2, 3, 4, 0] rfl)
    rw [← fillN_0 ll (40 * ee o) (fun i => ee (o + 2 + i))] at hP hD
    exact loop_37 (ee (o + 1) + 1) 0 (by omega) (by omega) _ _ _ (hP.sub [0, 1, 2, 3] rfl) (hD.sub [0, 1, 2, 3] (by decide) rfl) hS (lv_sub hl [3, 4, 2, 1, 0] rfl)
  · exact absurd c_25 (by omega)
abbrev rmm_isEntry1 : Room := { frames := 1, cells := 0, slots := 0, locals := 24 }
set_option maxHeartbeats 4000000 in
set_option maxRecDepth 100000 in
theorem m_isEntry1 (l : Launch) (dC : Nat → ClassId) (dI : Nat → Nat → Nat) (cI : ClassId) (sz : Nat) (m0 : Nat) (a1 : Nat) (a2 : Nat) (a3 : Nat) (a4 : Nat) (a5 : Nat) (a6 : Nat) (a7 : Nat) (a8 : Nat) (a9 : Nat) (th : Nat) (vs : Nat) (bs : Nat) (ch : Nat) (mh : Nat) (me : Nat) (mb : Nat) (mn : Nat) (mw : Nat) (mr : Nat) (es : Nat) (pn : Nat) (ah : Option Nat) (fs : Nat) (ee : Nat → Nat) (zz : Nat → Option Nat) (ll : Nat → Nat) (hes : es ≤ 2470) (hee : ∀ j, ee j < 256) (hE : isEntM ee es = true) : KI l y_Mod_isEntry w_Mod_isEntry rmm_isEntry1 (dC, dI) CL_ [(cI, .int)] sz [.ref m0, .int (bI true)] [(m0, .inr (7, [.int (nI th), .ref a1, .ref a2, .int (nI vs), .ref a3, .int (nI bs), .int (nI ch), .int (nI mh), .int (nI me), .int (nI mb), .int (nI mn), .ref a4, .ref a5, .int (nI mw), .int (nI mr), .ref a6, .int (nI es), .int (nI pn), .ref a7, .ref a8, .int (oI ah), .ref a9, .int (nI fs)])), (a6, .inl (cI, 2600, .inl (nA ee))), (a4, .inl (cI, 200, .inl (oA zz))), (a5, .inl (cI, 8000, .inl (nA ll)))] [(m0, .inr (7, [.int (nI th), .ref a1, .ref a2, .int (nI vs), .ref a3, .int (nI bs), .int (nI ch), .int (nI mh), .int (nI me), .int (nI mb), .int (nI mn), .ref a4, .ref a5, .int (nI mw), .int (nI mr), .ref a6, .int (nI es), .int (nI pn), .ref a7, .ref a8, .int (oI ah), .ref a9, .int (nI fs)])), (a6, .inl (cI, 2600, .inl (nA ee))), (a4, .inl (cI, 200, .inl (oA ((chL ee (ee 0) 1 zz ll).1)))), (a5, .inl (cI, 8000, .inl (nA ((chL ee (ee 0) 1 zz ll).2))))] (bI true) := by
  refine k_start_z (cc := b_Mod_isEntry) (maxL := 7) (by decide) (Nat.le_of_ble_eq_true rfl) ?_
  intro p e s m args below meth c A QQ ls SS hK hP hD hA hl hN hret
  obtain ⟨hx, hb, hml, hown, hts⟩ := id SS
  have hl : lv_has ls 7 [(0, .ref m0), (1, .int (bI true))] := hl
  have hS : va_S A s.heap s.heap [] := va_S.rf
  have hb0 := hee 0
  have hE0 := of_decide_eq_true hE
  obtain ⟨hE1, hE8, hEL⟩ := hE0
  refine lv_aload_n hx hb d_Mod_isEntry_0 rfl (lv_at hl 0 rfl) ?_
  refine va_get (D := (dC, dI)) (ci := 7) (v := .ref a6) (C := R_Mod) (T := F_Mod) (N := 23) hx hb hts in_Mod hown hK hP 0 rfl rfl 15 (by decide) (hts _ u_681) (fun _ h9 => h9) rfl d_Mod_isEntry_1 ?_
  refine lv_iconst (v := nI 0) hx hb d_Mod_isEntry_4 (by decide) ?_
  refine n_iald (v := nI (ee 0)) hx hb hK hP 1 0 rfl rfl rfl (by omega) (by omega) d_Mod_isEntry_5 ?_
  refine lv_istore_n (lv' := [(2, .int (nI (ee 0))), (0, .ref m0), (1, .int (bI true))]) hx hb d_Mod_isEntry_6 rfl hl (by decide) rfl (fun ls hl => ?_)
  refine lv_iconst (v := nI 1) hx hb d_Mod_isEntry_7 (by decide) ?_
  refine lv_istore_n (lv' := [(3, .int (nI 1)), (2, .int (nI (ee 0))), (0, .ref m0), (1, .int (bI true))]) hx hb d_Mod_isEntry_8 rfl hl (by decide) rfl (fun ls hl => ?_)
  refine lv_iload_n hx hb d_Mod_isEntry_9 rfl (lv_at hl 1 rfl) ?_
  refine lv_iconst (v := nI 1) hx hb d_Mod_isEntry_10 (by decide) ?_
  refine n_icmp_lt (tgt := 24) hx hb d_Mod_isEntry_11 (by decide) (by omega) (by omega) (fun c_11 => ?_) (fun c_11 => ?_)
  · exact absurd c_11 (by omega)
  · skip
    refine lv_iload_n hx hb d_Mod_isEntry_14 rfl (lv_at hl 1 rfl) ?_
    refine lv_bipush (v := nI 8) hx hb d_Mod_isEntry_15 (by decide) ?_
    refine n_icmp_gt (tgt := 24) hx hb d_Mod_isEntry_17 (by decide) (by omega) (by omega) (fun c_17 => ?_) (fun c_17 => ?_)
    · exact absurd c_17 (by omega)
    · skip
      refine lv_iconst (v := bI true) hx hb d_Mod_isEntry_20 (by decide) ?_
      refine lv_goto (tgt := 25) hx hb d_Mod_isEntry_21 (by decide) ?_
      refine lv_istore (lv' := [(4, .int (bI true)), (3, .int (nI 1)), (2, .int (nI (ee 0))), (0, .ref m0), (1, .int (bI true))]) hx hb d_Mod_isEntry_25 hl (by decide) rfl (fun ls hl => ?_)
      refine lv_iconst (v := nI 0) hx hb d_Mod_isEntry_27 (by decide) ?_
      refine lv_istore (lv' := [(5, .int (nI 0)), (4, .int (bI true)), (3, .int (nI 1)), (2, .int (nI (ee 0))), (0, .ref m0), (1, .int (bI true))]) hx hb d_Mod_isEntry_28 hl (by decide) rfl (fun ls hl => ?_)
      have loop_30 : ∀ (n_ : Nat) (k at' : Nat) (zz' : Nat → Option Nat) (ll' : Nat → Nat), (k ≤ ee 0) → (ee 0 + 1 ≤ k + n_) → (meLoop ee es (ee 0 - k) at' = some es) → (chL ee (ee 0) 1 zz ll = chL ee (ee 0 - k) at' zz' ll') → ∀ (H : Heap) (locs : List Loc) (ls : Array Slot), va_P (dC, dI) CL_ [(m0, .inr (7, [.int (nI th), .ref a1, .ref a2, .int (nI vs), .ref a3, .int (nI bs), .int (nI ch), .int (nI mh), .int (nI me), .int (nI mb), .int (nI mn), .ref a4, .ref a5, .int (nI mw), .int (nI mr), .ref a6, .int (nI es), .int (nI pn), .ref a7, .ref a8, .int (oI ah), .ref a9, .int (nI fs)])), (a6, .inl (cI, 2600, .inl (nA ee))), (a4, .inl (cI, 200, .inl (oA zz'))), (a5, .inl (cI, 8000, .inl (nA ll')))] H → va_D A [(m0, .inr (7, [.int (nI th), .ref a1, .ref a2, .int (nI vs), .ref a3, .int (nI bs), .int (nI ch), .int (nI mh), .int (nI me), .int (nI mb), .int (nI mn), .ref a4, .ref a5, .int (nI mw), .int (nI mr), .ref a6, .int (nI es), .int (nI pn), .ref a7, .ref a8, .int (oI ah), .ref a9, .int (nI fs)])), (a6, .inl (cI, 2600, .inl (nA ee))), (a4, .inl (cI, 200, .inl (oA zz'))), (a5, .inl (cI, 8000, .inl (nA ll')))] → va_S A s.heap H locs → lv_has ls 7 [(0, .ref m0), (1, .int (bI true)), (2, .int (nI (ee 0))), (3, .int (nI at')), (4, .int (bI true)), (5, .int (nI k))] → W p l e rmm_isEntry1 s m args below meth c H locs 0 0 QQ (F0 m 30 ls []) := by
        intro n_
        induction n_ with
        | zero =>
          intro k at' zz' ll' hk hf hE9 hinv
          exact absurd hf (by omega)
        | succ n_ ih =>
          intro k at' zz' ll' hk hf hE9 hinv H locs ls hP hD hS hl
          have hb1 := hee at'
          have hb2 := hee (at' + 1)
          have join_97 : (k < ee 0) → ((at' + 2 ≤ es ∧ ee at' < 200 ∧ (ee (at' + 1) ≤ 40 ∨ ee (at' + 1) = 255) ∧ at' + 2 + (if ee (at' + 1) = 255 then 0 else ee (at' + 1)) ≤ es) ∧ meLoop ee es (ee 0 - (k + 1)) (at' + (2 + (if ee (at' + 1) = 255 then 0 else ee (at' + 1)))) = some es) → ∀ (H : Heap) (locs : List Loc) (ls : Array Slot), va_P (dC, dI) CL_ [(m0, .inr (7, [.int (nI th), .ref a1, .ref a2, .int (nI vs), .ref a3, .int (nI bs), .int (nI ch), .int (nI mh), .int (nI me), .int (nI mb), .int (nI mn), .ref a4, .ref a5, .int (nI mw), .int (nI mr), .ref a6, .int (nI es), .int (nI pn), .ref a7, .ref a8, .int (oI ah), .ref a9, .int (nI fs)])), (a6, .inl (cI, 2600, .inl (nA ee))), (a4, .inl (cI, 200, .inl (oA zz'))), (a5, .inl (cI, 8000, .inl (nA ll')))] H → va_D A [(m0, .inr (7, [.int (nI th), .ref a1, .ref a2, .int (nI vs), .ref a3, .int (nI bs), .int (nI ch), .int (nI mh), .int (nI me), .int (nI mb), .int (nI mn), .ref a4, .ref a5, .int (nI mw), .int (nI mr), .ref a6, .int (nI es), .int (nI pn), .ref a7, .ref a8, .int (oI ah), .ref a9, .int (nI fs)])), (a6, .inl (cI, 2600, .inl (nA ee))), (a4, .inl (cI, 200, .inl (oA zz'))), (a5, .inl (cI, 8000, .inl (nA ll')))] → va_S A s.heap H locs → lv_has ls 7 [(0, .ref m0), (1, .int (bI true)), (2, .int (nI (ee 0))), (3, .int (nI at')), (4, .int (bI true)), (5, .int (nI k))] → W p l e rmm_isEntry1 s m args below meth c H locs 0 0 QQ (F0 m 97 ls []) := by
            intro  hkm hE3 H locs ls hP hD hS hl
            obtain ⟨⟨g1, g2, g3, g4⟩, hE2⟩ := hE3
            refine lv_iload hx hb d_Mod_isEntry_97 (lv_at hl 4 rfl) ?_
            refine n_if_eqB (tgt := 171) hx hb d_Mod_isEntry_99 (by decide) (fun c_99 => ?_) (fun c_99 => ?_)
            · exact absurd c_99 (by decide)
            · skip
              refine lv_aload_n hx hb d_Mod_isEntry_102 rfl (lv_at hl 0 rfl) ?_
              refine va_get (D := (dC, dI)) (ci := 7) (v := .ref a6) (C := R_Mod) (T := F_Mod) (N := 23) hx hb hts in_Mod hown hK hP 0 rfl rfl 15 (by decide) (hts _ u_681) (fun _ h9 => h9) rfl d_Mod_isEntry_103 ?_
              refine lv_iload_n hx hb d_Mod_isEntry_106 rfl (lv_at hl 3 rfl) ?_
              refine lv_iconst (v := nI 1) hx hb d_Mod_isEntry_107 (by decide) ?_
              refine n_iadd hx hb d_Mod_isEntry_108 ?_
              refine n_iald (v := nI (ee (at' + 1))) hx hb hK hP 1 0 rfl rfl rfl (by omega) (by omega) d_Mod_isEntry_109 ?_
              refine lv_sipush (v := nI 255) hx hb d_Mod_isEntry_110 (by decide) ?_
              refine n_icmp_ne (tgt := 120) hx hb d_Mod_isEntry_113 (by decide) (by omega) (by omega) (fun c_113 => ?_) (fun c_113 => ?_)
              · skip
                refine lv_aload_n hx hb d_Mod_isEntry_120 rfl (lv_at hl 0 rfl) ?_
                refine va_get (D := (dC, dI)) (ci := 7) (v := .ref a6) (C := R_Mod) (T := F_Mod) (N := 23) hx hb hts in_Mod hown hK hP 0 rfl rfl 15 (by decide) (hts _ u_681) (fun _ h9 => h9) rfl d_Mod_isEntry_121 ?_
                refine lv_iload_n hx hb d_Mod_isEntry_124 rfl (lv_at hl 3 rfl) ?_
                refine lv_iconst (v := nI 1) hx hb d_Mod_isEntry_125 (by decide) ?_
                refine n_iadd hx hb d_Mod_isEntry_126 ?_
                refine n_iald (v := nI (ee (at' + 1))) hx hb hK hP 1 0 rfl rfl rfl (by omega) (by omega) d_Mod_isEntry_127 ?_
                refine top_i (nI (if ee (at' + 1) = 255 then 0 else ee (at' + 1))) (by first | rw [if_pos c_113] | rw [if_neg c_113]) ?_
                refine lv_istore (lv' := [(6, .int (nI (if ee (at' + 1) = 255 then 0 else ee (at' + 1)))), (0, .ref m0), (1, .int (bI true)), (2, .int (nI (ee 0))), (3, .int (nI at')), (4, .int (bI true)), (5, .int (nI k))]) hx hb d_Mod_isEntry_128 hl (by decide) rfl (fun ls hl => ?_)
                refine lv_iload_n hx hb d_Mod_isEntry_130 rfl (lv_at hl 4 rfl) ?_
                refine lv_iconst (v := nI 2) hx hb d_Mod_isEntry_131 (by decide) ?_
                refine n_iadd hx hb d_Mod_isEntry_132 ?_
                refine lv_iload hx hb d_Mod_isEntry_133 (lv_at hl 0 rfl) ?_
                refine n_iadd hx hb d_Mod_isEntry_135 ?_
                refine lv_aload_n hx hb d_Mod_isEntry_136 rfl (lv_at hl 1 rfl) ?_
                refine va_get (D := (dC, dI)) (ci := 7) (v := .int (nI es)) (C := R_Mod) (T := F_Mod) (N := 23) hx hb hts in_Mod hown hK hP 0 rfl rfl 16 (by decide) (hts _ u_682) (fun _ h9 => h9) rfl d_Mod_isEntry_137 ?_
                refine n_icmp_gt (tgt := 147) hx hb d_Mod_isEntry_140 (by decide) (by omega) (by omega) (fun c_140 => ?_) (fun c_140 => ?_)
                · exact absurd c_140 (by omega)
                · skip
                  refine lv_iconst (v := bI true) hx hb d_Mod_isEntry_143 (by decide) ?_
                  refine lv_goto (tgt := 148) hx hb d_Mod_isEntry_144 (by decide) ?_
                  refine lv_istore (lv' := [(4, .int (bI true)), (6, .int (nI (if ee (at' + 1) = 255 then 0 else ee (at' + 1)))), (0, .ref m0), (1, .int (bI true)), (2, .int (nI (ee 0))), (3, .int (nI at')), (5, .int (nI k))]) hx hb d_Mod_isEntry_148 hl (by decide) rfl (fun ls hl => ?_)
                  refine lv_iload hx hb d_Mod_isEntry_150 (lv_at hl 0 rfl) ?_
                  refine n_if_eqB (tgt := 164) hx hb d_Mod_isEntry_152 (by decide) (fun c_152 => ?_) (fun c_152 => ?_)
                  · exact absurd c_152 (by decide)
                  · skip
                    refine lv_iload_n hx hb d_Mod_isEntry_155 rfl (lv_at hl 3 rfl) ?_
                    refine n_if_eqB (tgt := 164) hx hb d_Mod_isEntry_156 (by decide) (fun c_156 => ?_) (fun c_156 => ?_)
                    · exact absurd c_156 (by decide)
                    · skip
                      refine lv_aload_n hx hb d_Mod_isEntry_159 rfl (lv_at hl 2 rfl) ?_
                      refine lv_iload_n hx hb d_Mod_isEntry_160 rfl (lv_at hl 5 rfl) ?_
                      refine kj_v (wr := []) (va_runV (As := [.int (nI at')]) (rest := []) SS (m_changeV l dC dI cI H.size m0 a1 a2 a3 a4 a5 a6 a7 a8 a9 th vs bs ch mh me mb mn mw mr es pn ah fs ee zz' ll' at' (by omega) (by omega) (by rw [if_neg c_113] at g4; omega)) (k_cwV 1 hts u_662 u_664 u_24 u_43 u_665 rfl rfl (by decide +kernel) ⟨Nat.le_of_ble_eq_true rfl, Nat.le_of_ble_eq_true rfl⟩) (kp_V hN hK [0] rfl hP hD [0, 1, 2, 3] rfl (by decide) (ci := 7) rfl 0 rfl) rfl rfl hl.1 rfl (lv_room (Nat.le_of_ble_eq_true rfl)) d_Mod_isEntry_161 ⟨Nat.le_of_ble_eq_true rfl, Nat.le_of_ble_eq_true rfl⟩) hP hD hS hA [0, 1, 2, 3] [] rfl rfl (by decide) (by decide) (fun H locs hP hD hS => ?_)
                      have hP : va_P (dC, dI) CL_ [(m0, .inr (7, [.int (nI th), .ref a1, .ref a2, .int (nI vs), .ref a3, .int (nI bs), .int (nI ch), .int (nI mh), .int (nI me), .int (nI mb), .int (nI mn), .ref a4, .ref a5, .int (nI mw), .int (nI mr), .ref a6, .int (nI es), .int (nI pn), .ref a7, .ref a8, .int (oI ah), .ref a9, .int (nI fs)])), (a6, .inl (cI, 2600, .inl (nA ee))), (a4, .inl (cI, 200, .inl (oA (updO zz' (ee at') (some (ee (at' + 1))))))), (a5, .inl (cI, 8000, .inl (nA (fillN ll' (40 * ee at') (fun i => ee (at' + 2 + i)) (ee (at' + 1))))))] H := hP
                      have hD : va_D A [(m0, .inr (7, [.int (nI th), .ref a1, .ref a2, .int (nI vs), .ref a3, .int (nI bs), .int (nI ch), .int (nI mh), .int (nI me), .int (nI mb), .int (nI mn), .ref a4, .ref a5, .int (nI mw), .int (nI mr), .ref a6, .int (nI es), .int (nI pn), .ref a7, .ref a8, .int (oI ah), .ref a9, .int (nI fs)])), (a6, .inl (cI, 2600, .inl (nA ee))), (a4, .inl (cI, 200, .inl (oA (updO zz' (ee at') (some (ee (at' + 1))))))), (a5, .inl (cI, 8000, .inl (nA (fillN ll' (40 * ee at') (fun i => ee (at' + 2 + i)) (ee (at' + 1))))))] := hD
                      refine lv_iload_n hx hb d_Mod_isEntry_164 rfl (lv_at hl 5 rfl) ?_
                      refine lv_iconst (v := nI 2) hx hb d_Mod_isEntry_165 (by decide) ?_
                      refine lv_iload hx hb d_Mod_isEntry_166 (lv_at hl 1 rfl) ?_
                      refine n_iadd hx hb d_Mod_isEntry_168 ?_
                      refine n_iadd hx hb d_Mod_isEntry_169 ?_
                      refine lv_istore_n (lv' := [(3, .int (nI (at' + (2 + (if ee (at' + 1) = 255 then 0 else ee (at' + 1)))))), (4, .int (bI true)), (6, .int (nI (if ee (at' + 1) = 255 then 0 else ee (at' + 1)))), (0, .ref m0), (1, .int (bI true)), (2, .int (nI (ee 0))), (5, .int (nI k))]) hx hb d_Mod_isEntry_170 rfl hl (by decide) rfl (fun ls hl => ?_)
                      refine lv_iinc (v := nI (k + 1)) (lv' := [(5, .int (nI (k + 1))), (3, .int (nI (at' + (2 + (if ee (at' + 1) = 255 then 0 else ee (at' + 1)))))), (4, .int (bI true)), (6, .int (nI (if ee (at' + 1) = 255 then 0 else ee (at' + 1)))), (0, .ref m0), (1, .int (bI true)), (2, .int (nI (ee 0)))]) hx hb d_Mod_isEntry_171 hl (k := 6) rfl (inc1 k) (by decide) rfl (fun ls hl => ?_)
                      refine lv_goto (tgt := 30) hx hb d_Mod_isEntry_174 (by decide) ?_
                      exact ih (k + 1) (at' + (2 + (if ee (at' + 1) = 255 then 0 else ee (at' + 1)))) (updO zz' (ee at') (some (ee (at' + 1)))) (fillN ll' (40 * ee at') (fun i => ee (at' + 2 + i)) (ee (at' + 1))) (by omega) (by omega) hE2 (by rw [hinv, show ee 0 - k = (ee 0 - (k + 1)) + 1 by omega, chL]; simp only [if_neg c_113]) _ _ _ (hP.sub [0, 1, 2, 3] rfl) (hD.sub [0, 1, 2, 3] (by decide) rfl) hS (lv_sub hl [4, 5, 6, 1, 2, 0] rfl)
              · skip
                refine lv_iconst (v := nI 0) hx hb d_Mod_isEntry_116 (by decide) ?_
                refine lv_goto (tgt := 128) hx hb d_Mod_isEntry_117 (by decide) ?_
                refine top_i (nI (if ee (at' + 1) = 255 then 0 else ee (at' + 1))) (by first | rw [if_pos c_113] | rw [if_neg c_113]) ?_
                refine lv_istore (lv' := [(6, .int (nI (if ee (at' + 1) = 255 then 0 else ee (at' + 1)))), (0, .ref m0), (1, .int (bI true)), (2, .int (nI (ee 0))), (3, .int (nI at')), (4, .int (bI true)), (5, .int (nI k))]) hx hb d_Mod_isEntry_128 hl (by decide) rfl (fun ls hl => ?_)
                refine lv_iload_n hx hb d_Mod_isEntry_130 rfl (lv_at hl 4 rfl) ?_
                refine lv_iconst (v := nI 2) hx hb d_Mod_isEntry_131 (by decide) ?_
                refine n_iadd hx hb d_Mod_isEntry_132 ?_
                refine lv_iload hx hb d_Mod_isEntry_133 (lv_at hl 0 rfl) ?_
                refine n_iadd hx hb d_Mod_isEntry_135 ?_
                refine lv_aload_n hx hb d_Mod_isEntry_136 rfl (lv_at hl 1 rfl) ?_
                refine va_get (D := (dC, dI)) (ci := 7) (v := .int (nI es)) (C := R_Mod) (T := F_Mod) (N := 23) hx hb hts in_Mod hown hK hP 0 rfl rfl 16 (by decide) (hts _ u_682) (fun _ h9 => h9) rfl d_Mod_isEntry_137 ?_
                refine n_icmp_gt (tgt := 147) hx hb d_Mod_isEntry_140 (by decide) (by omega) (by omega) (fun c_140 => ?_) (fun c_140 => ?_)
                · exact absurd c_140 (by omega)
                · skip
                  refine lv_iconst (v := bI true) hx hb d_Mod_isEntry_143 (by decide) ?_
                  refine lv_goto (tgt := 148) hx hb d_Mod_isEntry_144 (by decide) ?_
                  refine lv_istore (lv' := [(4, .int (bI true)), (6, .int (nI (if ee (at' + 1) = 255 then 0 else ee (at' + 1)))), (0, .ref m0), (1, .int (bI true)), (2, .int (nI (ee 0))), (3, .int (nI at')), (5, .int (nI k))]) hx hb d_Mod_isEntry_148 hl (by decide) rfl (fun ls hl => ?_)
                  refine lv_iload hx hb d_Mod_isEntry_150 (lv_at hl 0 rfl) ?_
                  refine n_if_eqB (tgt := 164) hx hb d_Mod_isEntry_152 (by decide) (fun c_152 => ?_) (fun c_152 => ?_)
                  · exact absurd c_152 (by decide)
                  · skip
                    refine lv_iload_n hx hb d_Mod_isEntry_155 rfl (lv_at hl 3 rfl) ?_
                    refine n_if_eqB (tgt := 164) hx hb d_Mod_isEntry_156 (by decide) (fun c_156 => ?_) (fun c_156 => ?_)
                    · exact absurd c_156 (by decide)
                    · skip
                      refine lv_aload_n hx hb d_Mod_isEntry_159 rfl (lv_at hl 2 rfl) ?_
                      refine lv_iload_n hx hb d_Mod_isEntry_160 rfl (lv_at hl 5 rfl) ?_
                      refine kj_v (wr := []) (va_runV (As := [.int (nI at')]) (rest := []) SS (m_changeD l dC dI cI H.size m0 a1 a2 a3 a4 a5 a6 a7 a8 a9 th vs bs ch mh me mb mn mw mr es pn ah fs ee zz' ll' at' (by omega) (by omega) c_113) (k_cwV 1 hts u_662 u_664 u_24 u_43 u_665 rfl rfl (by decide +kernel) ⟨Nat.le_of_ble_eq_true rfl, Nat.le_of_ble_eq_true rfl⟩) (kp_V hN hK [0] rfl hP hD [0, 1, 2, 3] rfl (by decide) (ci := 7) rfl 0 rfl) rfl rfl hl.1 rfl (lv_room (Nat.le_of_ble_eq_true rfl)) d_Mod_isEntry_161 ⟨Nat.le_of_ble_eq_true rfl, Nat.le_of_ble_eq_true rfl⟩) hP hD hS hA [0, 1, 2, 3] [] rfl rfl (by decide) (by decide) (fun H locs hP hD hS => ?_)
                      have hP : va_P (dC, dI) CL_ [(m0, .inr (7, [.int (nI th), .ref a1, .ref a2, .int (nI vs), .ref a3, .int (nI bs), .int (nI ch), .int (nI mh), .int (nI me), .int (nI mb), .int (nI mn), .ref a4, .ref a5, .int (nI mw), .int (nI mr), .ref a6, .int (nI es), .int (nI pn), .ref a7, .ref a8, .int (oI ah), .ref a9, .int (nI fs)])), (a6, .inl (cI, 2600, .inl (nA ee))), (a4, .inl (cI, 200, .inl (oA (updO zz' (ee at') none)))), (a5, .inl (cI, 8000, .inl (nA ll')))] H := hP
                      have hD : va_D A [(m0, .inr (7, [.int (nI th), .ref a1, .ref a2, .int (nI vs), .ref a3, .int (nI bs), .int (nI ch), .int (nI mh), .int (nI me), .int (nI mb), .int (nI mn), .ref a4, .ref a5, .int (nI mw), .int (nI mr), .ref a6, .int (nI es), .int (nI pn), .ref a7, .ref a8, .int (oI ah), .ref a9, .int (nI fs)])), (a6, .inl (cI, 2600, .inl (nA ee))), (a4, .inl (cI, 200, .inl (oA (updO zz' (ee at') none)))), (a5, .inl (cI, 8000, .inl (nA ll')))] := hD
                      refine lv_iload_n hx hb d_Mod_isEntry_164 rfl (lv_at hl 5 rfl) ?_
                      refine lv_iconst (v := nI 2) hx hb d_Mod_isEntry_165 (by decide) ?_
                      refine lv_iload hx hb d_Mod_isEntry_166 (lv_at hl 1 rfl) ?_
                      refine n_iadd hx hb d_Mod_isEntry_168 ?_
                      refine n_iadd hx hb d_Mod_isEntry_169 ?_
                      refine lv_istore_n (lv' := [(3, .int (nI (at' + (2 + (if ee (at' + 1) = 255 then 0 else ee (at' + 1)))))), (4, .int (bI true)), (6, .int (nI (if ee (at' + 1) = 255 then 0 else ee (at' + 1)))), (0, .ref m0), (1, .int (bI true)), (2, .int (nI (ee 0))), (5, .int (nI k))]) hx hb d_Mod_isEntry_170 rfl hl (by decide) rfl (fun ls hl => ?_)
                      refine lv_iinc (v := nI (k + 1)) (lv' := [(5, .int (nI (k + 1))), (3, .int (nI (at' + (2 + (if ee (at' + 1) = 255 then 0 else ee (at' + 1)))))), (4, .int (bI true)), (6, .int (nI (if ee (at' + 1) = 255 then 0 else ee (at' + 1)))), (0, .ref m0), (1, .int (bI true)), (2, .int (nI (ee 0)))]) hx hb d_Mod_isEntry_171 hl (k := 6) rfl (inc1 k) (by decide) rfl (fun ls hl => ?_)
                      refine lv_goto (tgt := 30) hx hb d_Mod_isEntry_174 (by decide) ?_
                      exact ih (k + 1) (at' + (2 + (if ee (at' + 1) = 255 then 0 else ee (at' + 1)))) (updO zz' (ee at') none) ll' (by omega) (by omega) hE2 (by rw [hinv, show ee 0 - k = (ee 0 - (k + 1)) + 1 by omega, chL]; simp only [if_pos c_113]) _ _ _ (hP.sub [0, 1, 2, 3] rfl) (hD.sub [0, 1, 2, 3] (by decide) rfl) hS (lv_sub hl [4, 5, 6, 1, 2, 0] rfl)
          refine lv_iload hx hb d_Mod_isEntry_30 (lv_at hl 5 rfl) ?_
          refine lv_iload_n hx hb d_Mod_isEntry_32 rfl (lv_at hl 2 rfl) ?_
          refine n_icmp_ge (tgt := 177) hx hb d_Mod_isEntry_33 (by decide) (by omega) (by omega) (fun c_33 => ?_) (fun c_33 => ?_)
          · skip
            have hz9 : ee 0 - k = 0 := by omega
            rw [hz9, meLoop] at hE9
            have hz8 := Option.some.inj hE9
            rw [hinv, hz9, chL] at hret
            refine lv_iload hx hb d_Mod_isEntry_177 (lv_at hl 4 rfl) ?_
            refine n_if_eqB (tgt := 194) hx hb d_Mod_isEntry_179 (by decide) (fun c_179 => ?_) (fun c_179 => ?_)
            · exact absurd c_179 (by decide)
            · skip
              refine lv_iload_n hx hb d_Mod_isEntry_182 rfl (lv_at hl 3 rfl) ?_
              refine lv_aload_n hx hb d_Mod_isEntry_183 rfl (lv_at hl 0 rfl) ?_
              refine va_get (D := (dC, dI)) (ci := 7) (v := .int (nI es)) (C := R_Mod) (T := F_Mod) (N := 23) hx hb hts in_Mod hown hK hP 0 rfl rfl 16 (by decide) (hts _ u_682) (fun _ h9 => h9) rfl d_Mod_isEntry_184 ?_
              refine n_icmp_ne (tgt := 194) hx hb d_Mod_isEntry_187 (by decide) (by omega) (by omega) (fun c_187 => ?_) (fun c_187 => ?_)
              · exact absurd c_187 (by omega)
              · skip
                refine lv_iconst (v := bI true) hx hb d_Mod_isEntry_190 (by decide) ?_
                refine lv_goto (tgt := 195) hx hb d_Mod_isEntry_191 (by decide) ?_
                exact hret true _ _ 195 ls d_Mod_isEntry_195 (hP.sub [0, 1, 2, 3] rfl) (hD.sub [0, 1, 2, 3] (by decide) rfl) hS rfl
          · skip
            obtain ⟨⟨g1, g2, g3, g4⟩, g5⟩ := meLoop_s (ee := ee) (es := es) (k := ee 0 - (k + 1)) (at' := at') (x := es) (by rw [show ee 0 - (k + 1) + 1 = ee 0 - k by omega]; exact hE9)
            refine lv_iload hx hb d_Mod_isEntry_36 (lv_at hl 4 rfl) ?_
            refine n_if_eqB (tgt := 177) hx hb d_Mod_isEntry_38 (by decide) (fun c_38 => ?_) (fun c_38 => ?_)
            · exact absurd c_38 (by decide)
            · skip
              refine lv_iload_n hx hb d_Mod_isEntry_41 rfl (lv_at hl 3 rfl) ?_
              refine lv_iconst (v := nI 2) hx hb d_Mod_isEntry_42 (by decide) ?_
              refine n_iadd hx hb d_Mod_isEntry_43 ?_
              refine lv_aload_n hx hb d_Mod_isEntry_44 rfl (lv_at hl 0 rfl) ?_
              refine va_get (D := (dC, dI)) (ci := 7) (v := .int (nI es)) (C := R_Mod) (T := F_Mod) (N := 23) hx hb hts in_Mod hown hK hP 0 rfl rfl 16 (by decide) (hts _ u_682) (fun _ h9 => h9) rfl d_Mod_isEntry_45 ?_
              refine n_icmp_gt (tgt := 94) hx hb d_Mod_isEntry_48 (by decide) (by omega) (by omega) (fun c_48 => ?_) (fun c_48 => ?_)
              · exact absurd c_48 (by omega)
              · skip
                refine lv_aload_n hx hb d_Mod_isEntry_51 rfl (lv_at hl 0 rfl) ?_
                refine va_get (D := (dC, dI)) (ci := 7) (v := .ref a6) (C := R_Mod) (T := F_Mod) (N := 23) hx hb hts in_Mod hown hK hP 0 rfl rfl 15 (by decide) (hts _ u_681) (fun _ h9 => h9) rfl d_Mod_isEntry_52 ?_
                refine lv_iload_n hx hb d_Mod_isEntry_55 rfl (lv_at hl 3 rfl) ?_
                refine n_iald (v := nI (ee at')) hx hb hK hP 1 0 rfl rfl rfl (by omega) (by omega) d_Mod_isEntry_56 ?_
                refine lv_sipush (v := nI 200) hx hb d_Mod_isEntry_57 (by decide) ?_
                refine n_icmp_ge (tgt := 94) hx hb d_Mod_isEntry_60 (by decide) (by omega) (by omega) (fun c_60 => ?_) (fun c_60 => ?_)
                · exact absurd c_60 (by omega)
                · skip
                  refine lv_aload_n hx hb d_Mod_isEntry_63 rfl (lv_at hl 0 rfl) ?_
                  refine va_get (D := (dC, dI)) (ci := 7) (v := .ref a6) (C := R_Mod) (T := F_Mod) (N := 23) hx hb hts in_Mod hown hK hP 0 rfl rfl 15 (by decide) (hts _ u_681) (fun _ h9 => h9) rfl d_Mod_isEntry_64 ?_
                  refine lv_iload_n hx hb d_Mod_isEntry_67 rfl (lv_at hl 3 rfl) ?_
                  refine lv_iconst (v := nI 1) hx hb d_Mod_isEntry_68 (by decide) ?_
                  refine n_iadd hx hb d_Mod_isEntry_69 ?_
                  refine n_iald (v := nI (ee (at' + 1))) hx hb hK hP 1 0 rfl rfl rfl (by omega) (by omega) d_Mod_isEntry_70 ?_
                  refine lv_bipush (v := nI 40) hx hb d_Mod_isEntry_71 (by decide) ?_
                  refine n_icmp_le (tgt := 90) hx hb d_Mod_isEntry_73 (by decide) (by omega) (by omega) (fun c_73 => ?_) (fun c_73 => ?_)
                  · skip
                    refine lv_iconst (v := bI true) hx hb d_Mod_isEntry_90 (by decide) ?_
                    refine lv_goto (tgt := 95) hx hb d_Mod_isEntry_91 (by decide) ?_
                    refine lv_istore (lv' := [(4, .int (bI true)), (0, .ref m0), (1, .int (bI true)), (2, .int (nI (ee 0))), (3, .int (nI at')), (5, .int (nI k))]) hx hb d_Mod_isEntry_95 hl (by decide) rfl (fun ls hl => ?_)
                    exact join_97 (by omega) (meLoop_s (by rw [show ee 0 - (k + 1) + 1 = ee 0 - k by omega]; exact hE9)) _ _ _ (hP.sub [0, 1, 2, 3] rfl) (hD.sub [0, 1, 2, 3] (by decide) rfl) hS (lv_sub hl [1, 2, 3, 4, 0, 5] rfl)
                  · skip
                    refine lv_aload_n hx hb d_Mod_isEntry_76 rfl (lv_at hl 0 rfl) ?_
                    refine va_get (D := (dC, dI)) (ci := 7) (v := .ref a6) (C := R_Mod) (T := F_Mod) (N := 23) hx hb hts in_Mod hown hK hP 0 rfl rfl 15 (by decide) (hts _ u_681) (fun _ h9 => h9) rfl d_Mod_isEntry_77 ?_
                    refine lv_iload_n hx hb d_Mod_isEntry_80 rfl (lv_at hl 3 rfl) ?_
                    refine lv_iconst (v := nI 1) hx hb d_Mod_isEntry_81 (by decide) ?_
                    refine n_iadd hx hb d_Mod_isEntry_82 ?_
                    refine n_iald (v := nI (ee (at' + 1))) hx hb hK hP 1 0 rfl rfl rfl (by omega) (by omega) d_Mod_isEntry_83 ?_
                    refine lv_sipush (v := nI 255) hx hb d_Mod_isEntry_84 (by decide) ?_
                    refine n_icmp_ne (tgt := 94) hx hb d_Mod_isEntry_87 (by decide) (by omega) (by omega) (fun c_87 => ?_) (fun c_87 => ?_)
                    · exact absurd c_87 (by omega)
                    · skip
                      refine lv_iconst (v := bI true) hx hb d_Mod_isEntry_90 (by decide) ?_
                      refine lv_goto (tgt := 95) hx hb d_Mod_isEntry_91 (by decide) ?_
                      refine lv_istore (lv' := [(4, .int (bI true)), (0, .ref m0), (1, .int (bI true)), (2, .int (nI (ee 0))), (3, .int (nI at')), (5, .int (nI k))]) hx hb d_Mod_isEntry_95 hl (by decide) rfl (fun ls hl => ?_)
                      exact join_97 (by omega) (meLoop_s (by rw [show ee 0 - (k + 1) + 1 = ee 0 - k by omega]; exact hE9)) _ _ _ (hP.sub [0, 1, 2, 3] rfl) (hD.sub [0, 1, 2, 3] (by decide) rfl) hS (lv_sub hl [1, 2, 3, 4, 0, 5] rfl)
      exact loop_30 (ee 0 + 1) 0 1 zz ll (by omega) (by omega) (by rw [Nat.sub_zero]; exact hEL) (by rw [Nat.sub_zero]) _ _ _ (hP.sub [0, 1, 2, 3] rfl) (hD.sub [0, 1, 2, 3] (by decide) rfl) hS (lv_sub hl [4, 5, 3, 2, 1, 0] rfl)
abbrev rmm_endEntry : Room := { frames := 2, cells := 0, slots := 0, locals := 50 }
set_option maxHeartbeats 4000000 in
set_option maxRecDepth 100000 in
theorem m_endEntry (l : Launch) (dC : Nat → ClassId) (dI : Nat → Nat → Nat) (cI : ClassId) (sz : Nat) (m0 : Nat) (a1 : Nat) (a2 : Nat) (a3 : Nat) (a4 : Nat) (a5 : Nat) (a6 : Nat) (a7 : Nat) (a8 : Nat) (a9 : Nat) (th : Nat) (vs : Nat) (bs : Nat) (ch : Nat) (mh : Nat) (me : Nat) (mb : Nat) (mn : Nat) (mw : Nat) (mr : Nat) (es : Nat) (pn : Nat) (ah : Option Nat) (fs : Nat) (ee : Nat → Nat) (zz : Nat → Option Nat) (ll : Nat → Nat) (b : Nat) (hes : es ≤ 2470) (hee : ∀ j, ee j < 256) : KI l y_Mod_endEntry w_Mod_endEntry rmm_endEntry (dC, dI) CL_ [(cI, .int)] sz [.ref m0, .int (nI b)] [(m0, .inr (7, [.int (nI th), .ref a1, .ref a2, .int (nI vs), .ref a3, .int (nI bs), .int (nI ch), .int (nI mh), .int (nI me), .int (nI mb), .int (nI mn), .ref a4, .ref a5, .int (nI mw), .int (nI mr), .ref a6, .int (nI es), .int (nI pn), .ref a7, .ref a8, .int (oI ah), .ref a9, .int (nI fs)])), (a6, .inl (cI, 2600, .inl (nA ee))), (a4, .inl (cI, 200, .inl (oA zz))), (a5, .inl (cI, 8000, .inl (nA ll)))] [(m0, .inr (7, [.int (nI th), .ref a1, .ref a2, .int (nI vs), .ref a3, .int (nI bs), .int (nI ch), .int (nI mh), .int (nI me), .int (nI (if isEntM ee es = true then b else mb)), .int (nI (if isEntM ee es = true then mn + 1 else mn)), .ref a4, .ref a5, .int (nI mw), .int (nI mr), .ref a6, .int (nI 0), .int (nI pn), .ref a7, .ref a8, .int (oI ah), .ref a9, .int (nI fs)])), (a6, .inl (cI, 2600, .inl (nA ee))), (a4, .inl (cI, 200, .inl (oA (if isEntM ee es = true then (chL ee (ee 0) 1 zz ll).1 else zz)))), (a5, .inl (cI, 8000, .inl (nA (if isEntM ee es = true then (chL ee (ee 0) 1 zz ll).2 else ll))))] (bI (isEntM ee es)) := by
  refine k_start_z (cc := b_Mod_endEntry) (maxL := 3) (by decide) (Nat.le_of_ble_eq_true rfl) ?_
  intro p e s m args below meth c A QQ ls SS hK hP hD hA hl hN hret
  obtain ⟨hx, hb, hml, hown, hts⟩ := id SS
  have hl : lv_has ls 3 [(0, .ref m0), (1, .int (nI b))] := hl
  have hS : va_S A s.heap s.heap [] := va_S.rf
  refine lv_aload_n hx hb d_Mod_endEntry_0 rfl (lv_at hl 0 rfl) ?_
  refine lv_iconst (v := bI false) hx hb d_Mod_endEntry_1 (by decide) ?_
  refine kj_i (wr := [(a4, .inl (cI, 200, .inl (oA zz))), (a5, .inl (cI, 8000, .inl (nA ll)))]) (va_runV (As := [.int (bI false)]) (rest := []) SS (m_isEntry0 l dC dI cI s.heap.size m0 a1 a2 a3 a4 a5 a6 a7 a8 a9 th vs bs ch mh me mb mn mw mr es pn ah fs ee (by omega) hee) (k_cwV 1 hts u_658 u_660 u_23 u_43 u_661 rfl rfl (by decide +kernel) ⟨Nat.le_of_ble_eq_true rfl, Nat.le_of_ble_eq_true rfl⟩) (kp_V hN hK [0] rfl hP hD [0, 1] rfl (by decide) (ci := 7) rfl 0 rfl) rfl rfl hl.1 rfl (lv_room (Nat.le_of_ble_eq_true rfl)) d_Mod_endEntry_2 ⟨Nat.le_of_ble_eq_true rfl, Nat.le_of_ble_eq_true rfl⟩) hP hD hS hA [0, 1] [2, 3] rfl rfl (by decide) (by decide) (fun H locs hP hD hS => ?_)
  have hP : va_P (dC, dI) CL_ [(a4, .inl (cI, 200, .inl (oA zz))), (a5, .inl (cI, 8000, .inl (nA ll))), (m0, .inr (7, [.int (nI th), .ref a1, .ref a2, .int (nI vs), .ref a3, .int (nI bs), .int (nI ch), .int (nI mh), .int (nI me), .int (nI mb), .int (nI mn), .ref a4, .ref a5, .int (nI mw), .int (nI mr), .ref a6, .int (nI es), .int (nI pn), .ref a7, .ref a8, .int (oI ah), .ref a9, .int (nI fs)])), (a6, .inl (cI, 2600, .inl (nA ee)))] H := hP
  have hD : va_D A [(a4, .inl (cI, 200, .inl (oA zz))), (a5, .inl (cI, 8000, .inl (nA ll))), (m0, .inr (7, [.int (nI th), .ref a1, .ref a2, .int (nI vs), .ref a3, .int (nI bs), .int (nI ch), .int (nI mh), .int (nI me), .int (nI mb), .int (nI mn), .ref a4, .ref a5, .int (nI mw), .int (nI mr), .ref a6, .int (nI es), .int (nI pn), .ref a7, .ref a8, .int (oI ah), .ref a9, .int (nI fs)])), (a6, .inl (cI, 2600, .inl (nA ee)))] := hD
  refine lv_istore_n (lv' := [(2, .int (bI (isEntM ee es))), (0, .ref m0), (1, .int (nI b))]) hx hb d_Mod_endEntry_5 rfl hl (by decide) rfl (fun ls hl => ?_)
  refine lv_iload_n hx hb d_Mod_endEntry_6 rfl (lv_at hl 0 rfl) ?_
  refine n_if_eqB (tgt := 31) hx hb d_Mod_endEntry_7 (by decide) (fun c_7 => ?_) (fun c_7 => ?_)
  · skip
    have c7 : ¬ isEntM ee es = true := fun q => by rw [c_7] at q; cases q
    simp only [if_neg c7] at hret
    refine lv_aload_n hx hb d_Mod_endEntry_31 rfl (lv_at hl 1 rfl) ?_
    refine lv_iconst (v := nI 0) hx hb d_Mod_endEntry_32 (by decide) ?_
    refine va_put (D := (dC, dI)) (ci := 7) (v := .int (nI 0)) (ty := .int) (C := R_Mod) (T := F_Mod) (N := 23) hx hb hts in_Mod ty_Mod tok_Mod nm_Mod hown hK hP hD hS 2 rfl rfl 16 (by decide) (hts _ u_682) (fun _ h9 => h9) rfl (by decide +kernel) rfl rfl (Nat.le_of_ble_eq_true rfl) d_Mod_endEntry_33 (fun H locs hP hD hS => ?_)
    have hP : va_P (dC, dI) CL_ [(a4, .inl (cI, 200, .inl (oA zz))), (a5, .inl (cI, 8000, .inl (nA ll))), (m0, .inr (7, [.int (nI th), .ref a1, .ref a2, .int (nI vs), .ref a3, .int (nI bs), .int (nI ch), .int (nI mh), .int (nI me), .int (nI mb), .int (nI mn), .ref a4, .ref a5, .int (nI mw), .int (nI mr), .ref a6, .int (nI 0), .int (nI pn), .ref a7, .ref a8, .int (oI ah), .ref a9, .int (nI fs)])), (a6, .inl (cI, 2600, .inl (nA ee)))] H := hP
    have hD : va_D A [(a4, .inl (cI, 200, .inl (oA zz))), (a5, .inl (cI, 8000, .inl (nA ll))), (m0, .inr (7, [.int (nI th), .ref a1, .ref a2, .int (nI vs), .ref a3, .int (nI bs), .int (nI ch), .int (nI mh), .int (nI me), .int (nI mb), .int (nI mn), .ref a4, .ref a5, .int (nI mw), .int (nI mr), .ref a6, .int (nI 0), .int (nI pn), .ref a7, .ref a8, .int (oI ah), .ref a9, .int (nI fs)])), (a6, .inl (cI, 2600, .inl (nA ee)))] := hD
    refine lv_iload_n hx hb d_Mod_endEntry_36 rfl (lv_at hl 0 rfl) ?_
    exact hret (isEntM ee es) _ _ 37 ls d_Mod_endEntry_37 (hP.sub [2, 3, 0, 1] rfl) (hD.sub [2, 3, 0, 1] (by decide) rfl) hS (by rfl)
  · skip
    simp only [if_pos c_7] at hret
    refine lv_aload_n hx hb d_Mod_endEntry_10 rfl (lv_at hl 1 rfl) ?_
    refine lv_iconst (v := bI true) hx hb d_Mod_endEntry_11 (by decide) ?_
    refine kj_i (wr := []) (va_runV (As := [.int (bI true)]) (rest := []) SS (m_isEntry1 l dC dI cI H.size m0 a1 a2 a3 a4 a5 a6 a7 a8 a9 th vs bs ch mh me mb mn mw mr es pn ah fs ee zz ll (by omega) hee c_7) (k_cwV 1 hts u_658 u_660 u_23 u_43 u_661 rfl rfl (by decide +kernel) ⟨Nat.le_of_ble_eq_true rfl, Nat.le_of_ble_eq_true rfl⟩) (kp_V hN hK [0] rfl hP hD [2, 3, 0, 1] rfl (by decide) (ci := 7) rfl 0 rfl) rfl rfl hl.1 rfl (lv_room (Nat.le_of_ble_eq_true rfl)) d_Mod_endEntry_12 ⟨Nat.le_of_ble_eq_true rfl, Nat.le_of_ble_eq_true rfl⟩) hP hD hS hA [2, 3, 0, 1] [] rfl rfl (by decide) (by decide) (fun H locs hP hD hS => ?_)
    have hP : va_P (dC, dI) CL_ [(m0, .inr (7, [.int (nI th), .ref a1, .ref a2, .int (nI vs), .ref a3, .int (nI bs), .int (nI ch), .int (nI mh), .int (nI me), .int (nI mb), .int (nI mn), .ref a4, .ref a5, .int (nI mw), .int (nI mr), .ref a6, .int (nI es), .int (nI pn), .ref a7, .ref a8, .int (oI ah), .ref a9, .int (nI fs)])), (a6, .inl (cI, 2600, .inl (nA ee))), (a4, .inl (cI, 200, .inl (oA ((chL ee (ee 0) 1 zz ll).1)))), (a5, .inl (cI, 8000, .inl (nA ((chL ee (ee 0) 1 zz ll).2))))] H := hP
    have hD : va_D A [(m0, .inr (7, [.int (nI th), .ref a1, .ref a2, .int (nI vs), .ref a3, .int (nI bs), .int (nI ch), .int (nI mh), .int (nI me), .int (nI mb), .int (nI mn), .ref a4, .ref a5, .int (nI mw), .int (nI mr), .ref a6, .int (nI es), .int (nI pn), .ref a7, .ref a8, .int (oI ah), .ref a9, .int (nI fs)])), (a6, .inl (cI, 2600, .inl (nA ee))), (a4, .inl (cI, 200, .inl (oA ((chL ee (ee 0) 1 zz ll).1)))), (a5, .inl (cI, 8000, .inl (nA ((chL ee (ee 0) 1 zz ll).2))))] := hD
    refine lv_pop hx hb d_Mod_endEntry_15 rfl ?_
    refine lv_aload_n hx hb d_Mod_endEntry_16 rfl (lv_at hl 1 rfl) ?_
    refine lv_iload_n hx hb d_Mod_endEntry_17 rfl (lv_at hl 2 rfl) ?_
    refine va_put (D := (dC, dI)) (ci := 7) (v := .int (nI b)) (ty := .int) (C := R_Mod) (T := F_Mod) (N := 23) hx hb hts in_Mod ty_Mod tok_Mod nm_Mod hown hK hP hD hS 0 rfl rfl 9 (by decide) (hts _ u_675) (fun _ h9 => h9) rfl (by decide +kernel) rfl rfl (Nat.le_of_ble_eq_true rfl) d_Mod_endEntry_18 (fun H locs hP hD hS => ?_)
    have hP : va_P (dC, dI) CL_ [(m0, .inr (7, [.int (nI th), .ref a1, .ref a2, .int (nI vs), .ref a3, .int (nI bs), .int (nI ch), .int (nI mh), .int (nI me), .int (nI b), .int (nI mn), .ref a4, .ref a5, .int (nI mw), .int (nI mr), .ref a6, .int (nI es), .int (nI pn), .ref a7, .ref a8, .int (oI ah), .ref a9, .int (nI fs)])), (a6, .inl (cI, 2600, .inl (nA ee))), (a4, .inl (cI, 200, .inl (oA ((chL ee (ee 0) 1 zz ll).1)))), (a5, .inl (cI, 8000, .inl (nA ((chL ee (ee 0) 1 zz ll).2))))] H := hP
    have hD : va_D A [(m0, .inr (7, [.int (nI th), .ref a1, .ref a2, .int (nI vs), .ref a3, .int (nI bs), .int (nI ch), .int (nI mh), .int (nI me), .int (nI b), .int (nI mn), .ref a4, .ref a5, .int (nI mw), .int (nI mr), .ref a6, .int (nI es), .int (nI pn), .ref a7, .ref a8, .int (oI ah), .ref a9, .int (nI fs)])), (a6, .inl (cI, 2600, .inl (nA ee))), (a4, .inl (cI, 200, .inl (oA ((chL ee (ee 0) 1 zz ll).1)))), (a5, .inl (cI, 8000, .inl (nA ((chL ee (ee 0) 1 zz ll).2))))] := hD
    refine lv_aload_n hx hb d_Mod_endEntry_21 rfl (lv_at hl 1 rfl) ?_
    refine lv_dup hx hb d_Mod_endEntry_22 rfl ?_
    refine va_get (D := (dC, dI)) (ci := 7) (v := .int (nI mn)) (C := R_Mod) (T := F_Mod) (N := 23) hx hb hts in_Mod hown hK hP 0 rfl rfl 10 (by decide) (hts _ u_676) (fun _ h9 => h9) rfl d_Mod_endEntry_23 ?_
    refine lv_iconst (v := nI 1) hx hb d_Mod_endEntry_26 (by decide) ?_
    refine n_iadd hx hb d_Mod_endEntry_27 ?_
    refine va_put (D := (dC, dI)) (ci := 7) (v := .int (nI (mn + 1))) (ty := .int) (C := R_Mod) (T := F_Mod) (N := 23) hx hb hts in_Mod ty_Mod tok_Mod nm_Mod hown hK hP hD hS 0 rfl rfl 10 (by decide) (hts _ u_676) (fun _ h9 => h9) rfl (by decide +kernel) rfl rfl (Nat.le_of_ble_eq_true rfl) d_Mod_endEntry_28 (fun H locs hP hD hS => ?_)
    have hP : va_P (dC, dI) CL_ [(m0, .inr (7, [.int (nI th), .ref a1, .ref a2, .int (nI vs), .ref a3, .int (nI bs), .int (nI ch), .int (nI mh), .int (nI me), .int (nI b), .int (nI (mn + 1)), .ref a4, .ref a5, .int (nI mw), .int (nI mr), .ref a6, .int (nI es), .int (nI pn), .ref a7, .ref a8, .int (oI ah), .ref a9, .int (nI fs)])), (a6, .inl (cI, 2600, .inl (nA ee))), (a4, .inl (cI, 200, .inl (oA ((chL ee (ee 0) 1 zz ll).1)))), (a5, .inl (cI, 8000, .inl (nA ((chL ee (ee 0) 1 zz ll).2))))] H := hP
    have hD : va_D A [(m0, .inr (7, [.int (nI th), .ref a1, .ref a2, .int (nI vs), .ref a3, .int (nI bs), .int (nI ch), .int (nI mh), .int (nI me), .int (nI b), .int (nI (mn + 1)), .ref a4, .ref a5, .int (nI mw), .int (nI mr), .ref a6, .int (nI es), .int (nI pn), .ref a7, .ref a8, .int (oI ah), .ref a9, .int (nI fs)])), (a6, .inl (cI, 2600, .inl (nA ee))), (a4, .inl (cI, 200, .inl (oA ((chL ee (ee 0) 1 zz ll).1)))), (a5, .inl (cI, 8000, .inl (nA ((chL ee (ee 0) 1 zz ll).2))))] := hD
    refine lv_aload_n hx hb d_Mod_endEntry_31 rfl (lv_at hl 1 rfl) ?_
    refine lv_iconst (v := nI 0) hx hb d_Mod_endEntry_32 (by decide) ?_
    refine va_put (D := (dC, dI)) (ci := 7) (v := .int (nI 0)) (ty := .int) (C := R_Mod) (T := F_Mod) (N := 23) hx hb hts in_Mod ty_Mod tok_Mod nm_Mod hown hK hP hD hS 0 rfl rfl 16 (by decide) (hts _ u_682) (fun _ h9 => h9) rfl (by decide +kernel) rfl rfl (Nat.le_of_ble_eq_true rfl) d_Mod_endEntry_33 (fun H locs hP hD hS => ?_)
    have hP : va_P (dC, dI) CL_ [(m0, .inr (7, [.int (nI th), .ref a1, .ref a2, .int (nI vs), .ref a3, .int (nI bs), .int (nI ch), .int (nI mh), .int (nI me), .int (nI b), .int (nI (mn + 1)), .ref a4, .ref a5, .int (nI mw), .int (nI mr), .ref a6, .int (nI 0), .int (nI pn), .ref a7, .ref a8, .int (oI ah), .ref a9, .int (nI fs)])), (a6, .inl (cI, 2600, .inl (nA ee))), (a4, .inl (cI, 200, .inl (oA ((chL ee (ee 0) 1 zz ll).1)))), (a5, .inl (cI, 8000, .inl (nA ((chL ee (ee 0) 1 zz ll).2))))] H := hP
    have hD : va_D A [(m0, .inr (7, [.int (nI th), .ref a1, .ref a2, .int (nI vs), .ref a3, .int (nI bs), .int (nI ch), .int (nI mh), .int (nI me), .int (nI b), .int (nI (mn + 1)), .ref a4, .ref a5, .int (nI mw), .int (nI mr), .ref a6, .int (nI 0), .int (nI pn), .ref a7, .ref a8, .int (oI ah), .ref a9, .int (nI fs)])), (a6, .inl (cI, 2600, .inl (nA ee))), (a4, .inl (cI, 200, .inl (oA ((chL ee (ee 0) 1 zz ll).1)))), (a5, .inl (cI, 8000, .inl (nA ((chL ee (ee 0) 1 zz ll).2))))] := hD
    refine lv_iload_n hx hb d_Mod_endEntry_36 rfl (lv_at hl 0 rfl) ?_
    exact hret (isEntM ee es) _ _ 37 ls d_Mod_endEntry_37 (hP.sub [0, 1, 2, 3] rfl) (hD.sub [0, 1, 2, 3] (by decide) rfl) hS (by rfl)
