set_option maxHeartbeats 4000000 in
set_option maxRecDepth 100000 in
theorem c_Bl_firstDifference (l : Launch) {E : hE} (hE : EnvOk E) {H : Heap} {bl fm : Nat} {sa : SA} {us sp : List TV} (h : Bs E H bl fm sa us sp) {bm fn : Nat} {sb : SA} {vs sq : List TV} (g : Bs E H bm fn sb vs sq) : Ct l E y_Bl_firstDifference b_Bl_firstDifference 7 (some .int) (rmA 5 0 0) [.ref bl, .ref bm] H (hQi (fun r H1 => r = nI (if fm = fn then fdT 2 us vs else 1) ∧ H1 = H)) := by
  refine hx_enter hE (by decide) (Nat.le_of_ble_eq_true rfl) ?_
  intro p e s m args below meth c ls cx hnm hl
  have hl : lv_has ls 7 [(0, .ref bl), (1, .ref bm)] := hl
  have hlo : hLo (eB E) [] := hLo.nil
  generalize hQ : MQ below _ args s _ _ _ = Q
  have hT := h.2.2.2.1
  have gT := g.2.2.2.1
  have l1 := hT.2.2.2
  have l2 := gT.2.2.2
  have f1 := h.2.2.1
  have f2 := g.2.2.1
  have LP : ∀ (k : Nat) (locs : List Loc) (i n9 : Nat), hLo (eB E) locs → (12 - i < k) → (i ≤ 12 ∧ n9 ≤ 2 + 9 * i) → (fm = fn) → (fdT n9 (us.drop i) (vs.drop i) = fdT 2 us vs) → ∀ ls, lv_has ls 7 [(3, .int (nI i)), (2, .int (nI n9)), (0, .ref bl), (1, .ref bm)] → W p l e (rmA 5 0 0) s m args below meth c H locs 0 0 Q (F0 m 17 ls []) := by
    intro k
    induction k with
    | zero => intro locs i n9 hlo hk hi hff hj; exact absurd hk (by omega)
    | succ k ih =>
      intro locs i n9 hlo hk hi hff hj ls hl
      rw [if_pos hff] at hQ
      refine lv_iload_n cx.x cx.b d_Bl_firstDifference_17 rfl (lv_at hl 0 rfl) ?_
      refine lv_bipush (v := 12) cx.x cx.b d_Bl_firstDifference_18 (by decide) ?_
      refine lv_icmp_ge (tgt := 137) cx.x cx.b d_Bl_firstDifference_20 (by decide) (fun c1 => ?_) (fun c1 => ?_)
      · have c1 : 12 ≤ i := (nI_leI (a := 12) (b := i) (by omega) (by omega)).mp c1
        rw [List.drop_eq_nil_of_le (by omega), List.drop_eq_nil_of_le (by omega)] at hj
        refine lv_iconst (v := 0) cx.x cx.b d_Bl_firstDifference_137 (by decide) ?_
        rw [← hQ]
        exact hx_reti cx.x cx.b cx.r cx.k rfl hlo (fun _ h => h) (Nat.le_of_ble_eq_true rfl) (Nat.le_of_ble_eq_true rfl) d_Bl_firstDifference_138 (⟨by rw [← hj]; rfl, rfl⟩)
      · have c1 : i < 12 := Nat.not_le.mp (fun zz => c1 ((nI_leI (a := 12) (b := i) (by omega) (by omega)).mpr zz))
        refine lv_aload_n cx.x cx.b d_Bl_firstDifference_23 rfl (lv_at hl 2 rfl) ?_
        refine gf_Bl_14_Bl cx h.1 rfl d_Bl_firstDifference_24 ?_
        refine lv_iload_n cx.x cx.b d_Bl_firstDifference_27 rfl (lv_at hl 0 rfl) ?_
        by_cases ca : i < us.length
        · refine hx_callr (iv_Bl_31_Sf cx (c_Sf_get l hE hT.1 hT.sfd (nI i)) hT.1.1 rfl hl.1 rfl (Nat.le_of_ble_eq_true rfl) d_Bl_firstDifference_28 ⟨Nat.le_of_ble_eq_true rfl, Nat.le_of_ble_eq_true rfl⟩ ⟨Nat.le_of_ble_eq_true rfl, Nat.le_of_ble_eq_true rfl⟩) hlo (fun _ h => h) (fun r68 H67 locs hp66 hlo => ?_)
          obtain ⟨hp66, hH9⟩ := hp66
          have hH9 := hH9.symm
          subst hH9
          rw [nI_toInt (by omega), if_pos ⟨by omega, by rw [List.length_map]; omega⟩, show (i : Int).toNat = i from rfl, getD_mapT (by omega)] at hp66
          subst hp66
          have htyus := hT.2.1 _ (List.mem_append_left _ (getD_memT (us := us) (i := i) (by omega)))
          refine hx_castT cx tw_630 (htyus.ob) d_Bl_firstDifference_31 ?_
          show W p l e _ s m args below meth c H locs _ _ _ (F0 m 34 ls [.ref ((us.getD i default).1.1.1)])
          rw [drop_consT ca] at hj
          refine lv_astore (lv' := [(4, .ref ((us.getD i default).1.1.1)), (3, .int (nI i)), (2, .int (nI n9)), (0, .ref bl), (1, .ref bm)]) cx.x cx.b d_Bl_firstDifference_34 hl (by decide) rfl (fun ls hl => ?_)
          refine lv_aload_n cx.x cx.b d_Bl_firstDifference_36 rfl (lv_at hl 4 rfl) ?_
          refine gf_Bl_14_Bl cx g.1 rfl d_Bl_firstDifference_37 ?_
          refine lv_iload_n cx.x cx.b d_Bl_firstDifference_40 rfl (lv_at hl 1 rfl) ?_
          by_cases cb : i < vs.length
          · refine hx_callr (iv_Bl_31_Sf cx (c_Sf_get l hE gT.1 gT.sfd (nI i)) gT.1.1 rfl hl.1 rfl (Nat.le_of_ble_eq_true rfl) d_Bl_firstDifference_41 ⟨Nat.le_of_ble_eq_true rfl, Nat.le_of_ble_eq_true rfl⟩ ⟨Nat.le_of_ble_eq_true rfl, Nat.le_of_ble_eq_true rfl⟩) hlo (fun _ h => h) (fun r71 H70 locs hp69 hlo => ?_)
            obtain ⟨hp69, hH9⟩ := hp69
            have hH9 := hH9.symm
            subst hH9
            rw [nI_toInt (by omega), if_pos ⟨by omega, by rw [List.length_map]; omega⟩, show (i : Int).toNat = i from rfl, getD_mapT (by omega)] at hp69
            subst hp69
            have htyvs := gT.2.1 _ (List.mem_append_left _ (getD_memT (us := vs) (i := i) (by omega)))
            refine hx_castT cx tw_630 (htyvs.ob) d_Bl_firstDifference_44 ?_
            show W p l e _ s m args below meth c H locs _ _ _ (F0 m 47 ls [.ref ((vs.getD i default).1.1.1)])
            rw [drop_consT cb] at hj
            have hj : (if sameD (us.getD i default).1.2.2 (vs.getD i default).1.2.2 then (if smM (us.getD i default).2.2.1 (vs.getD i default).2.2.1 < max (us.getD i default).2.2.1.length (vs.getD i default).2.2.1.length then n9 + (1 + smM (us.getD i default).2.2.1 (vs.getD i default).2.2.1) else fdT (n9 + (1 + smM (us.getD i default).2.2.1 (vs.getD i default).2.2.1)) (us.drop (i + 1)) (vs.drop (i + 1))) else n9) = fdT 2 us vs := hj
            refine lv_astore (lv' := [(5, .ref ((vs.getD i default).1.1.1)), (4, .ref ((us.getD i default).1.1.1)), (3, .int (nI i)), (2, .int (nI n9)), (0, .ref bl), (1, .ref bm)]) cx.x cx.b d_Bl_firstDifference_47 hl (by decide) rfl (fun ls hl => ?_)
            refine lv_aload cx.x cx.b d_Bl_firstDifference_49 (lv_at hl 1 rfl) ?_
            refine lv_ifnonnull (tgt := 61) cx.x cx.b d_Bl_firstDifference_51 (by decide) ?_
            refine lv_aload cx.x cx.b d_Bl_firstDifference_61 (lv_at hl 1 rfl) ?_
            refine lv_ifnull cx.x cx.b d_Bl_firstDifference_63 ?_
            refine lv_aload cx.x cx.b d_Bl_firstDifference_66 (lv_at hl 0 rfl) ?_
            refine lv_ifnull cx.x cx.b d_Bl_firstDifference_68 ?_
            refine lv_aload cx.x cx.b d_Bl_firstDifference_71 (lv_at hl 1 rfl) ?_
            refine lv_aload cx.x cx.b d_Bl_firstDifference_73 (lv_at hl 0 rfl) ?_
            refine hx_calli (iv_Bl_82_Tp cx (c_Dc_isSame l hE htyus.1 htyvs.1) htyus.ob rfl hl.1 rfl (Nat.le_of_ble_eq_true rfl) d_Bl_firstDifference_75 ⟨Nat.le_of_ble_eq_true rfl, Nat.le_of_ble_eq_true rfl⟩ ⟨Nat.le_of_ble_eq_true rfl, Nat.le_of_ble_eq_true rfl⟩) hlo (fun _ h => h) (fun r74 H73 locs hp72 hlo => ?_)
            obtain ⟨hp72, hH9⟩ := hp72
            have hH9 := hH9.symm
            subst hH9
            have hp72 : r74 = bI (sameD (us.getD i default).1.2.2 (vs.getD i default).1.2.2) := hp72
            subst hp72
            cases hsd : sameD (us.getD i default).1.2.2 (vs.getD i default).1.2.2
            · rw [hsd, if_neg (by decide)] at hj
              refine lv_if_ne (tgt := 83) cx.x cx.b d_Bl_firstDifference_78 (by decide) (fun c => absurd (by decide) c) (fun _ => ?_)
              refine lv_iload_n cx.x cx.b d_Bl_firstDifference_81 rfl (lv_at hl 3 rfl) ?_
              rw [← hQ]
              exact hx_reti cx.x cx.b cx.r cx.k rfl hlo (fun _ h => h) (Nat.le_of_ble_eq_true rfl) (Nat.le_of_ble_eq_true rfl) d_Bl_firstDifference_82 (⟨by rw [← hj], rfl⟩)
            · rw [hsd, if_pos rfl] at hj
              refine lv_if_ne (tgt := 83) cx.x cx.b d_Bl_firstDifference_78 (by decide) (fun _ => ?_) (fun c => absurd c (by decide))
              have lm1 := htyus.2.2.1.2.2.2
              have lm2 := htyvs.2.2.1.2.2.2
              have lsm := smM_le (us.getD i default).2.2.1 (vs.getD i default).2.2.1
              generalize hs9 : smM (us.getD i default).2.2.1 (vs.getD i default).2.2.1 = s9 at hj lsm
              refine lv_aload cx.x cx.b d_Bl_firstDifference_83 (lv_at hl 1 rfl) ?_
              refine gf_Bl_56_Tp cx htyus.ob rfl d_Bl_firstDifference_85 ?_
              refine lv_aload cx.x cx.b d_Bl_firstDifference_88 (lv_at hl 0 rfl) ?_
              refine gf_Bl_56_Tp cx htyvs.ob rfl d_Bl_firstDifference_90 ?_
              refine hx_calli (iv_Bl_86 cx (c_Bl_sameMembers l hE htyus.2.2.1 htyvs.2.2.1) rfl hl.1 rfl (Nat.le_of_ble_eq_true rfl) d_Bl_firstDifference_93 ⟨Nat.le_of_ble_eq_true rfl, Nat.le_of_ble_eq_true rfl⟩ ⟨Nat.le_of_ble_eq_true rfl, Nat.le_of_ble_eq_true rfl⟩) hlo (fun _ h => h) (fun r77 H76 locs hp75 hlo => ?_)
              obtain ⟨hp75, hH9⟩ := hp75
              have hH9 := hH9.symm
              subst hH9
              rw [hs9] at hp75
              subst hp75
              refine lv_istore (lv' := [(6, .int (nI s9)), (5, .ref ((vs.getD i default).1.1.1)), (4, .ref ((us.getD i default).1.1.1)), (3, .int (nI i)), (2, .int (nI n9)), (0, .ref bl), (1, .ref bm)]) cx.x cx.b d_Bl_firstDifference_96 hl (by decide) rfl (fun ls hl => ?_)
              refine lv_iload_n cx.x cx.b d_Bl_firstDifference_98 rfl (lv_at hl 4 rfl) ?_
              refine lv_iconst (v := 1) cx.x cx.b d_Bl_firstDifference_99 (by decide) ?_
              refine lv_iload cx.x cx.b d_Bl_firstDifference_100 (lv_at hl 0 rfl) ?_
              refine lv_iadd cx.x cx.b d_Bl_firstDifference_102 ?_
              refine lv_topi (fun x78 e_x78 => ?_)
              have e_x78 : x78 = nI (1 + s9) := e_x78.trans (by rw [show (1 : Int32) = nI 1 from rfl, nI_add])
              subst e_x78
              refine lv_iadd cx.x cx.b d_Bl_firstDifference_103 ?_
              refine lv_topi (fun x79 e_x79 => ?_)
              have e_x79 : x79 = nI (n9 + (1 + s9)) := e_x79.trans (nI_add n9 (1 + s9))
              subst e_x79
              refine lv_istore_n (lv' := [(2, .int (nI (n9 + (1 + s9)))), (6, .int (nI s9)), (5, .ref ((vs.getD i default).1.1.1)), (4, .ref ((us.getD i default).1.1.1)), (3, .int (nI i)), (0, .ref bl), (1, .ref bm)]) cx.x cx.b d_Bl_firstDifference_104 rfl hl (by decide) rfl (fun ls hl => ?_)
              refine lv_iload cx.x cx.b d_Bl_firstDifference_105 (lv_at hl 1 rfl) ?_
              refine lv_aload cx.x cx.b d_Bl_firstDifference_107 (lv_at hl 3 rfl) ?_
              refine gf_Bl_56_Tp cx htyus.ob rfl d_Bl_firstDifference_109 ?_
              refine hx_calli (iv_Bl_27_Sf cx (c_Sf_count l hE htyus.2.2.1.1) htyus.2.2.1.1.1 rfl hl.1 rfl (Nat.le_of_ble_eq_true rfl) d_Bl_firstDifference_112 ⟨Nat.le_of_ble_eq_true rfl, Nat.le_of_ble_eq_true rfl⟩ ⟨Nat.le_of_ble_eq_true rfl, Nat.le_of_ble_eq_true rfl⟩) hlo (fun _ h => h) (fun r82 H81 locs hp80 hlo => ?_)
              obtain ⟨hp80, hH9⟩ := hp80
              have hH9 := hH9.symm
              subst hH9
              subst hp80
              refine lv_aload cx.x cx.b d_Bl_firstDifference_115 (lv_at hl 2 rfl) ?_
              refine gf_Bl_56_Tp cx htyvs.ob rfl d_Bl_firstDifference_117 ?_
              refine hx_calli (iv_Bl_27_Sf cx (c_Sf_count l hE htyvs.2.2.1.1) htyvs.2.2.1.1.1 rfl hl.1 rfl (Nat.le_of_ble_eq_true rfl) d_Bl_firstDifference_120 ⟨Nat.le_of_ble_eq_true rfl, Nat.le_of_ble_eq_true rfl⟩ ⟨Nat.le_of_ble_eq_true rfl, Nat.le_of_ble_eq_true rfl⟩) hlo (fun _ h => h) (fun r85 H84 locs hp83 hlo => ?_)
              obtain ⟨hp83, hH9⟩ := hp83
              have hH9 := hH9.symm
              subst hH9
              subst hp83
              refine va_mmax cx.x cx.b (cx.ml.trans hl.1.symm) cx.o (cx.ts _ tw_765) (cx.ts _ tw_581) (cx.ts _ tw_22) (cx.ts _ tw_582) (Nat.le_of_ble_eq_true rfl) (Nat.le_of_ble_eq_true rfl) (Nat.le_of_ble_eq_true rfl) (Nat.le_of_ble_eq_true rfl) d_Bl_firstDifference_123 ?_
              refine lv_topi (fun x86 e_x86 => ?_)
              have e_x86 : x86 = nI (max (us.getD i default).2.2.1.length (vs.getD i default).2.2.1.length) := e_x86.trans (by by_cases c : (us.getD i default).2.2.1.length < (vs.getD i default).2.2.1.length; rw [if_pos ((nI_ltI (by omega) (by omega)).mpr c), Nat.max_eq_right (by omega)]; rw [if_neg (fun q => c ((nI_ltI (by omega) (by omega)).mp q)), Nat.max_eq_left (by omega)])
              subst e_x86
              refine lv_icmp_ge (tgt := 131) cx.x cx.b d_Bl_firstDifference_126 (by decide) (fun c5 => ?_) (fun c5 => ?_)
              · have c5 : (max (us.getD i default).2.2.1.length (vs.getD i default).2.2.1.length) ≤ s9 := (nI_leI (a := (max (us.getD i default).2.2.1.length (vs.getD i default).2.2.1.length)) (b := s9) (by omega) (by omega)).mp c5
                rw [if_neg (by omega)] at hj
                obtain ⟨x87, e_x87⟩ : ∃ y : Int32, y = nI i + 1 := ⟨_, rfl⟩
                refine lv_iinc (v := x87) (lv' := [(3, .int x87), (2, .int (nI (n9 + (1 + s9)))), (6, .int (nI s9)), (5, .ref ((vs.getD i default).1.1.1)), (4, .ref ((us.getD i default).1.1.1)), (0, .ref bl), (1, .ref bm)]) cx.x cx.b d_Bl_firstDifference_131 hl (k := 4) rfl (by rw [e_x87]; rfl) (by decide) rfl (fun ls hl => ?_)
                refine lv_goto (tgt := 17) cx.x cx.b d_Bl_firstDifference_134 (by decide) ?_
                rw [nI_1] at e_x87
                subst e_x87
                exact ih _ (i + 1) (n9 + (1 + s9)) hlo (by omega) ⟨by omega, by omega⟩ hff hj _ (lv_sub hl [0, 1, 5, 6] rfl)
              · have c5 : s9 < (max (us.getD i default).2.2.1.length (vs.getD i default).2.2.1.length) := Nat.not_le.mp (fun zz => c5 ((nI_leI (a := (max (us.getD i default).2.2.1.length (vs.getD i default).2.2.1.length)) (b := s9) (by omega) (by omega)).mpr zz))
                rw [if_pos c5] at hj
                refine lv_iload_n cx.x cx.b d_Bl_firstDifference_129 rfl (lv_at hl 0 rfl) ?_
                rw [← hQ]
                exact hx_reti cx.x cx.b cx.r cx.k rfl hlo (fun _ h => h) (Nat.le_of_ble_eq_true rfl) (Nat.le_of_ble_eq_true rfl) d_Bl_firstDifference_130 (⟨by rw [← hj], rfl⟩)
          · refine hx_callr (iv_Bl_31_Sf cx (c_Sf_get l hE gT.1 gT.sfd (nI i)) gT.1.1 rfl hl.1 rfl (Nat.le_of_ble_eq_true rfl) d_Bl_firstDifference_41 ⟨Nat.le_of_ble_eq_true rfl, Nat.le_of_ble_eq_true rfl⟩ ⟨Nat.le_of_ble_eq_true rfl, Nat.le_of_ble_eq_true rfl⟩) hlo (fun _ h => h) (fun r90 H89 locs hp88 hlo => ?_)
            obtain ⟨hp88, hH9⟩ := hp88
            have hH9 := hH9.symm
            subst hH9
            rw [nI_toInt (by omega), if_neg (fun z => by rw [List.length_map] at z; omega)] at hp88
            subst hp88
            refine lv_castN cx.x cx.b d_Bl_firstDifference_44 ?_
            rw [show vs.drop i = [] from List.drop_eq_nil_of_le (by omega)] at hj
            refine lv_astoreN (lv' := [(5, .null), (4, .ref ((us.getD i default).1.1.1)), (3, .int (nI i)), (2, .int (nI n9)), (0, .ref bl), (1, .ref bm)]) cx.x cx.b d_Bl_firstDifference_47 hl (by decide) rfl (fun ls hl => ?_)
            refine lv_aload cx.x cx.b d_Bl_firstDifference_49 (lv_at hl 1 rfl) ?_
            refine lv_ifnonnull (tgt := 61) cx.x cx.b d_Bl_firstDifference_51 (by decide) ?_
            refine lv_aload cx.x cx.b d_Bl_firstDifference_61 (lv_at hl 1 rfl) ?_
            refine lv_ifnull cx.x cx.b d_Bl_firstDifference_63 ?_
            refine lv_aloadN cx.x cx.b d_Bl_firstDifference_66 (lv_at hl 0 rfl) ?_
            refine lv_ifnullN (tgt := 81) cx.x cx.b d_Bl_firstDifference_68 (by decide) ?_
            refine lv_iload_n cx.x cx.b d_Bl_firstDifference_81 rfl (lv_at hl 3 rfl) ?_
            rw [← hQ]
            exact hx_reti cx.x cx.b cx.r cx.k rfl hlo (fun _ h => h) (Nat.le_of_ble_eq_true rfl) (Nat.le_of_ble_eq_true rfl) d_Bl_firstDifference_82 (⟨by rw [← hj]; rfl, rfl⟩)
        · refine hx_callr (iv_Bl_31_Sf cx (c_Sf_get l hE hT.1 hT.sfd (nI i)) hT.1.1 rfl hl.1 rfl (Nat.le_of_ble_eq_true rfl) d_Bl_firstDifference_28 ⟨Nat.le_of_ble_eq_true rfl, Nat.le_of_ble_eq_true rfl⟩ ⟨Nat.le_of_ble_eq_true rfl, Nat.le_of_ble_eq_true rfl⟩) hlo (fun _ h => h) (fun r93 H92 locs hp91 hlo => ?_)
          obtain ⟨hp91, hH9⟩ := hp91
          have hH9 := hH9.symm
          subst hH9
          rw [nI_toInt (by omega), if_neg (fun z => by rw [List.length_map] at z; omega)] at hp91
          subst hp91
          refine lv_castN cx.x cx.b d_Bl_firstDifference_31 ?_
          rw [show us.drop i = [] from List.drop_eq_nil_of_le (by omega)] at hj
          refine lv_astoreN (lv' := [(4, .null), (3, .int (nI i)), (2, .int (nI n9)), (0, .ref bl), (1, .ref bm)]) cx.x cx.b d_Bl_firstDifference_34 hl (by decide) rfl (fun ls hl => ?_)
          refine lv_aload_n cx.x cx.b d_Bl_firstDifference_36 rfl (lv_at hl 4 rfl) ?_
          refine gf_Bl_14_Bl cx g.1 rfl d_Bl_firstDifference_37 ?_
          refine lv_iload_n cx.x cx.b d_Bl_firstDifference_40 rfl (lv_at hl 1 rfl) ?_
          by_cases cb : i < vs.length
          · refine hx_callr (iv_Bl_31_Sf cx (c_Sf_get l hE gT.1 gT.sfd (nI i)) gT.1.1 rfl hl.1 rfl (Nat.le_of_ble_eq_true rfl) d_Bl_firstDifference_41 ⟨Nat.le_of_ble_eq_true rfl, Nat.le_of_ble_eq_true rfl⟩ ⟨Nat.le_of_ble_eq_true rfl, Nat.le_of_ble_eq_true rfl⟩) hlo (fun _ h => h) (fun r96 H95 locs hp94 hlo => ?_)
            obtain ⟨hp94, hH9⟩ := hp94
            have hH9 := hH9.symm
            subst hH9
            rw [nI_toInt (by omega), if_pos ⟨by omega, by rw [List.length_map]; omega⟩, show (i : Int).toNat = i from rfl, getD_mapT (by omega)] at hp94
            subst hp94
            have htyvs := gT.2.1 _ (List.mem_append_left _ (getD_memT (us := vs) (i := i) (by omega)))
            refine hx_castT cx tw_630 (htyvs.ob) d_Bl_firstDifference_44 ?_
            show W p l e _ s m args below meth c H locs _ _ _ (F0 m 47 ls [.ref ((vs.getD i default).1.1.1)])
            rw [drop_consT cb] at hj
            refine lv_astore (lv' := [(5, .ref ((vs.getD i default).1.1.1)), (4, .null), (3, .int (nI i)), (2, .int (nI n9)), (0, .ref bl), (1, .ref bm)]) cx.x cx.b d_Bl_firstDifference_47 hl (by decide) rfl (fun ls hl => ?_)
            refine lv_aloadN cx.x cx.b d_Bl_firstDifference_49 (lv_at hl 1 rfl) ?_
            refine lv_ifnonnullN cx.x cx.b d_Bl_firstDifference_51 ?_
            refine lv_aload cx.x cx.b d_Bl_firstDifference_54 (lv_at hl 0 rfl) ?_
            refine lv_ifnonnull (tgt := 61) cx.x cx.b d_Bl_firstDifference_56 (by decide) ?_
            refine lv_aloadN cx.x cx.b d_Bl_firstDifference_61 (lv_at hl 1 rfl) ?_
            refine lv_ifnullN (tgt := 81) cx.x cx.b d_Bl_firstDifference_63 (by decide) ?_
            refine lv_iload_n cx.x cx.b d_Bl_firstDifference_81 rfl (lv_at hl 3 rfl) ?_
            rw [← hQ]
            exact hx_reti cx.x cx.b cx.r cx.k rfl hlo (fun _ h => h) (Nat.le_of_ble_eq_true rfl) (Nat.le_of_ble_eq_true rfl) d_Bl_firstDifference_82 (⟨by rw [← hj]; rfl, rfl⟩)
          · refine hx_callr (iv_Bl_31_Sf cx (c_Sf_get l hE gT.1 gT.sfd (nI i)) gT.1.1 rfl hl.1 rfl (Nat.le_of_ble_eq_true rfl) d_Bl_firstDifference_41 ⟨Nat.le_of_ble_eq_true rfl, Nat.le_of_ble_eq_true rfl⟩ ⟨Nat.le_of_ble_eq_true rfl, Nat.le_of_ble_eq_true rfl⟩) hlo (fun _ h => h) (fun r99 H98 locs hp97 hlo => ?_)
            obtain ⟨hp97, hH9⟩ := hp97
            have hH9 := hH9.symm
            subst hH9
            rw [nI_toInt (by omega), if_neg (fun z => by rw [List.length_map] at z; omega)] at hp97
            subst hp97
            refine lv_castN cx.x cx.b d_Bl_firstDifference_44 ?_
            rw [show vs.drop i = [] from List.drop_eq_nil_of_le (by omega)] at hj
            refine lv_astoreN (lv' := [(5, .null), (4, .null), (3, .int (nI i)), (2, .int (nI n9)), (0, .ref bl), (1, .ref bm)]) cx.x cx.b d_Bl_firstDifference_47 hl (by decide) rfl (fun ls hl => ?_)
            refine lv_aloadN cx.x cx.b d_Bl_firstDifference_49 (lv_at hl 1 rfl) ?_
            refine lv_ifnonnullN cx.x cx.b d_Bl_firstDifference_51 ?_
            refine lv_aloadN cx.x cx.b d_Bl_firstDifference_54 (lv_at hl 0 rfl) ?_
            refine lv_ifnonnullN cx.x cx.b d_Bl_firstDifference_56 ?_
            refine lv_iconst (v := 0) cx.x cx.b d_Bl_firstDifference_59 (by decide) ?_
            rw [← hQ]
            exact hx_reti cx.x cx.b cx.r cx.k rfl hlo (fun _ h => h) (Nat.le_of_ble_eq_true rfl) (Nat.le_of_ble_eq_true rfl) d_Bl_firstDifference_60 (⟨by rw [← hj]; rfl, rfl⟩)
  refine lv_aload_n cx.x cx.b d_Bl_firstDifference_0 rfl (lv_at hl 0 rfl) ?_
  refine gf_Bl_20_Bl cx h.1 rfl d_Bl_firstDifference_1 ?_
  refine lv_aload_n cx.x cx.b d_Bl_firstDifference_4 rfl (lv_at hl 1 rfl) ?_
  refine gf_Bl_20_Bl cx g.1 rfl d_Bl_firstDifference_5 ?_
  refine lv_icmp_eq (tgt := 13) cx.x cx.b d_Bl_firstDifference_8 (by decide) (fun c1 => ?_) (fun c1 => ?_)
  · have c1 : fm = fn := (nI_eq (a := fm) (b := fn) (by omega) (by omega)).mp c1
    refine lv_iconst (v := 2) cx.x cx.b d_Bl_firstDifference_13 (by decide) ?_
    refine lv_istore_n (lv' := [(2, .int 2), (0, .ref bl), (1, .ref bm)]) cx.x cx.b d_Bl_firstDifference_14 rfl hl (by decide) rfl (fun ls hl => ?_)
    refine lv_iconst (v := 0) cx.x cx.b d_Bl_firstDifference_15 (by decide) ?_
    refine lv_istore_n (lv' := [(3, .int 0), (2, .int 2), (0, .ref bl), (1, .ref bm)]) cx.x cx.b d_Bl_firstDifference_16 rfl hl (by decide) rfl (fun ls hl => ?_)
    exact LP 13 _ 0 2 hlo (by omega) ⟨by omega, by omega⟩ c1 rfl _ hl
  · have c1 : fm ≠ fn := fun zz => c1 ((nI_eq (a := fm) (b := fn) (by omega) (by omega)).mpr zz)
    refine lv_iconst (v := 1) cx.x cx.b d_Bl_firstDifference_11 (by decide) ?_
    rw [← hQ]
    exact hx_reti cx.x cx.b cx.r cx.k rfl hlo (fun _ h => h) (Nat.le_of_ble_eq_true rfl) (Nat.le_of_ble_eq_true rfl) d_Bl_firstDifference_12 (⟨by rw [if_neg c1]; rfl, rfl⟩)

set_option maxHeartbeats 4000000 in
set_option maxRecDepth 100000 in
theorem c_Bl_linesMissingIn (l : Launch) {E : hE} (hE : EnvOk E) {H : Heap} {bl fm : Nat} {sa : SA} {us sp : List TV} (h : Bs E H bl fm sa us sp) {bm fn : Nat} {sb : SA} {vs sq : List TV} (g : Bs E H bm fn sb vs sq) : Ct l E y_Bl_linesMissingIn b_Bl_linesMissingIn 7 (some .int) (rmA 6 0 0) [.ref bl, .ref bm] H (hQi (fun r H1 => r = nI (lmT (decide (fm = fn)) vs us) ∧ H1 = H)) := by
  refine hx_enter hE (by decide) (Nat.le_of_ble_eq_true rfl) ?_
  intro p e s m args below meth c ls cx hnm hl
  have hl : lv_has ls 7 [(0, .ref bl), (1, .ref bm)] := hl
  have hlo : hLo (eB E) [] := hLo.nil
  generalize hQ : MQ below _ args s _ _ _ = Q
  have hT := h.2.2.2.1
  have gT := g.2.2.2.1
  have l1 := hT.2.2.2
  have l2 := gT.2.2.2
  have f1 := h.2.2.1
  have f2 := g.2.2.1
  obtain ⟨sf, hsf⟩ : ∃ sf : Bool, sf = decide (fm = fn) := ⟨_, rfl⟩
  rw [← hsf] at hQ
  have LP : ∀ (k : Nat) (locs : List Loc) (i n9 : Nat), hLo (eB E) locs → (us.length - i < k) → (i ≤ us.length ∧ n9 ≤ 9 * i) → (n9 + lmT sf vs (us.drop i) = lmT sf vs us) → ∀ ls, lv_has ls 7 [(4, .int (nI i)), (3, .int (nI n9)), (2, .int (bI sf)), (0, .ref bl), (1, .ref bm)] → W p l e (rmA 6 0 0) s m args below meth c H locs 0 0 Q (F0 m 22 ls []) := by
    intro k
    induction k with
    | zero => intro locs i n9 hlo hk hi hj; exact absurd hk (by omega)
    | succ k ih =>
      intro locs i n9 hlo hk hi hj ls hl
      refine lv_iload cx.x cx.b d_Bl_linesMissingIn_22 (lv_at hl 0 rfl) ?_
      refine lv_aload_n cx.x cx.b d_Bl_linesMissingIn_24 rfl (lv_at hl 3 rfl) ?_
      refine gf_Bl_14_Bl cx h.1 rfl d_Bl_linesMissingIn_25 ?_
      refine hx_calli (iv_Bl_27_Sf cx (c_Sf_count l hE hT.1) hT.1.1 rfl hl.1 rfl (Nat.le_of_ble_eq_true rfl) d_Bl_linesMissingIn_28 ⟨Nat.le_of_ble_eq_true rfl, Nat.le_of_ble_eq_true rfl⟩ ⟨Nat.le_of_ble_eq_true rfl, Nat.le_of_ble_eq_true rfl⟩) hlo (fun _ h => h) (fun r102 H101 locs hp100 hlo => ?_)
      obtain ⟨hp100, hH9⟩ := hp100
      have hH9 := hH9.symm
      subst hH9
      subst hp100
      rw [List.length_map]
      refine lv_icmp_ge (tgt := 103) cx.x cx.b d_Bl_linesMissingIn_31 (by decide) (fun c1 => ?_) (fun c1 => ?_)
      · have c1 : us.length ≤ i := (nI_leI (a := us.length) (b := i) (by omega) (by omega)).mp c1
        rw [List.drop_eq_nil_of_le c1] at hj
        refine lv_iload_n cx.x cx.b d_Bl_linesMissingIn_103 rfl (lv_at hl 1 rfl) ?_
        rw [← hQ]
        exact hx_reti cx.x cx.b cx.r cx.k rfl hlo (fun _ h => h) (Nat.le_of_ble_eq_true rfl) (Nat.le_of_ble_eq_true rfl) d_Bl_linesMissingIn_104 (⟨by rw [← hj]; rfl, rfl⟩)
      · have c1 : i < us.length := Nat.not_le.mp (fun zz => c1 ((nI_leI (a := us.length) (b := i) (by omega) (by omega)).mpr zz))
        rw [drop_consT c1] at hj
        refine lv_aload_n cx.x cx.b d_Bl_linesMissingIn_34 rfl (lv_at hl 3 rfl) ?_
        refine gf_Bl_14_Bl cx h.1 rfl d_Bl_linesMissingIn_35 ?_
        refine lv_iload cx.x cx.b d_Bl_linesMissingIn_38 (lv_at hl 0 rfl) ?_
        refine hx_callr (iv_Bl_31_Sf cx (c_Sf_get l hE hT.1 hT.sfd (nI i)) hT.1.1 rfl hl.1 rfl (Nat.le_of_ble_eq_true rfl) d_Bl_linesMissingIn_40 ⟨Nat.le_of_ble_eq_true rfl, Nat.le_of_ble_eq_true rfl⟩ ⟨Nat.le_of_ble_eq_true rfl, Nat.le_of_ble_eq_true rfl⟩) hlo (fun _ h => h) (fun r105 H104 locs hp103 hlo => ?_)
        obtain ⟨hp103, hH9⟩ := hp103
        have hH9 := hH9.symm
        subst hH9
        rw [nI_toInt (by omega), if_pos ⟨by omega, by rw [List.length_map]; omega⟩, show (i : Int).toNat = i from rfl, getD_mapT (by omega)] at hp103
        subst hp103
        have htyus := hT.2.1 _ (List.mem_append_left _ (getD_memT (us := us) (i := i) (by omega)))
        refine hx_castT cx tw_630 (htyus.ob) d_Bl_linesMissingIn_43 ?_
        show W p l e _ s m args below meth c H locs _ _ _ (F0 m 46 ls [.ref ((us.getD i default).1.1.1)])
        have hj : n9 + ((if slE sf (us.getD i default).1.2.2 ((nmd (us.getD i default).1.2.2.1 vs).map (·.1.2.2)) then 0 else 1) + (match nmd (us.getD i default).1.2.2.1 vs with | none => (us.getD i default).2.2.1.length | some u => mmL sf u.2.2.1 (us.getD i default).2.2.1) + lmT sf vs (us.drop (i + 1))) = lmT sf vs us := hj
        have lm1 := htyus.2.2.1.2.2.2
        refine lv_astore (lv' := [(5, .ref ((us.getD i default).1.1.1)), (4, .int (nI i)), (3, .int (nI n9)), (2, .int (bI sf)), (0, .ref bl), (1, .ref bm)]) cx.x cx.b d_Bl_linesMissingIn_46 hl (by decide) rfl (fun ls hl => ?_)
        refine lv_aload cx.x cx.b d_Bl_linesMissingIn_48 (lv_at hl 0 rfl) ?_
        refine lv_ifnull cx.x cx.b d_Bl_linesMissingIn_50 ?_
        refine lv_aload_n cx.x cx.b d_Bl_linesMissingIn_53 rfl (lv_at hl 5 rfl) ?_
        refine lv_aload cx.x cx.b d_Bl_linesMissingIn_54 (lv_at hl 0 rfl) ?_
        refine gf_Bl_37_Tp cx htyus.ob rfl d_Bl_linesMissingIn_56 ?_
        refine hx_callr (iv_Bl_100_Bl cx (c_Bl_named l hE g htyus.1.2.1) g.1 rfl hl.1 rfl (Nat.le_of_ble_eq_true rfl) d_Bl_linesMissingIn_59 ⟨Nat.le_of_ble_eq_true rfl, Nat.le_of_ble_eq_true rfl⟩ ⟨Nat.le_of_ble_eq_true rfl, Nat.le_of_ble_eq_true rfl⟩) hlo (fun _ h => h) (fun r108 H107 locs hp106 hlo => ?_)
        obtain ⟨hp106, hH9⟩ := hp106
        have hH9 := hH9.symm
        subst hH9
        subst hp106
        cases hnm9 : nmd (us.getD i default).1.2.2.1 vs
        · rw [hnm9] at hj
          show W p l e _ s m args below meth c H locs _ _ _ (F0 m 62 ls [.null])
          have hj : n9 + ((if slE sf (us.getD i default).1.2.2 none then 0 else 1) + (us.getD i default).2.2.1.length + lmT sf vs (us.drop (i + 1))) = lmT sf vs us := hj
          refine lv_astoreN (lv' := [(6, .null), (5, .ref ((us.getD i default).1.1.1)), (4, .int (nI i)), (3, .int (nI n9)), (2, .int (bI sf)), (0, .ref bl), (1, .ref bm)]) cx.x cx.b d_Bl_linesMissingIn_62 hl (by decide) rfl (fun ls hl => ?_)
          refine lv_iload_n cx.x cx.b d_Bl_linesMissingIn_64 rfl (lv_at hl 3 rfl) ?_
          refine lv_aload cx.x cx.b d_Bl_linesMissingIn_65 (lv_at hl 1 rfl) ?_
          refine lv_aloadN cx.x cx.b d_Bl_linesMissingIn_67 (lv_at hl 0 rfl) ?_
          refine lv_iload_n cx.x cx.b d_Bl_linesMissingIn_69 rfl (lv_at hl 4 rfl) ?_
          refine hx_calli (iv_Bl_104 cx (c_Bl_isSameLine0 l hE htyus.1 sf) rfl hl.1 rfl (Nat.le_of_ble_eq_true rfl) d_Bl_linesMissingIn_70 ⟨Nat.le_of_ble_eq_true rfl, Nat.le_of_ble_eq_true rfl⟩ ⟨Nat.le_of_ble_eq_true rfl, Nat.le_of_ble_eq_true rfl⟩) hlo (fun _ h => h) (fun r111 H110 locs hp109 hlo => ?_)
          obtain ⟨hp109, hH9⟩ := hp109
          have hH9 := hH9.symm
          subst hH9
          subst hp109
          have hmml : (us.getD i default).2.2.1.length ≤ 8 := by omega
          cases hsl : slE sf (us.getD i default).1.2.2 none
          · rw [hsl] at hj
            refine lv_if_eq (tgt := 80) cx.x cx.b d_Bl_linesMissingIn_73 (by decide) (fun _ => ?_) (fun c => absurd (by decide) c)
            refine lv_iconst (v := 1) cx.x cx.b d_Bl_linesMissingIn_80 (by decide) ?_
            refine lv_iadd cx.x cx.b d_Bl_linesMissingIn_81 ?_
            refine lv_topi (fun x112 e_x112 => ?_)
            have e_x112 : x112 = nI (n9 + 1) := e_x112.trans (nI_add n9 1)
            subst e_x112
            refine lv_istore_n (lv' := [(3, .int (nI (n9 + 1))), (6, .null), (5, .ref ((us.getD i default).1.1.1)), (4, .int (nI i)), (2, .int (bI sf)), (0, .ref bl), (1, .ref bm)]) cx.x cx.b d_Bl_linesMissingIn_82 rfl hl (by decide) rfl (fun ls hl => ?_)
            refine lv_iload_n cx.x cx.b d_Bl_linesMissingIn_83 rfl (lv_at hl 0 rfl) ?_
            refine lv_aloadN cx.x cx.b d_Bl_linesMissingIn_84 (lv_at hl 1 rfl) ?_
            refine lv_aload cx.x cx.b d_Bl_linesMissingIn_86 (lv_at hl 2 rfl) ?_
            refine gf_Bl_56_Tp cx htyus.ob rfl d_Bl_linesMissingIn_88 ?_
            refine lv_iload_n cx.x cx.b d_Bl_linesMissingIn_91 rfl (lv_at hl 4 rfl) ?_
            refine hx_calli (iv_Bl_108 cx (c_Bl_membersMissingIn0 l hE htyus.2.2.1 sf) rfl hl.1 rfl (Nat.le_of_ble_eq_true rfl) d_Bl_linesMissingIn_92 ⟨Nat.le_of_ble_eq_true rfl, Nat.le_of_ble_eq_true rfl⟩ ⟨Nat.le_of_ble_eq_true rfl, Nat.le_of_ble_eq_true rfl⟩) hlo (fun _ h => h) (fun r115 H114 locs hp113 hlo => ?_)
            obtain ⟨hp113, hH9⟩ := hp113
            have hH9 := hH9.symm
            subst hH9
            subst hp113
            refine lv_iadd cx.x cx.b d_Bl_linesMissingIn_95 ?_
            refine lv_topi (fun x116 e_x116 => ?_)
            have e_x116 : x116 = nI (n9 + 1 + ((us.getD i default).2.2.1.length)) := e_x116.trans (nI_add (n9 + 1) ((us.getD i default).2.2.1.length))
            subst e_x116
            refine lv_istore_n (lv' := [(3, .int (nI (n9 + 1 + ((us.getD i default).2.2.1.length)))), (6, .null), (5, .ref ((us.getD i default).1.1.1)), (4, .int (nI i)), (2, .int (bI sf)), (0, .ref bl), (1, .ref bm)]) cx.x cx.b d_Bl_linesMissingIn_96 rfl hl (by decide) rfl (fun ls hl => ?_)
            obtain ⟨x117, e_x117⟩ : ∃ y : Int32, y = nI i + 1 := ⟨_, rfl⟩
            refine lv_iinc (v := x117) (lv' := [(4, .int x117), (3, .int (nI (n9 + 1 + ((us.getD i default).2.2.1.length)))), (6, .null), (5, .ref ((us.getD i default).1.1.1)), (2, .int (bI sf)), (0, .ref bl), (1, .ref bm)]) cx.x cx.b d_Bl_linesMissingIn_97 hl (k := 3) rfl (by rw [e_x117]; rfl) (by decide) rfl (fun ls hl => ?_)
            refine lv_goto (tgt := 22) cx.x cx.b d_Bl_linesMissingIn_100 (by decide) ?_
            rw [nI_1] at e_x117
            subst e_x117
            exact ih _ (i + 1) (n9 + 1 + ((us.getD i default).2.2.1.length)) hlo (by omega) ⟨by omega, by omega⟩ (by rw [← hj]; rw [if_neg (by decide)]; omega) _ (lv_sub hl [0, 1, 4, 5, 6] rfl)
          · rw [hsl] at hj
            refine lv_if_eq (tgt := 80) cx.x cx.b d_Bl_linesMissingIn_73 (by decide) (fun c => absurd c (by decide)) (fun _ => ?_)
            refine lv_iconst (v := 0) cx.x cx.b d_Bl_linesMissingIn_76 (by decide) ?_
            refine lv_goto (tgt := 81) cx.x cx.b d_Bl_linesMissingIn_77 (by decide) ?_
            refine lv_iadd cx.x cx.b d_Bl_linesMissingIn_81 ?_
            refine lv_topi (fun x118 e_x118 => ?_)
            have e_x118 : x118 = nI (n9 + 0) := e_x118.trans (nI_add n9 0)
            subst e_x118
            refine lv_istore_n (lv' := [(3, .int (nI (n9 + 0))), (6, .null), (5, .ref ((us.getD i default).1.1.1)), (4, .int (nI i)), (2, .int (bI sf)), (0, .ref bl), (1, .ref bm)]) cx.x cx.b d_Bl_linesMissingIn_82 rfl hl (by decide) rfl (fun ls hl => ?_)
            refine lv_iload_n cx.x cx.b d_Bl_linesMissingIn_83 rfl (lv_at hl 0 rfl) ?_
            refine lv_aloadN cx.x cx.b d_Bl_linesMissingIn_84 (lv_at hl 1 rfl) ?_
            refine lv_aload cx.x cx.b d_Bl_linesMissingIn_86 (lv_at hl 2 rfl) ?_
            refine gf_Bl_56_Tp cx htyus.ob rfl d_Bl_linesMissingIn_88 ?_
            refine lv_iload_n cx.x cx.b d_Bl_linesMissingIn_91 rfl (lv_at hl 4 rfl) ?_
            refine hx_calli (iv_Bl_108 cx (c_Bl_membersMissingIn0 l hE htyus.2.2.1 sf) rfl hl.1 rfl (Nat.le_of_ble_eq_true rfl) d_Bl_linesMissingIn_92 ⟨Nat.le_of_ble_eq_true rfl, Nat.le_of_ble_eq_true rfl⟩ ⟨Nat.le_of_ble_eq_true rfl, Nat.le_of_ble_eq_true rfl⟩) hlo (fun _ h => h) (fun r121 H120 locs hp119 hlo => ?_)
            obtain ⟨hp119, hH9⟩ := hp119
            have hH9 := hH9.symm
            subst hH9
            subst hp119
            refine lv_iadd cx.x cx.b d_Bl_linesMissingIn_95 ?_
            refine lv_topi (fun x122 e_x122 => ?_)
            have e_x122 : x122 = nI (n9 + 0 + ((us.getD i default).2.2.1.length)) := e_x122.trans (nI_add (n9 + 0) ((us.getD i default).2.2.1.length))
            subst e_x122
            refine lv_istore_n (lv' := [(3, .int (nI (n9 + 0 + ((us.getD i default).2.2.1.length)))), (6, .null), (5, .ref ((us.getD i default).1.1.1)), (4, .int (nI i)), (2, .int (bI sf)), (0, .ref bl), (1, .ref bm)]) cx.x cx.b d_Bl_linesMissingIn_96 rfl hl (by decide) rfl (fun ls hl => ?_)
            obtain ⟨x123, e_x123⟩ : ∃ y : Int32, y = nI i + 1 := ⟨_, rfl⟩
            refine lv_iinc (v := x123) (lv' := [(4, .int x123), (3, .int (nI (n9 + 0 + ((us.getD i default).2.2.1.length)))), (6, .null), (5, .ref ((us.getD i default).1.1.1)), (2, .int (bI sf)), (0, .ref bl), (1, .ref bm)]) cx.x cx.b d_Bl_linesMissingIn_97 hl (k := 3) rfl (by rw [e_x123]; rfl) (by decide) rfl (fun ls hl => ?_)
            refine lv_goto (tgt := 22) cx.x cx.b d_Bl_linesMissingIn_100 (by decide) ?_
            rw [nI_1] at e_x123
            subst e_x123
            exact ih _ (i + 1) (n9 + 0 + ((us.getD i default).2.2.1.length)) hlo (by omega) ⟨by omega, by omega⟩ (by rw [← hj]; rw [if_pos rfl]; omega) _ (lv_sub hl [0, 1, 4, 5, 6] rfl)
        · rename_i t9
          rw [hnm9] at hj
          have hty9 := gT.2.1 _ (List.mem_append_left _ (nmd_mem hnm9))
          show W p l e _ s m args below meth c H locs _ _ _ (F0 m 62 ls [.ref ((t9).1.1.1)])
          have hj : n9 + ((if slE sf (us.getD i default).1.2.2 (some t9.1.2.2) then 0 else 1) + mmL sf t9.2.2.1 (us.getD i default).2.2.1 + lmT sf vs (us.drop (i + 1))) = lmT sf vs us := hj
          refine lv_astore (lv' := [(6, .ref ((t9).1.1.1)), (5, .ref ((us.getD i default).1.1.1)), (4, .int (nI i)), (3, .int (nI n9)), (2, .int (bI sf)), (0, .ref bl), (1, .ref bm)]) cx.x cx.b d_Bl_linesMissingIn_62 hl (by decide) rfl (fun ls hl => ?_)
          refine lv_iload_n cx.x cx.b d_Bl_linesMissingIn_64 rfl (lv_at hl 3 rfl) ?_
          refine lv_aload cx.x cx.b d_Bl_linesMissingIn_65 (lv_at hl 1 rfl) ?_
          refine lv_aload cx.x cx.b d_Bl_linesMissingIn_67 (lv_at hl 0 rfl) ?_
          refine lv_iload_n cx.x cx.b d_Bl_linesMissingIn_69 rfl (lv_at hl 4 rfl) ?_
          refine hx_calli (iv_Bl_104 cx (c_Bl_isSameLine1 l hE htyus.1 hty9.1 sf) rfl hl.1 rfl (Nat.le_of_ble_eq_true rfl) d_Bl_linesMissingIn_70 ⟨Nat.le_of_ble_eq_true rfl, Nat.le_of_ble_eq_true rfl⟩ ⟨Nat.le_of_ble_eq_true rfl, Nat.le_of_ble_eq_true rfl⟩) hlo (fun _ h => h) (fun r126 H125 locs hp124 hlo => ?_)
          obtain ⟨hp124, hH9⟩ := hp124
          have hH9 := hH9.symm
          subst hH9
          subst hp124
          have hmml : mmL sf t9.2.2.1 (us.getD i default).2.2.1 ≤ 8 := by have := mmL_le sf t9.2.2.1 (us.getD i default).2.2.1; omega
          cases hsl : slE sf (us.getD i default).1.2.2 (some t9.1.2.2)
          · rw [hsl] at hj
            refine lv_if_eq (tgt := 80) cx.x cx.b d_Bl_linesMissingIn_73 (by decide) (fun _ => ?_) (fun c => absurd (by decide) c)
            refine lv_iconst (v := 1) cx.x cx.b d_Bl_linesMissingIn_80 (by decide) ?_
            refine lv_iadd cx.x cx.b d_Bl_linesMissingIn_81 ?_
            refine lv_topi (fun x127 e_x127 => ?_)
            have e_x127 : x127 = nI (n9 + 1) := e_x127.trans (nI_add n9 1)
            subst e_x127
            refine lv_istore_n (lv' := [(3, .int (nI (n9 + 1))), (6, .ref ((t9).1.1.1)), (5, .ref ((us.getD i default).1.1.1)), (4, .int (nI i)), (2, .int (bI sf)), (0, .ref bl), (1, .ref bm)]) cx.x cx.b d_Bl_linesMissingIn_82 rfl hl (by decide) rfl (fun ls hl => ?_)
            refine lv_iload_n cx.x cx.b d_Bl_linesMissingIn_83 rfl (lv_at hl 0 rfl) ?_
            refine lv_aload cx.x cx.b d_Bl_linesMissingIn_84 (lv_at hl 1 rfl) ?_
            refine lv_aload cx.x cx.b d_Bl_linesMissingIn_86 (lv_at hl 2 rfl) ?_
            refine gf_Bl_56_Tp cx htyus.ob rfl d_Bl_linesMissingIn_88 ?_
            refine lv_iload_n cx.x cx.b d_Bl_linesMissingIn_91 rfl (lv_at hl 4 rfl) ?_
            refine hx_calli (iv_Bl_108 cx (c_Bl_membersMissingIn1 l hE htyus.2.2.1 hty9 sf) rfl hl.1 rfl (Nat.le_of_ble_eq_true rfl) d_Bl_linesMissingIn_92 ⟨Nat.le_of_ble_eq_true rfl, Nat.le_of_ble_eq_true rfl⟩ ⟨Nat.le_of_ble_eq_true rfl, Nat.le_of_ble_eq_true rfl⟩) hlo (fun _ h => h) (fun r130 H129 locs hp128 hlo => ?_)
            obtain ⟨hp128, hH9⟩ := hp128
            have hH9 := hH9.symm
            subst hH9
            subst hp128
            refine lv_iadd cx.x cx.b d_Bl_linesMissingIn_95 ?_
            refine lv_topi (fun x131 e_x131 => ?_)
            have e_x131 : x131 = nI (n9 + 1 + (mmL sf t9.2.2.1 (us.getD i default).2.2.1)) := e_x131.trans (nI_add (n9 + 1) (mmL sf t9.2.2.1 (us.getD i default).2.2.1))
            subst e_x131
            refine lv_istore_n (lv' := [(3, .int (nI (n9 + 1 + (mmL sf t9.2.2.1 (us.getD i default).2.2.1)))), (6, .ref ((t9).1.1.1)), (5, .ref ((us.getD i default).1.1.1)), (4, .int (nI i)), (2, .int (bI sf)), (0, .ref bl), (1, .ref bm)]) cx.x cx.b d_Bl_linesMissingIn_96 rfl hl (by decide) rfl (fun ls hl => ?_)
            obtain ⟨x132, e_x132⟩ : ∃ y : Int32, y = nI i + 1 := ⟨_, rfl⟩
            refine lv_iinc (v := x132) (lv' := [(4, .int x132), (3, .int (nI (n9 + 1 + (mmL sf t9.2.2.1 (us.getD i default).2.2.1)))), (6, .ref ((t9).1.1.1)), (5, .ref ((us.getD i default).1.1.1)), (2, .int (bI sf)), (0, .ref bl), (1, .ref bm)]) cx.x cx.b d_Bl_linesMissingIn_97 hl (k := 3) rfl (by rw [e_x132]; rfl) (by decide) rfl (fun ls hl => ?_)
            refine lv_goto (tgt := 22) cx.x cx.b d_Bl_linesMissingIn_100 (by decide) ?_
            rw [nI_1] at e_x132
            subst e_x132
            exact ih _ (i + 1) (n9 + 1 + (mmL sf t9.2.2.1 (us.getD i default).2.2.1)) hlo (by omega) ⟨by omega, by omega⟩ (by rw [← hj]; rw [if_neg (by decide)]; omega) _ (lv_sub hl [0, 1, 4, 5, 6] rfl)
          · rw [hsl] at hj
            refine lv_if_eq (tgt := 80) cx.x cx.b d_Bl_linesMissingIn_73 (by decide) (fun c => absurd c (by decide)) (fun _ => ?_)
            refine lv_iconst (v := 0) cx.x cx.b d_Bl_linesMissingIn_76 (by decide) ?_
            refine lv_goto (tgt := 81) cx.x cx.b d_Bl_linesMissingIn_77 (by decide) ?_
            refine lv_iadd cx.x cx.b d_Bl_linesMissingIn_81 ?_
            refine lv_topi (fun x133 e_x133 => ?_)
            have e_x133 : x133 = nI (n9 + 0) := e_x133.trans (nI_add n9 0)
            subst e_x133
            refine lv_istore_n (lv' := [(3, .int (nI (n9 + 0))), (6, .ref ((t9).1.1.1)), (5, .ref ((us.getD i default).1.1.1)), (4, .int (nI i)), (2, .int (bI sf)), (0, .ref bl), (1, .ref bm)]) cx.x cx.b d_Bl_linesMissingIn_82 rfl hl (by decide) rfl (fun ls hl => ?_)
            refine lv_iload_n cx.x cx.b d_Bl_linesMissingIn_83 rfl (lv_at hl 0 rfl) ?_
            refine lv_aload cx.x cx.b d_Bl_linesMissingIn_84 (lv_at hl 1 rfl) ?_
            refine lv_aload cx.x cx.b d_Bl_linesMissingIn_86 (lv_at hl 2 rfl) ?_
            refine gf_Bl_56_Tp cx htyus.ob rfl d_Bl_linesMissingIn_88 ?_
            refine lv_iload_n cx.x cx.b d_Bl_linesMissingIn_91 rfl (lv_at hl 4 rfl) ?_
            refine hx_calli (iv_Bl_108 cx (c_Bl_membersMissingIn1 l hE htyus.2.2.1 hty9 sf) rfl hl.1 rfl (Nat.le_of_ble_eq_true rfl) d_Bl_linesMissingIn_92 ⟨Nat.le_of_ble_eq_true rfl, Nat.le_of_ble_eq_true rfl⟩ ⟨Nat.le_of_ble_eq_true rfl, Nat.le_of_ble_eq_true rfl⟩) hlo (fun _ h => h) (fun r136 H135 locs hp134 hlo => ?_)
            obtain ⟨hp134, hH9⟩ := hp134
            have hH9 := hH9.symm
            subst hH9
            subst hp134
            refine lv_iadd cx.x cx.b d_Bl_linesMissingIn_95 ?_
            refine lv_topi (fun x137 e_x137 => ?_)
            have e_x137 : x137 = nI (n9 + 0 + (mmL sf t9.2.2.1 (us.getD i default).2.2.1)) := e_x137.trans (nI_add (n9 + 0) (mmL sf t9.2.2.1 (us.getD i default).2.2.1))
            subst e_x137
            refine lv_istore_n (lv' := [(3, .int (nI (n9 + 0 + (mmL sf t9.2.2.1 (us.getD i default).2.2.1)))), (6, .ref ((t9).1.1.1)), (5, .ref ((us.getD i default).1.1.1)), (4, .int (nI i)), (2, .int (bI sf)), (0, .ref bl), (1, .ref bm)]) cx.x cx.b d_Bl_linesMissingIn_96 rfl hl (by decide) rfl (fun ls hl => ?_)
            obtain ⟨x138, e_x138⟩ : ∃ y : Int32, y = nI i + 1 := ⟨_, rfl⟩
            refine lv_iinc (v := x138) (lv' := [(4, .int x138), (3, .int (nI (n9 + 0 + (mmL sf t9.2.2.1 (us.getD i default).2.2.1)))), (6, .ref ((t9).1.1.1)), (5, .ref ((us.getD i default).1.1.1)), (2, .int (bI sf)), (0, .ref bl), (1, .ref bm)]) cx.x cx.b d_Bl_linesMissingIn_97 hl (k := 3) rfl (by rw [e_x138]; rfl) (by decide) rfl (fun ls hl => ?_)
            refine lv_goto (tgt := 22) cx.x cx.b d_Bl_linesMissingIn_100 (by decide) ?_
            rw [nI_1] at e_x138
            subst e_x138
            exact ih _ (i + 1) (n9 + 0 + (mmL sf t9.2.2.1 (us.getD i default).2.2.1)) hlo (by omega) ⟨by omega, by omega⟩ (by rw [← hj]; rw [if_pos rfl]; omega) _ (lv_sub hl [0, 1, 4, 5, 6] rfl)
  refine lv_aload_n cx.x cx.b d_Bl_linesMissingIn_0 rfl (lv_at hl 0 rfl) ?_
  refine gf_Bl_20_Bl cx h.1 rfl d_Bl_linesMissingIn_1 ?_
  refine lv_aload_n cx.x cx.b d_Bl_linesMissingIn_4 rfl (lv_at hl 1 rfl) ?_
  refine gf_Bl_20_Bl cx g.1 rfl d_Bl_linesMissingIn_5 ?_
  refine lv_icmp_ne (tgt := 15) cx.x cx.b d_Bl_linesMissingIn_8 (by decide) (fun c1 => ?_) (fun c1 => ?_)
  · have c1 : fm ≠ fn := fun zz => c1 ((nI_eq (a := fm) (b := fn) (by omega) (by omega)).mpr zz)
    have es : sf = false := hsf.trans (decide_eq_false c1)
    subst es
    refine lv_iconst (v := 0) cx.x cx.b d_Bl_linesMissingIn_15 (by decide) ?_
    refine lv_istore_n (lv' := [(2, .int 0), (0, .ref bl), (1, .ref bm)]) cx.x cx.b d_Bl_linesMissingIn_16 rfl hl (by decide) rfl (fun ls hl => ?_)
    refine lv_iconst (v := 0) cx.x cx.b d_Bl_linesMissingIn_17 (by decide) ?_
    refine lv_istore_n (lv' := [(3, .int 0), (2, .int 0), (0, .ref bl), (1, .ref bm)]) cx.x cx.b d_Bl_linesMissingIn_18 rfl hl (by decide) rfl (fun ls hl => ?_)
    refine lv_iconst (v := 0) cx.x cx.b d_Bl_linesMissingIn_19 (by decide) ?_
    refine lv_istore (lv' := [(4, .int 0), (3, .int 0), (2, .int 0), (0, .ref bl), (1, .ref bm)]) cx.x cx.b d_Bl_linesMissingIn_20 hl (by decide) rfl (fun ls hl => ?_)
    exact LP (us.length + 1) _ 0 0 hlo (by omega) ⟨Nat.zero_le _, Nat.le_refl _⟩ (by rw [List.drop_zero, Nat.zero_add]) _ hl
  · have c1 : fm = fn := (nI_eq (a := fm) (b := fn) (by omega) (by omega)).mp c1
    have es : sf = true := hsf.trans (decide_eq_true c1)
    subst es
    refine lv_iconst (v := 1) cx.x cx.b d_Bl_linesMissingIn_11 (by decide) ?_
    refine lv_goto (tgt := 16) cx.x cx.b d_Bl_linesMissingIn_12 (by decide) ?_
    refine lv_istore_n (lv' := [(2, .int 1), (0, .ref bl), (1, .ref bm)]) cx.x cx.b d_Bl_linesMissingIn_16 rfl hl (by decide) rfl (fun ls hl => ?_)
    refine lv_iconst (v := 0) cx.x cx.b d_Bl_linesMissingIn_17 (by decide) ?_
    refine lv_istore_n (lv' := [(3, .int 0), (2, .int 1), (0, .ref bl), (1, .ref bm)]) cx.x cx.b d_Bl_linesMissingIn_18 rfl hl (by decide) rfl (fun ls hl => ?_)
    refine lv_iconst (v := 0) cx.x cx.b d_Bl_linesMissingIn_19 (by decide) ?_
    refine lv_istore (lv' := [(4, .int 0), (3, .int 0), (2, .int 1), (0, .ref bl), (1, .ref bm)]) cx.x cx.b d_Bl_linesMissingIn_20 hl (by decide) rfl (fun ls hl => ?_)
    exact LP (us.length + 1) _ 0 0 hlo (by omega) ⟨Nat.zero_le _, Nat.le_refl _⟩ (by rw [List.drop_zero, Nat.zero_add]) _ hl
