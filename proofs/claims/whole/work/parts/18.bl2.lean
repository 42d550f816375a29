set_option maxHeartbeats 4000000 in
set_option maxRecDepth 100000 in
theorem c_Bl_addType (l : Launch) {E : hE} (hE : EnvOk E) (hL : EnvL E) {H : Heap} {bl fm : Nat} {sa : SA} {us sp : List TV} (hb : hOb (eD E) classes H bl 5 [.ref sa.1, .int (nI fm)]) (hT : TSh E H sa us sp) (hbl : bl ∉ fpH E sa us sp) (hO : Old E H) {bd : DA} {bw : Option Nat} {dw : DV} {p1 p2 : Bool} (g : Dc E H bd bw dw p1 p2) (hap : ∀ q, dcS bd q → q ∉ fpH E sa us sp) (h12 : us.length < 12) : Ct l E y_Bl_addType b_Bl_addType 4 (some (.object "BaselineText$Type")) (rmA 8 8 72) [.ref bl, .ref bd.1] H (hQr (fun r H1 => ∃ (sa2 : SA) (t2 : TV) (sp2 : List TV), r = some (tad t2) ∧ TSh E H1 sa2 (insT us t2) sp2 ∧ t2.1.2.2 = dw ∧ t2.2.2.1 = [] ∧ sa2.1 = sa.1 ∧ (∀ q ∈ fpH E sa2 (insT us t2) sp2, q ∈ fpH E sa us sp ∨ H.size ≤ q) ∧ hCh (fun q => q ∈ fpH E sa us sp) H H1 ∧ H1.size ≤ H.size + 8)) := by
  refine hx_enter hE (by decide) (Nat.le_of_ble_eq_true rfl) ?_
  intro p e s m args below meth c ls cx hnm hl
  have hl : lv_has ls 4 [(0, .ref bl), (1, .ref bd.1)] := hl
  have hlo : hLo (eB E) [] := hLo.nil
  generalize hQ : MQ below _ args s _ _ _ = Q
  have hsf := hT.1
  have hlen := hT.2.2.2
  have hnd := hT.2.2.1
  have hltM := hT.lt hL
  have hsaS : ∀ q, sfS E sa q → q ∈ fpH E sa us sp := fun q hq => List.mem_append_left _ (fpSA_sf.mpr hq)
  rcases sp with _ | ⟨t0, sp1⟩
  · refine lv_aload_n cx.x cx.b d_Bl_addType_0 rfl (lv_at hl 0 rfl) ?_
    refine gf_Bl_14_Bl cx hb rfl d_Bl_addType_1 ?_
    refine hx_callr (iv_Bl_47_Sf cx (c_Sf_takeSpare0 l hE hsf) hsf.1 rfl hl.1 rfl (Nat.le_of_ble_eq_true rfl) d_Bl_addType_4 ⟨Nat.le_of_ble_eq_true rfl, Nat.le_of_ble_eq_true rfl⟩ ⟨Nat.le_of_ble_eq_true rfl, Nat.le_of_ble_eq_true rfl⟩) hlo (fun _ h => h) (fun r68 H67 locs hp66 hlo => ?_)
    obtain ⟨hp66, hH9⟩ := hp66
    have hH9 := hH9.symm
    subst hH9
    subst hp66
    refine lv_castN cx.x cx.b d_Bl_addType_7 ?_
    refine lv_astore_nN (lv' := [(2, .null), (0, .ref bl), (1, .ref bd.1)]) cx.x cx.b d_Bl_addType_10 rfl hl (by decide) rfl (fun ls hl => ?_)
    refine lv_aload_nN cx.x cx.b d_Bl_addType_11 rfl (lv_at hl 0 rfl) ?_
    refine lv_ifnonnullN cx.x cx.b d_Bl_addType_12 ?_
    refine nw_Bl_35 cx (Nat.le_of_ble_eq_true rfl) (Nat.le_of_ble_eq_true rfl) d_Bl_addType_15 (fun H69 hn70 z_H69 o_H69 => ?_)
    refine lv_dup cx.x cx.b d_Bl_addType_18 rfl ?_
    have k1 : hCh (fun _ => False) H H69 := hCh.new z_H69 o_H69
    have hO1 := hO.ch k1 (fun q e => e.elim)
    refine hx_callv (iv_Bl_51 cx (c_Tp_init l hE hL (H := H69) (a := H.size) hn70 hO.1 hO1) rfl hl.1 rfl (Nat.le_of_ble_eq_true rfl) d_Bl_addType_19 ⟨Nat.le_of_ble_eq_true rfl, Nat.le_of_ble_eq_true rfl⟩ ⟨Nat.le_of_ble_eq_true rfl, Nat.le_of_ble_eq_true rfl⟩) hlo (fun _ h => h) (fun H72 locs hp71 hlo => ?_)
    obtain ⟨i1, i2, i3⟩ := hp71
    have e1 : H69.size = H.size + 1 := z_H69
    rw [e1] at i1 i3
    obtain ⟨T, hTe⟩ : ∃ T : TV, T = ((((H.size, (H.size + 1), (H.size + 1) + 1, (H.size + 1) + 2, (H.size + 1) + 3), some ((H.size + 1) + 4), ([], [], 0, 0)), ((H.size + 1) + 4, (H.size + 1) + 5, eK E 100, 0), [], []) : TV) := ⟨_, rfl⟩
    rw [← hTe] at i1
    have hge : ∀ q ∈ fpT E T, H.size ≤ q := fun q hq => by
      rw [hTe] at hq
      unfold fpT fpM fpSA fpA fpDs at hq
      rw [if_neg (Nat.not_le.mpr hL.1)] at hq
      simp only [fpD, List.mem_append, List.mem_cons, List.not_mem_nil, or_false, List.nil_append, List.append_nil, List.flatMap_nil] at hq
      omega
    have hTa : T.1.1.1 = H.size := by rw [hTe]
    have k2 : hCh (fun q => H.size ≤ q) H H72 := (k1.mono (fun _ _ h => h.elim)).tr (i2.mono (fun q _ h => Nat.le_of_eq h.symm))
    have hcap : ∀ q, dcS bd q → ¬ dcS T.1.1 q := fun q hq h => absurd (g.lt q hq) (by have := hge q (List.mem_append_left _ (fpD_dc.mpr h)); omega)
    rw [← hTa]
    have g2 := g.ch k2 (fun q hq h => absurd (g.lt q hq) (by omega))
    refine lv_goto (tgt := 26) cx.x cx.b d_Bl_addType_22 (by decide) ?_
    refine lv_astore_n (lv' := [(3, .ref ((T).1.1.1)), (2, .null), (0, .ref bl), (1, .ref bd.1)]) cx.x cx.b d_Bl_addType_26 rfl hl (by decide) rfl (fun ls hl => ?_)
    refine lv_aload_n cx.x cx.b d_Bl_addType_27 rfl (lv_at hl 0 rfl) ?_
    refine lv_aload_n cx.x cx.b d_Bl_addType_28 rfl (lv_at hl 3 rfl) ?_
    refine hx_callv (iv_Bl_52_Tp cx (c_Dc_copy l hE i1.1 g2 (hcap)) i1.ob rfl hl.1 rfl (Nat.le_of_ble_eq_true rfl) d_Bl_addType_29 ⟨Nat.le_of_ble_eq_true rfl, Nat.le_of_ble_eq_true rfl⟩ ⟨Nat.le_of_ble_eq_true rfl, Nat.le_of_ble_eq_true rfl⟩) hlo (fun _ h => h) (fun H74 locs hp73 hlo => ?_)
    obtain ⟨c1, c2, c3⟩ := hp73
    have ty3 := i1.copy c1 c2
    refine lv_aload_n cx.x cx.b d_Bl_addType_32 rfl (lv_at hl 0 rfl) ?_
    refine gf_Bl_56_Tp cx ty3.ob rfl d_Bl_addType_33 ?_
    refine hx_callv (iv_Bl_24_Sf cx (c_Sf_empty l hE ty3.2.2.1.1) ty3.2.2.1.1.1 rfl hl.1 rfl (Nat.le_of_ble_eq_true rfl) d_Bl_addType_36 ⟨Nat.le_of_ble_eq_true rfl, Nat.le_of_ble_eq_true rfl⟩ ⟨Nat.le_of_ble_eq_true rfl, Nat.le_of_ble_eq_true rfl⟩) hlo (fun _ h => h) (fun H76 locs hp75 hlo => ?_)
    obtain ⟨e1, e2, e3⟩ := hp75
    have ty4 := ty3.empty e1 e2
    have k4 : hCh (fun q => H.size ≤ q) H H76 := (k2.tr (c2.mono (fun q _ h => hge q (List.mem_append_left _ (fpD_dc.mpr h))))).tr (e2.mono (fun q _ h => by show H.size ≤ q; rw [h]; exact hge _ (List.mem_append_right _ (List.mem_append_left _ (fpSA_sf.mpr (Or.inl rfl))))))
    have hO4 : Old E H76 := hO.ch k4 (fun q h => Nat.le_trans hO.1 h)
    have hT4 := hT.ch k4 (fun q hq h => absurd (hltM q hq) (by omega))
    have hb4 := hb.ch k4 (show ¬ H.size ≤ bl by have := hb.lt; omega)
    obtain ⟨T2, hT2⟩ : ∃ T2 : TV, T2 = ((T.1.1, T.1.2.1, dw), T.2.1, [], T.2.2.1 ++ T.2.2.2) := ⟨_, rfl⟩
    have ty5 : Ty E H76 T2 := by rw [hT2]; exact ty4
    have hfe : fpT E T2 = fpT E T := by rw [hT2]; rfl
    have hnd9 : (fpSA E sa ++ fpTs E (T2 :: (us ++ []))).Nodup := by
      have hp9 : (fpT E T2 ++ (fpSA E sa ++ fpTs E (us ++ []))).Perm (fpSA E sa ++ fpTs E (T2 :: (us ++ []))) := by rw [fpTs_cons, ← List.append_assoc, ← List.append_assoc]; exact (List.perm_append_comm (l₁ := fpT E T2) (l₂ := fpSA E sa)).append_right _
      refine hp9.nodup_iff.mp ?_
      rw [List.nodup_append]
      exact ⟨ty5.2.2.2, hnd, fun x hx y hy e => by rw [hfe] at hx; have := hge x hx; have := hltM y hy; omega⟩
    refine lv_aload_n cx.x cx.b d_Bl_addType_39 rfl (lv_at hl 2 rfl) ?_
    refine gf_Bl_14_Bl cx hb4 rfl d_Bl_addType_40 ?_
    refine lv_aload_n cx.x cx.b d_Bl_addType_43 rfl (lv_at hl 0 rfl) ?_
    refine hx_callv (iv_Bl_59_Sf cx (c_Sf_put l hE hL hT4.1 hT4.sfd hO4 (x := T2.1) ty5.1 (fun h => by have h1 := hltM _ (hsaS _ h); have h2 := hge _ (hfe ▸ tad_mem (E := E) T2); have h3 : adr T2.1 = tad T2 := rfl; rw [h3] at h1; omega) (by rw [List.length_map]; show us.length + 0 < 14; omega)) hT4.1.1 rfl hl.1 (by rw [hT2]; rfl) (Nat.le_of_ble_eq_true rfl) d_Bl_addType_44 ⟨Nat.le_of_ble_eq_true rfl, Nat.le_of_ble_eq_true rfl⟩ ⟨Nat.le_of_ble_eq_true rfl, Nat.le_of_ble_eq_true rfl⟩) hlo (fun _ h => h) (fun H78 locs hp77 hlo => ?_)
    obtain ⟨arr2, cap2, s1, s2, s3⟩ := hp77
    obtain ⟨m1, m2⟩ := addT_tail hL (sp := []) hT4.1 hT4.2.1 ty5 hnd9 s1 s2 s3 (by show us.length + 0 < 12; omega)
    refine lv_aload_n cx.x cx.b d_Bl_addType_47 rfl (lv_at hl 0 rfl) ?_
    rw [← hQ]
    exact hx_reta (v := some ((T).1.1.1)) cx.x cx.b cx.r cx.k (Or.inl ⟨_, rfl⟩) hlo (fun _ h => h) (Nat.le_of_ble_eq_true rfl) (Nat.le_of_ble_eq_true rfl) d_Bl_addType_48 (⟨_, T2, [], by rw [hT2]; rfl, m1, by rw [hT2], by rw [hT2], rfl, fun q hq => by rcases m2 q hq with e | e; rcases List.mem_append.mp e with e | e; exact Or.inl (List.mem_append_left _ e); rw [fpTs_cons] at e; rcases List.mem_append.mp e with e | e; rw [hfe] at e; exact Or.inr (hge q e); exact Or.inl (List.mem_append_right _ e); exact Or.inr (by omega), ⟨by omega, fun q hq hn => by rw [s3.2 q (by omega) (fun h => hn (hsaS q h)), k4.2 q hq (by omega)]⟩, by omega⟩)
  · have ht0 := hT.2.1 t0 (List.mem_append_right _ List.mem_cons_self)
    refine lv_aload_n cx.x cx.b d_Bl_addType_0 rfl (lv_at hl 0 rfl) ?_
    refine gf_Bl_14_Bl cx hb rfl d_Bl_addType_1 ?_
    refine hx_callr (iv_Bl_47_Sf cx (c_Sf_takeSpare1 l hE (y := tad t0) (sp := sp1.map tad) hsf hT.sfd) hsf.1 rfl hl.1 rfl (Nat.le_of_ble_eq_true rfl) d_Bl_addType_4 ⟨Nat.le_of_ble_eq_true rfl, Nat.le_of_ble_eq_true rfl⟩ ⟨Nat.le_of_ble_eq_true rfl, Nat.le_of_ble_eq_true rfl⟩) hlo (fun _ h => h) (fun r81 H80 locs hp79 hlo => ?_)
    obtain ⟨q0, q1, q2, q3⟩ := hp79
    subst q0
    have hmem0 : ∀ q ∈ fpT E t0, q ∈ fpH E sa us (t0 :: sp1) := fun q hq => List.mem_append_right _ (fpTs_mem.mpr ⟨t0, List.mem_append_right _ List.mem_cons_self, hq⟩)
    have hdis := TSh.dis hnd
    have ty1 := ht0.ch q2 (hdis t0 (List.mem_append_right _ List.mem_cons_self))
    refine hx_castT cx tw_630 (ty1.ob) d_Bl_addType_7 ?_
    show W p l e _ s m args below meth c H80 locs _ _ _ (F0 m 10 ls [.ref (t0).1.1.1])
    have k1 : hCh (fun q => q ∈ fpH E sa us (t0 :: sp1)) H H80 := q2.mono (fun q _ h => hsaS q h)
    have hcap : ∀ q, dcS bd q → ¬ dcS t0.1.1 q := fun q hq h => hap q hq (hmem0 q (List.mem_append_left _ (fpD_dc.mpr h)))
    refine lv_astore_n (lv' := [(2, .ref ((t0).1.1.1)), (0, .ref bl), (1, .ref bd.1)]) cx.x cx.b d_Bl_addType_10 rfl hl (by decide) rfl (fun ls hl => ?_)
    refine lv_aload_n cx.x cx.b d_Bl_addType_11 rfl (lv_at hl 0 rfl) ?_
    refine lv_ifnonnull (tgt := 25) cx.x cx.b d_Bl_addType_12 (by decide) ?_
    refine lv_aload_n cx.x cx.b d_Bl_addType_25 rfl (lv_at hl 0 rfl) ?_
    refine lv_astore_n (lv' := [(3, .ref ((t0).1.1.1)), (2, .ref ((t0).1.1.1)), (0, .ref bl), (1, .ref bd.1)]) cx.x cx.b d_Bl_addType_26 rfl hl (by decide) rfl (fun ls hl => ?_)
    have g2 := g.ch k1 (fun q hq h => hap q hq h)
    refine lv_aload_n cx.x cx.b d_Bl_addType_27 rfl (lv_at hl 0 rfl) ?_
    refine lv_aload_n cx.x cx.b d_Bl_addType_28 rfl (lv_at hl 3 rfl) ?_
    refine hx_callv (iv_Bl_52_Tp cx (c_Dc_copy l hE ty1.1 g2 (hcap)) ty1.ob rfl hl.1 rfl (Nat.le_of_ble_eq_true rfl) d_Bl_addType_29 ⟨Nat.le_of_ble_eq_true rfl, Nat.le_of_ble_eq_true rfl⟩ ⟨Nat.le_of_ble_eq_true rfl, Nat.le_of_ble_eq_true rfl⟩) hlo (fun _ h => h) (fun H83 locs hp82 hlo => ?_)
    obtain ⟨c1, c2, c3⟩ := hp82
    have ty3 := ty1.copy c1 c2
    refine lv_aload_n cx.x cx.b d_Bl_addType_32 rfl (lv_at hl 0 rfl) ?_
    refine gf_Bl_56_Tp cx ty3.ob rfl d_Bl_addType_33 ?_
    refine hx_callv (iv_Bl_24_Sf cx (c_Sf_empty l hE ty3.2.2.1.1) ty3.2.2.1.1.1 rfl hl.1 rfl (Nat.le_of_ble_eq_true rfl) d_Bl_addType_36 ⟨Nat.le_of_ble_eq_true rfl, Nat.le_of_ble_eq_true rfl⟩ ⟨Nat.le_of_ble_eq_true rfl, Nat.le_of_ble_eq_true rfl⟩) hlo (fun _ h => h) (fun H85 locs hp84 hlo => ?_)
    obtain ⟨e1, e2, e3⟩ := hp84
    have ty4 := ty3.empty e1 e2
    have k4 : hCh (fun q => q ∈ fpH E sa us (t0 :: sp1)) H H85 := (k1.tr (c2.mono (fun q _ h => hmem0 q (List.mem_append_left _ (fpD_dc.mpr h))))).tr (e2.mono (fun q _ h => by show q ∈ _; rw [h]; exact hmem0 _ (List.mem_append_right _ (List.mem_append_left _ (fpSA_sf.mpr (Or.inl rfl))))))
    have hO4 : Old E H85 := hO.ch k4 (fun q h => hT.lo q h)
    have hp9 : (us ++ t0 :: sp1).Perm (t0 :: (us ++ sp1)) := List.perm_middle
    obtain ⟨T2, hT2⟩ : ∃ T2 : TV, T2 = ((t0.1.1, t0.1.2.1, dw), t0.2.1, [], t0.2.2.1 ++ t0.2.2.2) := ⟨_, rfl⟩
    have ty5 : Ty E H85 T2 := by rw [hT2]; exact ty4
    have hfe : fpT E T2 = fpT E t0 := by rw [hT2]; rfl
    have hnd0 : (fpSA E sa ++ fpTs E (t0 :: (us ++ sp1))).Nodup := (List.Perm.append_left (fpSA E sa) (fpTs_perm hp9)).nodup_iff.mp hnd
    have hnd9 : (fpSA E sa ++ fpTs E (T2 :: (us ++ sp1))).Nodup := by rw [fpTs_cons, hfe, ← fpTs_cons]; exact hnd0
    have hnd8 := hnd0
    rw [List.nodup_append, fpTs_cons, List.nodup_append] at hnd8
    have kk : hCh (fun q => q ∈ fpT E t0) H80 H85 := (c2.mono (fun q _ h => List.mem_append_left _ (fpD_dc.mpr h))).tr (e2.mono (fun q _ h => by show q ∈ _; rw [h]; exact List.mem_append_right _ (List.mem_append_left _ (fpSA_sf.mpr (Or.inl rfl)))))
    have s4 := q1.ch kk (fun q hq h => hdis t0 (List.mem_append_right _ List.mem_cons_self) q h hq)
    have hts : ∀ x ∈ us ++ sp1, Ty E H85 x := fun x hx => by
      have hx2 : x ∈ us ++ t0 :: sp1 := hp9.mem_iff.mpr (List.mem_cons_of_mem _ hx)
      exact ((hT.2.1 x hx2).ch q2 (hdis x hx2)).ch kk (fun q hq h => hnd8.2.1.2.2 q h q (fpTs_mem.mpr ⟨x, hx, hq⟩) rfl)
    have hsd : SfD E H85 sa (us.map (·.1)) (sp1.map tad) := ⟨fun d hd => by obtain ⟨x, hx, rfl⟩ := List.mem_map.mp hd; exact (hts x (List.mem_append_left _ hx)).1, fun y hy => by obtain ⟨x, hx, rfl⟩ := List.mem_map.mp hy; exact (hts x (List.mem_append_right _ hx)).1.isDe, fun y hy hs => hT.sfd.2.2 y (by rcases List.mem_append.mp hy with e | e; exact List.mem_append_left _ e; exact List.mem_append_right _ (List.mem_cons_of_mem _ e)) hs⟩
    have hb4 := hb.ch k4 hbl
    have hlen2 : us.length + sp1.length < 12 := by rw [List.length_cons] at hlen; omega
    refine lv_aload_n cx.x cx.b d_Bl_addType_39 rfl (lv_at hl 2 rfl) ?_
    refine gf_Bl_14_Bl cx hb4 rfl d_Bl_addType_40 ?_
    refine lv_aload_n cx.x cx.b d_Bl_addType_43 rfl (lv_at hl 0 rfl) ?_
    refine hx_callv (iv_Bl_59_Sf cx (c_Sf_put l hE hL s4 hsd hO4 (x := T2.1) ty5.1 (fun h => hdis t0 (List.mem_append_right _ List.mem_cons_self) _ (hfe ▸ tad_mem (E := E) T2) h) (by rw [List.length_map, List.length_map]; omega)) s4.1 rfl hl.1 (by rw [hT2]; rfl) (Nat.le_of_ble_eq_true rfl) d_Bl_addType_44 ⟨Nat.le_of_ble_eq_true rfl, Nat.le_of_ble_eq_true rfl⟩ ⟨Nat.le_of_ble_eq_true rfl, Nat.le_of_ble_eq_true rfl⟩) hlo (fun _ h => h) (fun H87 locs hp86 hlo => ?_)
    obtain ⟨arr2, cap2, r1, r2, r3⟩ := hp86
    obtain ⟨m1, m2⟩ := addT_tail hL (sp := sp1) s4 hts ty5 hnd9 r1 r2 r3 hlen2
    refine lv_aload_n cx.x cx.b d_Bl_addType_47 rfl (lv_at hl 0 rfl) ?_
    rw [← hQ]
    exact hx_reta (v := some ((t0).1.1.1)) cx.x cx.b cx.r cx.k (Or.inl ⟨_, rfl⟩) hlo (fun _ h => h) (Nat.le_of_ble_eq_true rfl) (Nat.le_of_ble_eq_true rfl) d_Bl_addType_48 (⟨_, T2, sp1, by rw [hT2]; rfl, m1, by rw [hT2], by rw [hT2], rfl, fun q hq => by rcases m2 q hq with e | e; rw [fpTs_cons, hfe, ← fpTs_cons] at e; exact Or.inl ((List.Perm.append_left (fpSA E sa) (fpTs_perm hp9)).mem_iff.mpr e); exact Or.inr (by omega), k4.tr (r3.mono (fun q _ h => hsaS q h)), by omega⟩)
