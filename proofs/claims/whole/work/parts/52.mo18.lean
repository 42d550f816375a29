/-- the model at its beginning -/
def g0 : MS := (up (fun _ _ => 0) 3 (updN (updN (fun _ => 0) 0 2) 1 2), fun _ => 0)
set_option maxHeartbeats 4000000 in
set_option maxRecDepth 100000 in
theorem c_Mo_init (l : Launch) {E : hE} (hE : EnvOk E) {H : Heap} {a : Nat} (h : hOb (eD E) classes H a 10 [.null, .int 0, .null, .int 0, .int 0, .null, .null, .null, .null, .null, .null, .null, .null, .null, .int 0, .int 0, .int 0, .int 0, .int 0, .null, .int 0, .int 0, .int 0, .null, .int 0, .null]) (hB : eB E ≤ a) (hH : eB E ≤ H.size) : Ct l E y_Mo_init b_Mo_init 1 none (rmA 1 14 10736) [.ref a] H (hQv (fun H1 => Mo E H1 a (fun k => H.size + k) g0 ∧ hCh (fun q => q = a) H H1 ∧ H1.size = H.size + 14)) := by
  refine hx_enter hE (by decide) (Nat.le_of_ble_eq_true rfl) ?_
  intro p e s m args below meth c ls cx hnm hl
  have hl : lv_has ls 1 [(0, .ref a)] := hl
  have hlo : hLo (eB E) [] := hLo.nil
  have hlt := h.lt
  refine lv_aload_n cx.x cx.b d_Mo_init_0 rfl (lv_at hl 0 rfl) ?_
  refine W.objInit cx.x cx.b cx.o (cx.ts _ tw_801) (cx.ts _ tw_31) (cx.ts _ tw_32) rfl (hl.1.trans cx.ml.symm) rfl d_Mo_init_1 (Nat.le_of_ble_eq_true rfl) (Nat.le_of_ble_eq_true rfl) ?_
  refine W.eq (g2 := F0 m 4 ls []) rfl ?_
  refine lv_aload_n cx.x cx.b d_Mo_init_4 rfl (lv_at hl 0 rfl) ?_
  refine lv_sipush (v := 480) cx.x cx.b d_Mo_init_5 (by decide) ?_
  refine hx_newa (atype := .int) (a0 := (480, .inl (fun _ => 0))) cx.x cx.b (cx.ts _ tw_72) cx.K 0 rfl (fun _ => rfl) (by decide) (by decide) (Nat.le_trans (Nat.mul_le_mul (show 480 ≤ 5000 by omega) (show componentBytes (newarray.typeOf .int) ≤ 8 by decide)) (by decide)) (Nat.le_of_ble_eq_true rfl) (Nat.le_of_ble_eq_true rfl) d_Mo_init_8 (fun H1 ha2 z_H1 o_H1 => ?_)
  have q0 : hOb (eD E) classes H1 a 10 [.null, .int 0, .null, .int 0, .int 0, .null, .null, .null, .null, .null, .null, .null, .null, .null, .int 0, .int 0, .int 0, .int 0, .int 0, .null, .int 0, .int 0, .int 0, .null, .int 0, .null] := h.eq (o_H1 _ (by omega))
  refine pf_Mo_7_Mo (x := (some H.size)) cx hnm q0 hlo hB (Nat.le_of_ble_eq_true rfl) d_Mo_init_10 (fun H3 locs ho4 z_H3 o_H3 hlo => ?_)
  have ho4 : hOb (eD E) classes H3 a 10 [.ref H.size, .int 0, .null, .int 0, .int 0, .null, .null, .null, .null, .null, .null, .null, .null, .null, .int 0, .int 0, .int 0, .int 0, .int 0, .null, .int 0, .int 0, .int 0, .null, .int 0, .null] := ho4
  have r0 : hAi H3 H.size (eA E 0) 480 (fun i => nI (g0.1 0 i)) := hAi.eq (show hAi H1 H.size (eA E 0) 480 (fun _ => 0) from ha2) (o_H3 _ (by omega))
  have s0 : H3.size = H.size + 1 := by omega
  refine lv_aload_n cx.x cx.b d_Mo_init_13 rfl (lv_at hl 0 rfl) ?_
  refine lv_bipush (v := 60) cx.x cx.b d_Mo_init_14 (by decide) ?_
  refine hx_newa (atype := .int) (a0 := (60, .inl (fun _ => 0))) cx.x cx.b (cx.ts _ tw_72) cx.K 0 rfl (fun _ => rfl) (by decide) (by decide) (Nat.le_trans (Nat.mul_le_mul (show 60 ≤ 5000 by omega) (show componentBytes (newarray.typeOf .int) ≤ 8 by decide)) (by decide)) (Nat.le_of_ble_eq_true rfl) (Nat.le_of_ble_eq_true rfl) d_Mo_init_16 (fun H5 ha6 z_H5 o_H5 => ?_)
  have q1 : hOb (eD E) classes H5 a 10 [.ref H.size, .int 0, .null, .int 0, .int 0, .null, .null, .null, .null, .null, .null, .null, .null, .null, .int 0, .int 0, .int 0, .int 0, .int 0, .null, .int 0, .int 0, .int 0, .null, .int 0, .null] := ho4.eq (o_H5 _ (by omega))
  refine pf_Mo_13_Mo (x := (some H3.size)) cx hnm q1 hlo hB (Nat.le_of_ble_eq_true rfl) d_Mo_init_18 (fun H7 locs ho8 z_H7 o_H7 hlo => ?_)
  have ho8 : hOb (eD E) classes H7 a 10 [.ref H.size, .int 0, .ref H3.size, .int 0, .int 0, .null, .null, .null, .null, .null, .null, .null, .null, .null, .int 0, .int 0, .int 0, .int 0, .int 0, .null, .int 0, .int 0, .int 0, .null, .int 0, .null] := ho8
  have r1 : hAi H7 H3.size (eA E 0) 60 (fun i => nI (g0.1 1 i)) := hAi.eq (show hAi H5 H3.size (eA E 0) 60 (fun _ => 0) from ha6) (o_H7 _ (by omega))
  have r0 := ((r0.eq (o_H5 _ (by omega))).eq (o_H7 _ (by omega)))
  have s1 : H7.size = H.size + 2 := by omega
  rw [s0] at r1
  refine lv_aload_n cx.x cx.b d_Mo_init_21 rfl (lv_at hl 0 rfl) ?_
  refine lv_iconst (v := 2) cx.x cx.b d_Mo_init_22 (by decide) ?_
  refine hx_newa (atype := .int) (a0 := (2, .inl (fun _ => 0))) cx.x cx.b (cx.ts _ tw_72) cx.K 0 rfl (fun _ => rfl) (by decide) (by decide) (Nat.le_trans (Nat.mul_le_mul (show 2 ≤ 5000 by omega) (show componentBytes (newarray.typeOf .int) ≤ 8 by decide)) (by decide)) (Nat.le_of_ble_eq_true rfl) (Nat.le_of_ble_eq_true rfl) d_Mo_init_23 (fun H9 ha10 z_H9 o_H9 => ?_)
  have q2 : hOb (eD E) classes H9 a 10 [.ref H.size, .int 0, .ref H3.size, .int 0, .int 0, .null, .null, .null, .null, .null, .null, .null, .null, .null, .int 0, .int 0, .int 0, .int 0, .int 0, .null, .int 0, .int 0, .int 0, .null, .int 0, .null] := ho8.eq (o_H9 _ (by omega))
  refine pf_Mo_16_Mo (x := (some H7.size)) cx hnm q2 hlo hB (Nat.le_of_ble_eq_true rfl) d_Mo_init_25 (fun H11 locs ho12 z_H11 o_H11 hlo => ?_)
  have ho12 : hOb (eD E) classes H11 a 10 [.ref H.size, .int 0, .ref H3.size, .int 0, .int 0, .ref H7.size, .null, .null, .null, .null, .null, .null, .null, .null, .int 0, .int 0, .int 0, .int 0, .int 0, .null, .int 0, .int 0, .int 0, .null, .int 0, .null] := ho12
  have r2 : hAi H11 H7.size (eA E 0) 2 (fun i => nI (g0.1 2 i)) := hAi.eq (show hAi H9 H7.size (eA E 0) 2 (fun _ => 0) from ha10) (o_H11 _ (by omega))
  have r0 := ((r0.eq (o_H9 _ (by omega))).eq (o_H11 _ (by omega)))
  have r1 := ((r1.eq (o_H9 _ (by omega))).eq (o_H11 _ (by omega)))
  have s2 : H11.size = H.size + 3 := by omega
  rw [s1] at r2
  refine lv_aload_n cx.x cx.b d_Mo_init_28 rfl (lv_at hl 0 rfl) ?_
  refine lv_iconst (v := 2) cx.x cx.b d_Mo_init_29 (by decide) ?_
  refine hx_newa (atype := .int) (a0 := (2, .inl (fun _ => 0))) cx.x cx.b (cx.ts _ tw_72) cx.K 0 rfl (fun _ => rfl) (by decide) (by decide) (Nat.le_trans (Nat.mul_le_mul (show 2 ≤ 5000 by omega) (show componentBytes (newarray.typeOf .int) ≤ 8 by decide)) (by decide)) (Nat.le_of_ble_eq_true rfl) (Nat.le_of_ble_eq_true rfl) d_Mo_init_30 (fun H13 ha14 z_H13 o_H13 => ?_)
  have q3 : hOb (eD E) classes H13 a 10 [.ref H.size, .int 0, .ref H3.size, .int 0, .int 0, .ref H7.size, .null, .null, .null, .null, .null, .null, .null, .null, .int 0, .int 0, .int 0, .int 0, .int 0, .null, .int 0, .int 0, .int 0, .null, .int 0, .null] := ho12.eq (o_H13 _ (by omega))
  refine lv_dup cx.x cx.b d_Mo_init_32 rfl ?_
  refine lv_iconst (v := 0) cx.x cx.b d_Mo_init_33 (by decide) ?_
  refine lv_iconst (v := 2) cx.x cx.b d_Mo_init_34 (by decide) ?_
  refine hx_iast cx.x cx.b cx.K 0 ha14 hlo (by omega) rfl (show vp_in (nI 0) 2 from vp_in_nI (by decide) (by decide)) d_Mo_init_35 (fun H15 locs ha16 z_H15 o_H15 hlo => ?_)
  have q3 := q3.eq (o_H15 _ (by omega))
  refine lv_dup cx.x cx.b d_Mo_init_36 rfl ?_
  refine lv_iconst (v := 1) cx.x cx.b d_Mo_init_37 (by decide) ?_
  refine lv_iconst (v := 2) cx.x cx.b d_Mo_init_38 (by decide) ?_
  refine hx_iast cx.x cx.b cx.K 0 ha16 hlo (by omega) rfl (show vp_in (nI 1) 2 from vp_in_nI (by decide) (by decide)) d_Mo_init_39 (fun H17 locs ha18 z_H17 o_H17 hlo => ?_)
  have q3 := q3.eq (o_H17 _ (by omega))
  refine pf_Mo_19_Mo (x := (some H11.size)) cx hnm q3 hlo hB (Nat.le_of_ble_eq_true rfl) d_Mo_init_40 (fun H19 locs ho20 z_H19 o_H19 hlo => ?_)
  have ho20 : hOb (eD E) classes H19 a 10 [.ref H.size, .int 0, .ref H3.size, .int 0, .int 0, .ref H7.size, .ref H11.size, .null, .null, .null, .null, .null, .null, .null, .int 0, .int 0, .int 0, .int 0, .int 0, .null, .int 0, .int 0, .int 0, .null, .int 0, .null] := ho20
  have r3 : hAi H19 H11.size (eA E 0) 2 (fun i => nI (g0.1 3 i)) := hAi.eq (by have h9 : hAi H17 H11.size (eA E 0) 2 (upd (upd (fun _ => 0) 0 2) 1 2) := ha18; have e9 : (fun i => nI (g0.1 3 i)) = upd (upd (fun _ => 0) 0 2) 1 2 := (by rw [show (fun i => nI (g0.1 3 i)) = fun i => nI (updN (updN (fun _ => 0) 0 2) 1 2 i) from rfl, ← upd_nI, show (fun i => nI (updN (fun _ => 0) 0 2 i)) = upd (fun i => nI ((fun _ => 0) i)) 0 (nI 2) from (upd_nI _ _ _).symm]; rfl); rw [e9]; exact h9) (o_H19 _ (by omega))
  have r0 := ((((r0.eq (o_H13 _ (by omega))).eq (o_H15 _ (by omega))).eq (o_H17 _ (by omega))).eq (o_H19 _ (by omega)))
  have r1 := ((((r1.eq (o_H13 _ (by omega))).eq (o_H15 _ (by omega))).eq (o_H17 _ (by omega))).eq (o_H19 _ (by omega)))
  have r2 := ((((r2.eq (o_H13 _ (by omega))).eq (o_H15 _ (by omega))).eq (o_H17 _ (by omega))).eq (o_H19 _ (by omega)))
  have s3 : H19.size = H.size + 4 := by omega
  rw [s2] at r3
  refine lv_aload_n cx.x cx.b d_Mo_init_43 rfl (lv_at hl 0 rfl) ?_
  refine lv_sipush (v := 4340) cx.x cx.b d_Mo_init_44 (by decide) ?_
  refine hx_newa (atype := .int) (a0 := (4340, .inl (fun _ => 0))) cx.x cx.b (cx.ts _ tw_72) cx.K 0 rfl (fun _ => rfl) (by decide) (by decide) (Nat.le_trans (Nat.mul_le_mul (show 4340 ≤ 5000 by omega) (show componentBytes (newarray.typeOf .int) ≤ 8 by decide)) (by decide)) (Nat.le_of_ble_eq_true rfl) (Nat.le_of_ble_eq_true rfl) d_Mo_init_47 (fun H21 ha22 z_H21 o_H21 => ?_)
  have q4 : hOb (eD E) classes H21 a 10 [.ref H.size, .int 0, .ref H3.size, .int 0, .int 0, .ref H7.size, .ref H11.size, .null, .null, .null, .null, .null, .null, .null, .int 0, .int 0, .int 0, .int 0, .int 0, .null, .int 0, .int 0, .int 0, .null, .int 0, .null] := ho20.eq (o_H21 _ (by omega))
  refine pf_Mo_22_Mo (x := (some H19.size)) cx hnm q4 hlo hB (Nat.le_of_ble_eq_true rfl) d_Mo_init_49 (fun H23 locs ho24 z_H23 o_H23 hlo => ?_)
  have ho24 : hOb (eD E) classes H23 a 10 [.ref H.size, .int 0, .ref H3.size, .int 0, .int 0, .ref H7.size, .ref H11.size, .ref H19.size, .null, .null, .null, .null, .null, .null, .int 0, .int 0, .int 0, .int 0, .int 0, .null, .int 0, .int 0, .int 0, .null, .int 0, .null] := ho24
  have r4 : hAi H23 H19.size (eA E 0) 4340 (fun i => nI (g0.1 4 i)) := hAi.eq (show hAi H21 H19.size (eA E 0) 4340 (fun _ => 0) from ha22) (o_H23 _ (by omega))
  have r0 := ((r0.eq (o_H21 _ (by omega))).eq (o_H23 _ (by omega)))
  have r1 := ((r1.eq (o_H21 _ (by omega))).eq (o_H23 _ (by omega)))
  have r2 := ((r2.eq (o_H21 _ (by omega))).eq (o_H23 _ (by omega)))
  have r3 := ((r3.eq (o_H21 _ (by omega))).eq (o_H23 _ (by omega)))
  have s4 : H23.size = H.size + 5 := by omega
  rw [s3] at r4
  refine lv_aload_n cx.x cx.b d_Mo_init_52 rfl (lv_at hl 0 rfl) ?_
  refine lv_sipush (v := 4340) cx.x cx.b d_Mo_init_53 (by decide) ?_
  refine hx_newa (atype := .int) (a0 := (4340, .inl (fun _ => 0))) cx.x cx.b (cx.ts _ tw_72) cx.K 0 rfl (fun _ => rfl) (by decide) (by decide) (Nat.le_trans (Nat.mul_le_mul (show 4340 ≤ 5000 by omega) (show componentBytes (newarray.typeOf .int) ≤ 8 by decide)) (by decide)) (Nat.le_of_ble_eq_true rfl) (Nat.le_of_ble_eq_true rfl) d_Mo_init_56 (fun H25 ha26 z_H25 o_H25 => ?_)
  have q5 : hOb (eD E) classes H25 a 10 [.ref H.size, .int 0, .ref H3.size, .int 0, .int 0, .ref H7.size, .ref H11.size, .ref H19.size, .null, .null, .null, .null, .null, .null, .int 0, .int 0, .int 0, .int 0, .int 0, .null, .int 0, .int 0, .int 0, .null, .int 0, .null] := ho24.eq (o_H25 _ (by omega))
  refine pf_Mo_25_Mo (x := (some H23.size)) cx hnm q5 hlo hB (Nat.le_of_ble_eq_true rfl) d_Mo_init_58 (fun H27 locs ho28 z_H27 o_H27 hlo => ?_)
  have ho28 : hOb (eD E) classes H27 a 10 [.ref H.size, .int 0, .ref H3.size, .int 0, .int 0, .ref H7.size, .ref H11.size, .ref H19.size, .ref H23.size, .null, .null, .null, .null, .null, .int 0, .int 0, .int 0, .int 0, .int 0, .null, .int 0, .int 0, .int 0, .null, .int 0, .null] := ho28
  have r5 : hAi H27 H23.size (eA E 0) 4340 (fun i => nI (g0.1 5 i)) := hAi.eq (show hAi H25 H23.size (eA E 0) 4340 (fun _ => 0) from ha26) (o_H27 _ (by omega))
  have r0 := ((r0.eq (o_H25 _ (by omega))).eq (o_H27 _ (by omega)))
  have r1 := ((r1.eq (o_H25 _ (by omega))).eq (o_H27 _ (by omega)))
  have r2 := ((r2.eq (o_H25 _ (by omega))).eq (o_H27 _ (by omega)))
  have r3 := ((r3.eq (o_H25 _ (by omega))).eq (o_H27 _ (by omega)))
  have r4 := ((r4.eq (o_H25 _ (by omega))).eq (o_H27 _ (by omega)))
  have s5 : H27.size = H.size + 6 := by omega
  rw [s4] at r5
  refine lv_aload_n cx.x cx.b d_Mo_init_61 rfl (lv_at hl 0 rfl) ?_
  refine lv_sipush (v := 217) cx.x cx.b d_Mo_init_62 (by decide) ?_
  refine hx_newa (atype := .int) (a0 := (217, .inl (fun _ => 0))) cx.x cx.b (cx.ts _ tw_72) cx.K 0 rfl (fun _ => rfl) (by decide) (by decide) (Nat.le_trans (Nat.mul_le_mul (show 217 ≤ 5000 by omega) (show componentBytes (newarray.typeOf .int) ≤ 8 by decide)) (by decide)) (Nat.le_of_ble_eq_true rfl) (Nat.le_of_ble_eq_true rfl) d_Mo_init_65 (fun H29 ha30 z_H29 o_H29 => ?_)
  have q6 : hOb (eD E) classes H29 a 10 [.ref H.size, .int 0, .ref H3.size, .int 0, .int 0, .ref H7.size, .ref H11.size, .ref H19.size, .ref H23.size, .null, .null, .null, .null, .null, .int 0, .int 0, .int 0, .int 0, .int 0, .null, .int 0, .int 0, .int 0, .null, .int 0, .null] := ho28.eq (o_H29 _ (by omega))
  refine pf_Mo_28_Mo (x := (some H27.size)) cx hnm q6 hlo hB (Nat.le_of_ble_eq_true rfl) d_Mo_init_67 (fun H31 locs ho32 z_H31 o_H31 hlo => ?_)
  have ho32 : hOb (eD E) classes H31 a 10 [.ref H.size, .int 0, .ref H3.size, .int 0, .int 0, .ref H7.size, .ref H11.size, .ref H19.size, .ref H23.size, .ref H27.size, .null, .null, .null, .null, .int 0, .int 0, .int 0, .int 0, .int 0, .null, .int 0, .int 0, .int 0, .null, .int 0, .null] := ho32
  have r6 : hAi H31 H27.size (eA E 0) 217 (fun i => nI (g0.1 6 i)) := hAi.eq (show hAi H29 H27.size (eA E 0) 217 (fun _ => 0) from ha30) (o_H31 _ (by omega))
  have r0 := ((r0.eq (o_H29 _ (by omega))).eq (o_H31 _ (by omega)))
  have r1 := ((r1.eq (o_H29 _ (by omega))).eq (o_H31 _ (by omega)))
  have r2 := ((r2.eq (o_H29 _ (by omega))).eq (o_H31 _ (by omega)))
  have r3 := ((r3.eq (o_H29 _ (by omega))).eq (o_H31 _ (by omega)))
  have r4 := ((r4.eq (o_H29 _ (by omega))).eq (o_H31 _ (by omega)))
  have r5 := ((r5.eq (o_H29 _ (by omega))).eq (o_H31 _ (by omega)))
  have s6 : H31.size = H.size + 7 := by omega
  rw [s5] at r6
  refine lv_aload_n cx.x cx.b d_Mo_init_70 rfl (lv_at hl 0 rfl) ?_
  refine lv_sipush (v := 217) cx.x cx.b d_Mo_init_71 (by decide) ?_
  refine hx_newa (atype := .int) (a0 := (217, .inl (fun _ => 0))) cx.x cx.b (cx.ts _ tw_72) cx.K 0 rfl (fun _ => rfl) (by decide) (by decide) (Nat.le_trans (Nat.mul_le_mul (show 217 ≤ 5000 by omega) (show componentBytes (newarray.typeOf .int) ≤ 8 by decide)) (by decide)) (Nat.le_of_ble_eq_true rfl) (Nat.le_of_ble_eq_true rfl) d_Mo_init_74 (fun H33 ha34 z_H33 o_H33 => ?_)
  have q7 : hOb (eD E) classes H33 a 10 [.ref H.size, .int 0, .ref H3.size, .int 0, .int 0, .ref H7.size, .ref H11.size, .ref H19.size, .ref H23.size, .ref H27.size, .null, .null, .null, .null, .int 0, .int 0, .int 0, .int 0, .int 0, .null, .int 0, .int 0, .int 0, .null, .int 0, .null] := ho32.eq (o_H33 _ (by omega))
  refine pf_Mo_31_Mo (x := (some H31.size)) cx hnm q7 hlo hB (Nat.le_of_ble_eq_true rfl) d_Mo_init_76 (fun H35 locs ho36 z_H35 o_H35 hlo => ?_)
  have ho36 : hOb (eD E) classes H35 a 10 [.ref H.size, .int 0, .ref H3.size, .int 0, .int 0, .ref H7.size, .ref H11.size, .ref H19.size, .ref H23.size, .ref H27.size, .ref H31.size, .null, .null, .null, .int 0, .int 0, .int 0, .int 0, .int 0, .null, .int 0, .int 0, .int 0, .null, .int 0, .null] := ho36
  have r7 : hAi H35 H31.size (eA E 0) 217 (fun i => nI (g0.1 7 i)) := hAi.eq (show hAi H33 H31.size (eA E 0) 217 (fun _ => 0) from ha34) (o_H35 _ (by omega))
  have r0 := ((r0.eq (o_H33 _ (by omega))).eq (o_H35 _ (by omega)))
  have r1 := ((r1.eq (o_H33 _ (by omega))).eq (o_H35 _ (by omega)))
  have r2 := ((r2.eq (o_H33 _ (by omega))).eq (o_H35 _ (by omega)))
  have r3 := ((r3.eq (o_H33 _ (by omega))).eq (o_H35 _ (by omega)))
  have r4 := ((r4.eq (o_H33 _ (by omega))).eq (o_H35 _ (by omega)))
  have r5 := ((r5.eq (o_H33 _ (by omega))).eq (o_H35 _ (by omega)))
  have r6 := ((r6.eq (o_H33 _ (by omega))).eq (o_H35 _ (by omega)))
  have s7 : H35.size = H.size + 8 := by omega
  rw [s6] at r7
  refine lv_aload_n cx.x cx.b d_Mo_init_79 rfl (lv_at hl 0 rfl) ?_
  refine lv_sipush (v := 217) cx.x cx.b d_Mo_init_80 (by decide) ?_
  refine hx_newa (atype := .int) (a0 := (217, .inl (fun _ => 0))) cx.x cx.b (cx.ts _ tw_72) cx.K 0 rfl (fun _ => rfl) (by decide) (by decide) (Nat.le_trans (Nat.mul_le_mul (show 217 ≤ 5000 by omega) (show componentBytes (newarray.typeOf .int) ≤ 8 by decide)) (by decide)) (Nat.le_of_ble_eq_true rfl) (Nat.le_of_ble_eq_true rfl) d_Mo_init_83 (fun H37 ha38 z_H37 o_H37 => ?_)
  have q8 : hOb (eD E) classes H37 a 10 [.ref H.size, .int 0, .ref H3.size, .int 0, .int 0, .ref H7.size, .ref H11.size, .ref H19.size, .ref H23.size, .ref H27.size, .ref H31.size, .null, .null, .null, .int 0, .int 0, .int 0, .int 0, .int 0, .null, .int 0, .int 0, .int 0, .null, .int 0, .null] := ho36.eq (o_H37 _ (by omega))
  refine pf_Mo_34_Mo (x := (some H35.size)) cx hnm q8 hlo hB (Nat.le_of_ble_eq_true rfl) d_Mo_init_85 (fun H39 locs ho40 z_H39 o_H39 hlo => ?_)
  have ho40 : hOb (eD E) classes H39 a 10 [.ref H.size, .int 0, .ref H3.size, .int 0, .int 0, .ref H7.size, .ref H11.size, .ref H19.size, .ref H23.size, .ref H27.size, .ref H31.size, .ref H35.size, .null, .null, .int 0, .int 0, .int 0, .int 0, .int 0, .null, .int 0, .int 0, .int 0, .null, .int 0, .null] := ho40
  have r8 : hAi H39 H35.size (eA E 0) 217 (fun i => nI (g0.1 8 i)) := hAi.eq (show hAi H37 H35.size (eA E 0) 217 (fun _ => 0) from ha38) (o_H39 _ (by omega))
  have r0 := ((r0.eq (o_H37 _ (by omega))).eq (o_H39 _ (by omega)))
  have r1 := ((r1.eq (o_H37 _ (by omega))).eq (o_H39 _ (by omega)))
  have r2 := ((r2.eq (o_H37 _ (by omega))).eq (o_H39 _ (by omega)))
  have r3 := ((r3.eq (o_H37 _ (by omega))).eq (o_H39 _ (by omega)))
  have r4 := ((r4.eq (o_H37 _ (by omega))).eq (o_H39 _ (by omega)))
  have r5 := ((r5.eq (o_H37 _ (by omega))).eq (o_H39 _ (by omega)))
  have r6 := ((r6.eq (o_H37 _ (by omega))).eq (o_H39 _ (by omega)))
  have r7 := ((r7.eq (o_H37 _ (by omega))).eq (o_H39 _ (by omega)))
  have s8 : H39.size = H.size + 9 := by omega
  rw [s7] at r8
  refine lv_aload_n cx.x cx.b d_Mo_init_88 rfl (lv_at hl 0 rfl) ?_
  refine lv_sipush (v := 217) cx.x cx.b d_Mo_init_89 (by decide) ?_
  refine hx_newa (atype := .int) (a0 := (217, .inl (fun _ => 0))) cx.x cx.b (cx.ts _ tw_72) cx.K 0 rfl (fun _ => rfl) (by decide) (by decide) (Nat.le_trans (Nat.mul_le_mul (show 217 ≤ 5000 by omega) (show componentBytes (newarray.typeOf .int) ≤ 8 by decide)) (by decide)) (Nat.le_of_ble_eq_true rfl) (Nat.le_of_ble_eq_true rfl) d_Mo_init_92 (fun H41 ha42 z_H41 o_H41 => ?_)
  have q9 : hOb (eD E) classes H41 a 10 [.ref H.size, .int 0, .ref H3.size, .int 0, .int 0, .ref H7.size, .ref H11.size, .ref H19.size, .ref H23.size, .ref H27.size, .ref H31.size, .ref H35.size, .null, .null, .int 0, .int 0, .int 0, .int 0, .int 0, .null, .int 0, .int 0, .int 0, .null, .int 0, .null] := ho40.eq (o_H41 _ (by omega))
  refine pf_Mo_37_Mo (x := (some H39.size)) cx hnm q9 hlo hB (Nat.le_of_ble_eq_true rfl) d_Mo_init_94 (fun H43 locs ho44 z_H43 o_H43 hlo => ?_)
  have ho44 : hOb (eD E) classes H43 a 10 [.ref H.size, .int 0, .ref H3.size, .int 0, .int 0, .ref H7.size, .ref H11.size, .ref H19.size, .ref H23.size, .ref H27.size, .ref H31.size, .ref H35.size, .ref H39.size, .null, .int 0, .int 0, .int 0, .int 0, .int 0, .null, .int 0, .int 0, .int 0, .null, .int 0, .null] := ho44
  have r9 : hAi H43 H39.size (eA E 0) 217 (fun i => nI (g0.1 9 i)) := hAi.eq (show hAi H41 H39.size (eA E 0) 217 (fun _ => 0) from ha42) (o_H43 _ (by omega))
  have r0 := ((r0.eq (o_H41 _ (by omega))).eq (o_H43 _ (by omega)))
  have r1 := ((r1.eq (o_H41 _ (by omega))).eq (o_H43 _ (by omega)))
  have r2 := ((r2.eq (o_H41 _ (by omega))).eq (o_H43 _ (by omega)))
  have r3 := ((r3.eq (o_H41 _ (by omega))).eq (o_H43 _ (by omega)))
  have r4 := ((r4.eq (o_H41 _ (by omega))).eq (o_H43 _ (by omega)))
  have r5 := ((r5.eq (o_H41 _ (by omega))).eq (o_H43 _ (by omega)))
  have r6 := ((r6.eq (o_H41 _ (by omega))).eq (o_H43 _ (by omega)))
  have r7 := ((r7.eq (o_H41 _ (by omega))).eq (o_H43 _ (by omega)))
  have r8 := ((r8.eq (o_H41 _ (by omega))).eq (o_H43 _ (by omega)))
  have s9 : H43.size = H.size + 10 := by omega
  rw [s8] at r9
  refine lv_aload_n cx.x cx.b d_Mo_init_97 rfl (lv_at hl 0 rfl) ?_
  refine lv_bipush (v := 24) cx.x cx.b d_Mo_init_98 (by decide) ?_
  refine hx_newa (atype := .int) (a0 := (24, .inl (fun _ => 0))) cx.x cx.b (cx.ts _ tw_72) cx.K 0 rfl (fun _ => rfl) (by decide) (by decide) (Nat.le_trans (Nat.mul_le_mul (show 24 ≤ 5000 by omega) (show componentBytes (newarray.typeOf .int) ≤ 8 by decide)) (by decide)) (Nat.le_of_ble_eq_true rfl) (Nat.le_of_ble_eq_true rfl) d_Mo_init_100 (fun H45 ha46 z_H45 o_H45 => ?_)
  have q10 : hOb (eD E) classes H45 a 10 [.ref H.size, .int 0, .ref H3.size, .int 0, .int 0, .ref H7.size, .ref H11.size, .ref H19.size, .ref H23.size, .ref H27.size, .ref H31.size, .ref H35.size, .ref H39.size, .null, .int 0, .int 0, .int 0, .int 0, .int 0, .null, .int 0, .int 0, .int 0, .null, .int 0, .null] := ho44.eq (o_H45 _ (by omega))
  refine pf_Mo_40_Mo (x := (some H43.size)) cx hnm q10 hlo hB (Nat.le_of_ble_eq_true rfl) d_Mo_init_102 (fun H47 locs ho48 z_H47 o_H47 hlo => ?_)
  have ho48 : hOb (eD E) classes H47 a 10 [.ref H.size, .int 0, .ref H3.size, .int 0, .int 0, .ref H7.size, .ref H11.size, .ref H19.size, .ref H23.size, .ref H27.size, .ref H31.size, .ref H35.size, .ref H39.size, .ref H43.size, .int 0, .int 0, .int 0, .int 0, .int 0, .null, .int 0, .int 0, .int 0, .null, .int 0, .null] := ho48
  have r10 : hAi H47 H43.size (eA E 0) 24 (fun i => nI (g0.1 10 i)) := hAi.eq (show hAi H45 H43.size (eA E 0) 24 (fun _ => 0) from ha46) (o_H47 _ (by omega))
  have r0 := ((r0.eq (o_H45 _ (by omega))).eq (o_H47 _ (by omega)))
  have r1 := ((r1.eq (o_H45 _ (by omega))).eq (o_H47 _ (by omega)))
  have r2 := ((r2.eq (o_H45 _ (by omega))).eq (o_H47 _ (by omega)))
  have r3 := ((r3.eq (o_H45 _ (by omega))).eq (o_H47 _ (by omega)))
  have r4 := ((r4.eq (o_H45 _ (by omega))).eq (o_H47 _ (by omega)))
  have r5 := ((r5.eq (o_H45 _ (by omega))).eq (o_H47 _ (by omega)))
  have r6 := ((r6.eq (o_H45 _ (by omega))).eq (o_H47 _ (by omega)))
  have r7 := ((r7.eq (o_H45 _ (by omega))).eq (o_H47 _ (by omega)))
  have r8 := ((r8.eq (o_H45 _ (by omega))).eq (o_H47 _ (by omega)))
  have r9 := ((r9.eq (o_H45 _ (by omega))).eq (o_H47 _ (by omega)))
  have s10 : H47.size = H.size + 11 := by omega
  rw [s9] at r10
  refine lv_aload_n cx.x cx.b d_Mo_init_105 rfl (lv_at hl 0 rfl) ?_
  refine lv_bipush (v := 20) cx.x cx.b d_Mo_init_106 (by decide) ?_
  refine hx_newa (atype := .int) (a0 := (20, .inl (fun _ => 0))) cx.x cx.b (cx.ts _ tw_72) cx.K 0 rfl (fun _ => rfl) (by decide) (by decide) (Nat.le_trans (Nat.mul_le_mul (show 20 ≤ 5000 by omega) (show componentBytes (newarray.typeOf .int) ≤ 8 by decide)) (by decide)) (Nat.le_of_ble_eq_true rfl) (Nat.le_of_ble_eq_true rfl) d_Mo_init_108 (fun H49 ha50 z_H49 o_H49 => ?_)
  have q11 : hOb (eD E) classes H49 a 10 [.ref H.size, .int 0, .ref H3.size, .int 0, .int 0, .ref H7.size, .ref H11.size, .ref H19.size, .ref H23.size, .ref H27.size, .ref H31.size, .ref H35.size, .ref H39.size, .ref H43.size, .int 0, .int 0, .int 0, .int 0, .int 0, .null, .int 0, .int 0, .int 0, .null, .int 0, .null] := ho48.eq (o_H49 _ (by omega))
  refine pf_Mo_43_Mo (x := (some H47.size)) cx hnm q11 hlo hB (Nat.le_of_ble_eq_true rfl) d_Mo_init_110 (fun H51 locs ho52 z_H51 o_H51 hlo => ?_)
  have ho52 : hOb (eD E) classes H51 a 10 [.ref H.size, .int 0, .ref H3.size, .int 0, .int 0, .ref H7.size, .ref H11.size, .ref H19.size, .ref H23.size, .ref H27.size, .ref H31.size, .ref H35.size, .ref H39.size, .ref H43.size, .int 0, .int 0, .int 0, .int 0, .int 0, .ref H47.size, .int 0, .int 0, .int 0, .null, .int 0, .null] := ho52
  have r11 : hAi H51 H47.size (eA E 0) 20 (fun i => nI (g0.1 11 i)) := hAi.eq (show hAi H49 H47.size (eA E 0) 20 (fun _ => 0) from ha50) (o_H51 _ (by omega))
  have r0 := ((r0.eq (o_H49 _ (by omega))).eq (o_H51 _ (by omega)))
  have r1 := ((r1.eq (o_H49 _ (by omega))).eq (o_H51 _ (by omega)))
  have r2 := ((r2.eq (o_H49 _ (by omega))).eq (o_H51 _ (by omega)))
  have r3 := ((r3.eq (o_H49 _ (by omega))).eq (o_H51 _ (by omega)))
  have r4 := ((r4.eq (o_H49 _ (by omega))).eq (o_H51 _ (by omega)))
  have r5 := ((r5.eq (o_H49 _ (by omega))).eq (o_H51 _ (by omega)))
  have r6 := ((r6.eq (o_H49 _ (by omega))).eq (o_H51 _ (by omega)))
  have r7 := ((r7.eq (o_H49 _ (by omega))).eq (o_H51 _ (by omega)))
  have r8 := ((r8.eq (o_H49 _ (by omega))).eq (o_H51 _ (by omega)))
  have r9 := ((r9.eq (o_H49 _ (by omega))).eq (o_H51 _ (by omega)))
  have r10 := ((r10.eq (o_H49 _ (by omega))).eq (o_H51 _ (by omega)))
  have s11 : H51.size = H.size + 12 := by omega
  rw [s10] at r11
  refine lv_aload_n cx.x cx.b d_Mo_init_113 rfl (lv_at hl 0 rfl) ?_
  refine lv_sipush (v := 300) cx.x cx.b d_Mo_init_114 (by decide) ?_
  refine hx_newa (atype := .int) (a0 := (300, .inl (fun _ => 0))) cx.x cx.b (cx.ts _ tw_72) cx.K 0 rfl (fun _ => rfl) (by decide) (by decide) (Nat.le_trans (Nat.mul_le_mul (show 300 ≤ 5000 by omega) (show componentBytes (newarray.typeOf .int) ≤ 8 by decide)) (by decide)) (Nat.le_of_ble_eq_true rfl) (Nat.le_of_ble_eq_true rfl) d_Mo_init_117 (fun H53 ha54 z_H53 o_H53 => ?_)
  have q12 : hOb (eD E) classes H53 a 10 [.ref H.size, .int 0, .ref H3.size, .int 0, .int 0, .ref H7.size, .ref H11.size, .ref H19.size, .ref H23.size, .ref H27.size, .ref H31.size, .ref H35.size, .ref H39.size, .ref H43.size, .int 0, .int 0, .int 0, .int 0, .int 0, .ref H47.size, .int 0, .int 0, .int 0, .null, .int 0, .null] := ho52.eq (o_H53 _ (by omega))
  refine pf_Mo_46_Mo (x := (some H51.size)) cx hnm q12 hlo hB (Nat.le_of_ble_eq_true rfl) d_Mo_init_119 (fun H55 locs ho56 z_H55 o_H55 hlo => ?_)
  have ho56 : hOb (eD E) classes H55 a 10 [.ref H.size, .int 0, .ref H3.size, .int 0, .int 0, .ref H7.size, .ref H11.size, .ref H19.size, .ref H23.size, .ref H27.size, .ref H31.size, .ref H35.size, .ref H39.size, .ref H43.size, .int 0, .int 0, .int 0, .int 0, .int 0, .ref H47.size, .int 0, .int 0, .int 0, .ref H51.size, .int 0, .null] := ho56
  have r12 : hAi H55 H51.size (eA E 0) 300 (fun i => nI (g0.1 12 i)) := hAi.eq (show hAi H53 H51.size (eA E 0) 300 (fun _ => 0) from ha54) (o_H55 _ (by omega))
  have r0 := ((r0.eq (o_H53 _ (by omega))).eq (o_H55 _ (by omega)))
  have r1 := ((r1.eq (o_H53 _ (by omega))).eq (o_H55 _ (by omega)))
  have r2 := ((r2.eq (o_H53 _ (by omega))).eq (o_H55 _ (by omega)))
  have r3 := ((r3.eq (o_H53 _ (by omega))).eq (o_H55 _ (by omega)))
  have r4 := ((r4.eq (o_H53 _ (by omega))).eq (o_H55 _ (by omega)))
  have r5 := ((r5.eq (o_H53 _ (by omega))).eq (o_H55 _ (by omega)))
  have r6 := ((r6.eq (o_H53 _ (by omega))).eq (o_H55 _ (by omega)))
  have r7 := ((r7.eq (o_H53 _ (by omega))).eq (o_H55 _ (by omega)))
  have r8 := ((r8.eq (o_H53 _ (by omega))).eq (o_H55 _ (by omega)))
  have r9 := ((r9.eq (o_H53 _ (by omega))).eq (o_H55 _ (by omega)))
  have r10 := ((r10.eq (o_H53 _ (by omega))).eq (o_H55 _ (by omega)))
  have r11 := ((r11.eq (o_H53 _ (by omega))).eq (o_H55 _ (by omega)))
  have s12 : H55.size = H.size + 13 := by omega
  rw [s11] at r12
  refine lv_aload_n cx.x cx.b d_Mo_init_122 rfl (lv_at hl 0 rfl) ?_
  refine lv_sipush (v := 300) cx.x cx.b d_Mo_init_123 (by decide) ?_
  refine hx_newa (atype := .int) (a0 := (300, .inl (fun _ => 0))) cx.x cx.b (cx.ts _ tw_72) cx.K 0 rfl (fun _ => rfl) (by decide) (by decide) (Nat.le_trans (Nat.mul_le_mul (show 300 ≤ 5000 by omega) (show componentBytes (newarray.typeOf .int) ≤ 8 by decide)) (by decide)) (Nat.le_of_ble_eq_true rfl) (Nat.le_of_ble_eq_true rfl) d_Mo_init_126 (fun H57 ha58 z_H57 o_H57 => ?_)
  have q13 : hOb (eD E) classes H57 a 10 [.ref H.size, .int 0, .ref H3.size, .int 0, .int 0, .ref H7.size, .ref H11.size, .ref H19.size, .ref H23.size, .ref H27.size, .ref H31.size, .ref H35.size, .ref H39.size, .ref H43.size, .int 0, .int 0, .int 0, .int 0, .int 0, .ref H47.size, .int 0, .int 0, .int 0, .ref H51.size, .int 0, .null] := ho56.eq (o_H57 _ (by omega))
  refine pf_Mo_49_Mo (x := (some H55.size)) cx hnm q13 hlo hB (Nat.le_of_ble_eq_true rfl) d_Mo_init_128 (fun H59 locs ho60 z_H59 o_H59 hlo => ?_)
  have ho60 : hOb (eD E) classes H59 a 10 [.ref H.size, .int 0, .ref H3.size, .int 0, .int 0, .ref H7.size, .ref H11.size, .ref H19.size, .ref H23.size, .ref H27.size, .ref H31.size, .ref H35.size, .ref H39.size, .ref H43.size, .int 0, .int 0, .int 0, .int 0, .int 0, .ref H47.size, .int 0, .int 0, .int 0, .ref H51.size, .int 0, .ref H55.size] := ho60
  have r13 : hAi H59 H55.size (eA E 0) 300 (fun i => nI (g0.1 13 i)) := hAi.eq (show hAi H57 H55.size (eA E 0) 300 (fun _ => 0) from ha58) (o_H59 _ (by omega))
  have r0 := ((r0.eq (o_H57 _ (by omega))).eq (o_H59 _ (by omega)))
  have r1 := ((r1.eq (o_H57 _ (by omega))).eq (o_H59 _ (by omega)))
  have r2 := ((r2.eq (o_H57 _ (by omega))).eq (o_H59 _ (by omega)))
  have r3 := ((r3.eq (o_H57 _ (by omega))).eq (o_H59 _ (by omega)))
  have r4 := ((r4.eq (o_H57 _ (by omega))).eq (o_H59 _ (by omega)))
  have r5 := ((r5.eq (o_H57 _ (by omega))).eq (o_H59 _ (by omega)))
  have r6 := ((r6.eq (o_H57 _ (by omega))).eq (o_H59 _ (by omega)))
  have r7 := ((r7.eq (o_H57 _ (by omega))).eq (o_H59 _ (by omega)))
  have r8 := ((r8.eq (o_H57 _ (by omega))).eq (o_H59 _ (by omega)))
  have r9 := ((r9.eq (o_H57 _ (by omega))).eq (o_H59 _ (by omega)))
  have r10 := ((r10.eq (o_H57 _ (by omega))).eq (o_H59 _ (by omega)))
  have r11 := ((r11.eq (o_H57 _ (by omega))).eq (o_H59 _ (by omega)))
  have r12 := ((r12.eq (o_H57 _ (by omega))).eq (o_H59 _ (by omega)))
  have s13 : H59.size = H.size + 14 := by omega
  rw [s12] at r13
  have f9 := ho60
  rw [s0, s1, s2, s3, s4, s5, s6, s7, s8, s9, s10, s11, s12] at f9
  have rr : ∀ k, k < 14 → hAi H59 (H.size + k) (eA E 0) (arL k) (fun i => nI (g0.1 k i)) := by
    intro k hk
    rcases (show k = 0 ∨ k = 1 ∨ k = 2 ∨ k = 3 ∨ k = 4 ∨ k = 5 ∨ k = 6 ∨ k = 7 ∨ k = 8 ∨ k = 9 ∨ k = 10 ∨ k = 11 ∨ k = 12 ∨ k = 13 by omega) with rfl | rfl | rfl | rfl | rfl | rfl | rfl | rfl | rfl | rfl | rfl | rfl | rfl | rfl
    · exact r0
    · exact r1
    · exact r2
    · exact r3
    · exact r4
    · exact r5
    · exact r6
    · exact r7
    · exact r8
    · exact r9
    · exact r10
    · exact r11
    · exact r12
    · exact r13
  exact hx_retv cx.x cx.b cx.r cx.k hlo (fun _ h => h) (Nat.le_of_ble_eq_true rfl) (Nat.le_of_ble_eq_true rfl) d_Mo_init_131 (⟨⟨f9, rr, hB, fun k hk => ⟨show eB E ≤ H.size + k by omega, show H.size + k ≠ a by omega⟩, fun j k _ _ hn => show H.size + j ≠ H.size + k by omega⟩, ⟨by omega, fun q hq hn => by rw [o_H59 q hn, o_H57 q (by omega), o_H55 q hn, o_H53 q (by omega), o_H51 q hn, o_H49 q (by omega), o_H47 q hn, o_H45 q (by omega), o_H43 q hn, o_H41 q (by omega), o_H39 q hn, o_H37 q (by omega), o_H35 q hn, o_H33 q (by omega), o_H31 q hn, o_H29 q (by omega), o_H27 q hn, o_H25 q (by omega), o_H23 q hn, o_H21 q (by omega), o_H19 q hn, o_H17 q (by omega), o_H15 q (by omega), o_H13 q (by omega), o_H11 q hn, o_H9 q (by omega), o_H7 q hn, o_H5 q (by omega), o_H3 q hn, o_H1 q (by omega)]⟩, by omega⟩)
