theorem fpB0 {E : hE} (hL : EnvL E) (bl s t : Nat) : fpB E bl (s, t, eK E 100, 0) [] [] = [bl, s, t] := by
  unfold fpB fpH fpSA fpA fpTs
  rw [if_neg (Nat.not_le.mpr hL.1)]
  rfl
set_option maxHeartbeats 4000000 in
set_option maxRecDepth 100000 in
theorem c_Dg_init (l : Launch) {E : hE} (hE : EnvOk E) {H : Heap} {a : Nat} (h : hOb (eD E) classes H a 6 [.null, .null, .null, .int 0]) (hB : eB E ≤ a) (hH : eB E ≤ H.size) : Ct l E y_Dg_init b_Dg_init 1 none (rmA 1 3 60) [.ref a] H (hQv (fun H1 => Dg E H1 a H.size (H.size + 1) (H.size + 2) [] ∧ hCh (fun q => q = a) H H1 ∧ H1.size = H.size + 3)) := by
  refine hx_enter hE (by decide) (Nat.le_of_ble_eq_true rfl) ?_
  intro p e s m args below meth c ls cx hnm hl
  have hl : lv_has ls 1 [(0, .ref a)] := hl
  have hlo : hLo (eB E) [] := hLo.nil
  have hlt := h.lt
  refine lv_aload_n cx.x cx.b d_Dg_init_0 rfl (lv_at hl 0 rfl) ?_
  refine W.objInit cx.x cx.b cx.o (cx.ts _ tw_55) (cx.ts _ tw_31) (cx.ts _ tw_32) rfl (hl.1.trans cx.ml.symm) rfl d_Dg_init_1 (Nat.le_of_ble_eq_true rfl) (Nat.le_of_ble_eq_true rfl) ?_
  refine W.eq (g2 := F0 m 4 ls []) rfl ?_
  refine lv_aload_n cx.x cx.b d_Dg_init_4 rfl (lv_at hl 0 rfl) ?_
  refine lv_bipush (v := 20) cx.x cx.b d_Dg_init_5 (by decide) ?_
  refine hx_newa (atype := .int) (a0 := (20, .inl (fun _ => 0))) cx.x cx.b (cx.ts _ tw_72) cx.K 0 rfl (fun _ => rfl) (by decide) (by decide) (Nat.le_trans (Nat.mul_le_mul (show 20 ≤ 5000 by omega) (show componentBytes (newarray.typeOf .int) ≤ 8 by decide)) (by decide)) (Nat.le_of_ble_eq_true rfl) (Nat.le_of_ble_eq_true rfl) d_Dg_init_7 (fun H66 ha67 z_H66 o_H66 => ?_)
  have q0 : hOb (eD E) classes H66 a 6 [.null, .null, .null, .int 0] := h.eq (o_H66 _ (by omega))
  refine pf_Dg_9_Dg (x := (some H.size)) cx hnm q0 hlo hB (Nat.le_of_ble_eq_true rfl) d_Dg_init_9 (fun H68 locs ho69 z_H68 o_H68 hlo => ?_)
  have ho69 : hOb (eD E) classes H68 a 6 [.ref H.size, .null, .null, .int 0] := ho69
  have r0 : hAi H68 H.size (eA E 0) 20 (fun _ => 0) := hAi.eq (show hAi H66 H.size (eA E 0) 20 (fun _ => 0) from ha67) (o_H68 _ (by omega))
  have s0 : H68.size = H.size + 1 := by omega
  refine lv_aload_n cx.x cx.b d_Dg_init_12 rfl (lv_at hl 0 rfl) ?_
  refine lv_bipush (v := 20) cx.x cx.b d_Dg_init_13 (by decide) ?_
  refine hx_newa (atype := .int) (a0 := (20, .inl (fun _ => 0))) cx.x cx.b (cx.ts _ tw_72) cx.K 0 rfl (fun _ => rfl) (by decide) (by decide) (Nat.le_trans (Nat.mul_le_mul (show 20 ≤ 5000 by omega) (show componentBytes (newarray.typeOf .int) ≤ 8 by decide)) (by decide)) (Nat.le_of_ble_eq_true rfl) (Nat.le_of_ble_eq_true rfl) d_Dg_init_15 (fun H70 ha71 z_H70 o_H70 => ?_)
  have q1 : hOb (eD E) classes H70 a 6 [.ref H.size, .null, .null, .int 0] := ho69.eq (o_H70 _ (by omega))
  refine pf_Dg_15_Dg (x := (some H68.size)) cx hnm q1 hlo hB (Nat.le_of_ble_eq_true rfl) d_Dg_init_17 (fun H72 locs ho73 z_H72 o_H72 hlo => ?_)
  have ho73 : hOb (eD E) classes H72 a 6 [.ref H.size, .ref H68.size, .null, .int 0] := ho73
  have r1 : hAi H72 H68.size (eA E 0) 20 (fun _ => 0) := hAi.eq (show hAi H70 H68.size (eA E 0) 20 (fun _ => 0) from ha71) (o_H72 _ (by omega))
  have r0 := (r0.eq (o_H70 _ (by omega))).eq (o_H72 _ (by omega))
  have s1 : H72.size = H.size + 2 := by omega
  refine lv_aload_n cx.x cx.b d_Dg_init_20 rfl (lv_at hl 0 rfl) ?_
  refine lv_bipush (v := 20) cx.x cx.b d_Dg_init_21 (by decide) ?_
  refine hx_newa (atype := .int) (a0 := (20, .inl (fun _ => 0))) cx.x cx.b (cx.ts _ tw_72) cx.K 0 rfl (fun _ => rfl) (by decide) (by decide) (Nat.le_trans (Nat.mul_le_mul (show 20 ≤ 5000 by omega) (show componentBytes (newarray.typeOf .int) ≤ 8 by decide)) (by decide)) (Nat.le_of_ble_eq_true rfl) (Nat.le_of_ble_eq_true rfl) d_Dg_init_23 (fun H74 ha75 z_H74 o_H74 => ?_)
  have q2 : hOb (eD E) classes H74 a 6 [.ref H.size, .ref H68.size, .null, .int 0] := ho73.eq (o_H74 _ (by omega))
  refine pf_Dg_18_Dg (x := (some H72.size)) cx hnm q2 hlo hB (Nat.le_of_ble_eq_true rfl) d_Dg_init_25 (fun H76 locs ho77 z_H76 o_H76 hlo => ?_)
  have ho77 : hOb (eD E) classes H76 a 6 [.ref H.size, .ref H68.size, .ref H72.size, .int 0] := ho77
  have r2 : hAi H76 H72.size (eA E 0) 20 (fun _ => 0) := hAi.eq (show hAi H74 H72.size (eA E 0) 20 (fun _ => 0) from ha75) (o_H76 _ (by omega))
  have r0 := (r0.eq (o_H74 _ (by omega))).eq (o_H76 _ (by omega))
  have r1 := (r1.eq (o_H74 _ (by omega))).eq (o_H76 _ (by omega))
  have s2 : H76.size = H.size + 3 := by omega
  rw [s0] at r1
  rw [s1] at r2
  have f9 := ho77
  rw [s0, s1] at f9
  exact hx_retv cx.x cx.b cx.r cx.k hlo (fun _ h => h) (Nat.le_of_ble_eq_true rfl) (Nat.le_of_ble_eq_true rfl) d_Dg_init_28 (⟨⟨f9, ⟨_, _, _, r0, r1, r2, fun i hi _ => absurd hi (Nat.not_lt_zero i)⟩, ⟨hB, hH, by omega, by omega⟩, ⟨by omega, by omega, by omega, by omega, by omega, by omega⟩⟩, ⟨by omega, fun q hq hn => by rw [o_H76 q hn, o_H74 q (by omega), o_H72 q hn, o_H70 q (by omega), o_H68 q hn, o_H66 q (by omega)]⟩, by omega⟩)

set_option maxHeartbeats 4000000 in
set_option maxRecDepth 100000 in
theorem c_B_init (l : Launch) {E : hE} (hE : EnvOk E) (hL : EnvL E) {H : Heap} {a : Nat} (h : hOb (eD E) classes H a 9 [.null, .null, .null, .null, .null]) (hB : eB E ≤ a) (hO : Old E H) : Ct l E y_B_init b_B_init 1 none (rmA 6 14 1060) [.ref a] H (hQv (fun H1 => BTx E H1 a H.size (H.size + 1) (H.size + 2) (H.size + 3) (H.size + 4) (H.size + 5) (H.size + 6) (H.size + 7) (H.size + 8) (H.size + 11) (H.size + 9, H.size + 10, eK E 100, 0) (H.size + 12, H.size + 13, eK E 100, 0) [] [] [] [] [] false [] false [] 2 2 ∧ hCh (fun q => q = a) H H1 ∧ H1.size = H.size + 14)) := by
  refine hx_enter hE (by decide) (Nat.le_of_ble_eq_true rfl) ?_
  intro p e s m args below meth c ls cx hnm hl
  have hl : lv_has ls 1 [(0, .ref a)] := hl
  have hlo : hLo (eB E) [] := hLo.nil
  have hlt := h.lt
  have hsz := hO.1
  refine lv_aload_n cx.x cx.b d_B_init_0 rfl (lv_at hl 0 rfl) ?_
  refine W.objInit cx.x cx.b cx.o (cx.ts _ tw_30) (cx.ts _ tw_31) (cx.ts _ tw_32) rfl (hl.1.trans cx.ml.symm) rfl d_B_init_1 (Nat.le_of_ble_eq_true rfl) (Nat.le_of_ble_eq_true rfl) ?_
  refine W.eq (g2 := F0 m 4 ls []) rfl ?_
  have s_H : H.size = H.size + 0 := rfl
  have kH : hCh (fun q => q = a) H H := hCh.rf
  refine lv_aload_n cx.x cx.b d_B_init_4 rfl (lv_at hl 0 rfl) ?_
  refine nw_B_7 cx (Nat.le_of_ble_eq_true rfl) (Nat.le_of_ble_eq_true rfl) d_B_init_5 (fun H78 hn79 z_H78 o_H78 => ?_)
  refine lv_dup cx.x cx.b d_B_init_8 rfl ?_
  refine lv_sipush (v := 480) cx.x cx.b d_B_init_9 (by decide) ?_
  have kn0 : hCh (fun q => False) H H78 := hCh.new z_H78 o_H78
  have hO0 : Old E H78 := hO.ch (kH.tr (kn0.mono (fun q _ z => z.elim))) (fun q e => by rw [e]; exact hB)
  refine hx_callv (iv_B_11 cx (c_Rw_init l hE (H := H78) (a := H.size) (cap := 480) hn79 (by omega) (by omega) (by omega)) rfl hl.1 rfl (Nat.le_of_ble_eq_true rfl) d_B_init_12 ⟨Nat.le_of_ble_eq_true rfl, Nat.le_of_ble_eq_true rfl⟩ ⟨Nat.le_of_ble_eq_true rfl, Nat.le_of_ble_eq_true rfl⟩) hlo (fun _ h => h) (fun H81 locs hp80 hlo => ?_)
  obtain ⟨x0, ki0, zi0⟩ := hp80
  have q0 := (h.ch kn0 id).ch ki0 (show a ≠ H.size by omega)
  refine pf_B_14_B (x := (some H.size)) cx hnm q0 hlo hB (Nat.le_of_ble_eq_true rfl) d_B_init_15 (fun H82 locs ho83 z_H82 o_H82 hlo => ?_)
  have ho83 : hOb (eD E) classes H82 a 9 [.ref H.size, .null, .null, .null, .null] := ho83
  have kp0 : hCh (fun q => q = a) H81 H82 := hCh.put z_H82 o_H82 rfl
  have ks0 : hCh (fun q => q = a ∨ H.size ≤ q) H H82 := ((kn0.mono (fun q _ z => z.elim)).tr (ki0.mono (fun q _ z => Or.inr (Nat.le_of_eq z.symm)))).tr (kp0.mono (fun q _ z => Or.inl z))
  have kH : hCh (fun q => q = a) H H82 := ⟨by omega, fun q hq hn => by rw [ks0.2 q (by omega) (by omega), kH.2 q hq hn]⟩
  rw [show H78.size = H.size + 1 from z_H78, s_H] at x0
  have x0 := x0.ch kp0 (show H.size + 0 ≠ a by omega) (show H.size + 0 + 1 ≠ a by omega)
  have s_H82 : H82.size = H.size + 2 := by omega
  have o0 := ho83
  skip
  refine lv_aload_n cx.x cx.b d_B_init_18 rfl (lv_at hl 0 rfl) ?_
  refine nw_B_7 cx (Nat.le_of_ble_eq_true rfl) (Nat.le_of_ble_eq_true rfl) d_B_init_19 (fun H84 hn85 z_H84 o_H84 => ?_)
  refine lv_dup cx.x cx.b d_B_init_22 rfl ?_
  refine lv_sipush (v := 480) cx.x cx.b d_B_init_23 (by decide) ?_
  have kn1 : hCh (fun q => False) H82 H84 := hCh.new z_H84 o_H84
  have hO1 : Old E H84 := hO.ch (kH.tr (kn1.mono (fun q _ z => z.elim))) (fun q e => by rw [e]; exact hB)
  refine hx_callv (iv_B_11 cx (c_Rw_init l hE (H := H84) (a := H82.size) (cap := 480) hn85 (by omega) (by omega) (by omega)) rfl hl.1 rfl (Nat.le_of_ble_eq_true rfl) d_B_init_26 ⟨Nat.le_of_ble_eq_true rfl, Nat.le_of_ble_eq_true rfl⟩ ⟨Nat.le_of_ble_eq_true rfl, Nat.le_of_ble_eq_true rfl⟩) hlo (fun _ h => h) (fun H87 locs hp86 hlo => ?_)
  obtain ⟨x1, ki1, zi1⟩ := hp86
  have q1 := (o0.ch kn1 id).ch ki1 (show a ≠ H82.size by omega)
  refine pf_B_18_B (x := (some H82.size)) cx hnm q1 hlo hB (Nat.le_of_ble_eq_true rfl) d_B_init_29 (fun H88 locs ho89 z_H88 o_H88 hlo => ?_)
  have ho89 : hOb (eD E) classes H88 a 9 [.ref H.size, .ref H82.size, .null, .null, .null] := ho89
  have kp1 : hCh (fun q => q = a) H87 H88 := hCh.put z_H88 o_H88 rfl
  have ks1 : hCh (fun q => q = a ∨ H82.size ≤ q) H82 H88 := ((kn1.mono (fun q _ z => z.elim)).tr (ki1.mono (fun q _ z => Or.inr (Nat.le_of_eq z.symm)))).tr (kp1.mono (fun q _ z => Or.inl z))
  have kH : hCh (fun q => q = a) H H88 := ⟨by omega, fun q hq hn => by rw [ks1.2 q (by omega) (by omega), kH.2 q hq hn]⟩
  have x0 := x0.ch ks1 (show ¬ (H.size + 0 = a ∨ H82.size ≤ H.size + 0) by omega) (show ¬ (H.size + 1 = a ∨ H82.size ≤ H.size + 1) by omega)
  rw [show H84.size = H82.size + 1 from z_H84, s_H82] at x1
  have x1 := x1.ch kp1 (show H.size + 2 ≠ a by omega) (show H.size + 2 + 1 ≠ a by omega)
  have s_H88 : H88.size = H.size + 4 := by omega
  have o1 := ho89
  rw [s_H82] at o1
  refine lv_aload_n cx.x cx.b d_B_init_32 rfl (lv_at hl 0 rfl) ?_
  refine nw_B_21 cx (Nat.le_of_ble_eq_true rfl) (Nat.le_of_ble_eq_true rfl) d_B_init_33 (fun H90 hn91 z_H90 o_H90 => ?_)
  refine lv_dup cx.x cx.b d_B_init_36 rfl ?_
  have kn2 : hCh (fun q => False) H88 H90 := hCh.new z_H90 o_H90
  have hO2 : Old E H90 := hO.ch (kH.tr (kn2.mono (fun q _ z => z.elim))) (fun q e => by rw [e]; exact hB)
  refine hx_callv (iv_B_23 cx (c_Dg_init l hE (H := H90) (a := H88.size) hn91 (by omega) (by omega)) rfl hl.1 rfl (Nat.le_of_ble_eq_true rfl) d_B_init_37 ⟨Nat.le_of_ble_eq_true rfl, Nat.le_of_ble_eq_true rfl⟩ ⟨Nat.le_of_ble_eq_true rfl, Nat.le_of_ble_eq_true rfl⟩) hlo (fun _ h => h) (fun H93 locs hp92 hlo => ?_)
  obtain ⟨x2, ki2, zi2⟩ := hp92
  have q2 := (o1.ch kn2 id).ch ki2 (show a ≠ H88.size by omega)
  refine pf_B_24_B (x := (some H88.size)) cx hnm q2 hlo hB (Nat.le_of_ble_eq_true rfl) d_B_init_40 (fun H94 locs ho95 z_H94 o_H94 hlo => ?_)
  have ho95 : hOb (eD E) classes H94 a 9 [.ref H.size, .ref (H.size + 2), .ref H88.size, .null, .null] := ho95
  have kp2 : hCh (fun q => q = a) H93 H94 := hCh.put z_H94 o_H94 rfl
  have ks2 : hCh (fun q => q = a ∨ H88.size ≤ q) H88 H94 := ((kn2.mono (fun q _ z => z.elim)).tr (ki2.mono (fun q _ z => Or.inr (Nat.le_of_eq z.symm)))).tr (kp2.mono (fun q _ z => Or.inl z))
  have kH : hCh (fun q => q = a) H H94 := ⟨by omega, fun q hq hn => by rw [ks2.2 q (by omega) (by omega), kH.2 q hq hn]⟩
  have x0 := x0.ch ks2 (show ¬ (H.size + 0 = a ∨ H88.size ≤ H.size + 0) by omega) (show ¬ (H.size + 1 = a ∨ H88.size ≤ H.size + 1) by omega)
  have x1 := x1.ch ks2 (show ¬ (H.size + 2 = a ∨ H88.size ≤ H.size + 2) by omega) (show ¬ (H.size + 3 = a ∨ H88.size ≤ H.size + 3) by omega)
  rw [show H90.size = H88.size + 1 from z_H90, s_H88] at x2
  have x2 := x2.ch kp2 (fun q hq => show q ≠ a by rcases hq with e | e | e | e <;> omega)
  have s_H94 : H94.size = H.size + 8 := by omega
  have o2 := ho95
  rw [s_H88] at o2
  refine lv_aload_n cx.x cx.b d_B_init_43 rfl (lv_at hl 0 rfl) ?_
  refine nw_B_28 cx (Nat.le_of_ble_eq_true rfl) (Nat.le_of_ble_eq_true rfl) d_B_init_44 (fun H96 hn97 z_H96 o_H96 => ?_)
  refine lv_dup cx.x cx.b d_B_init_47 rfl ?_
  have kn3 : hCh (fun q => False) H94 H96 := hCh.new z_H96 o_H96
  have hO3 : Old E H96 := hO.ch (kH.tr (kn3.mono (fun q _ z => z.elim))) (fun q e => by rw [e]; exact hB)
  refine hx_callv (iv_B_30 cx (c_Bl_init l hE hL (H := H96) (a := H94.size) hn97 (by omega) hO3) rfl hl.1 rfl (Nat.le_of_ble_eq_true rfl) d_B_init_48 ⟨Nat.le_of_ble_eq_true rfl, Nat.le_of_ble_eq_true rfl⟩ ⟨Nat.le_of_ble_eq_true rfl, Nat.le_of_ble_eq_true rfl⟩) hlo (fun _ h => h) (fun H99 locs hp98 hlo => ?_)
  obtain ⟨x3, ki3, zi3⟩ := hp98
  have q3 := (o2.ch kn3 id).ch ki3 (show a ≠ H94.size by omega)
  refine pf_B_31_B (x := (some H94.size)) cx q3 hlo hB (Nat.le_of_ble_eq_true rfl) d_B_init_51 (fun H100 locs ho101 z_H100 o_H100 hlo => ?_)
  have ho101 : hOb (eD E) classes H100 a 9 [.ref H.size, .ref (H.size + 2), .ref (H.size + 4), .ref H94.size, .null] := ho101
  have kp3 : hCh (fun q => q = a) H99 H100 := hCh.put z_H100 o_H100 rfl
  have ks3 : hCh (fun q => q = a ∨ H94.size ≤ q) H94 H100 := ((kn3.mono (fun q _ z => z.elim)).tr (ki3.mono (fun q _ z => Or.inr (Nat.le_of_eq z.symm)))).tr (kp3.mono (fun q _ z => Or.inl z))
  have kH : hCh (fun q => q = a) H H100 := ⟨by omega, fun q hq hn => by rw [ks3.2 q (by omega) (by omega), kH.2 q hq hn]⟩
  have x0 := x0.ch ks3 (show ¬ (H.size + 0 = a ∨ H94.size ≤ H.size + 0) by omega) (show ¬ (H.size + 1 = a ∨ H94.size ≤ H.size + 1) by omega)
  have x1 := x1.ch ks3 (show ¬ (H.size + 2 = a ∨ H94.size ≤ H.size + 2) by omega) (show ¬ (H.size + 3 = a ∨ H94.size ≤ H.size + 3) by omega)
  have x2 := x2.ch ks3 (fun q hq => show ¬ (q = a ∨ H94.size ≤ q) by rcases hq with e | e | e | e <;> omega)
  rw [show H96.size = H94.size + 1 from z_H96, s_H94] at x3
  have x3 := x3.ch kp3 (fun q hq => show q ≠ a by rw [fpB0 hL] at hq; simp only [List.mem_cons, List.not_mem_nil, or_false] at hq; omega)
  have s_H100 : H100.size = H.size + 11 := by omega
  have o3 := ho101
  rw [s_H94] at o3
  refine lv_aload_n cx.x cx.b d_B_init_54 rfl (lv_at hl 0 rfl) ?_
  refine nw_B_28 cx (Nat.le_of_ble_eq_true rfl) (Nat.le_of_ble_eq_true rfl) d_B_init_55 (fun H102 hn103 z_H102 o_H102 => ?_)
  refine lv_dup cx.x cx.b d_B_init_58 rfl ?_
  have kn4 : hCh (fun q => False) H100 H102 := hCh.new z_H102 o_H102
  have hO4 : Old E H102 := hO.ch (kH.tr (kn4.mono (fun q _ z => z.elim))) (fun q e => by rw [e]; exact hB)
  refine hx_callv (iv_B_30 cx (c_Bl_init l hE hL (H := H102) (a := H100.size) hn103 (by omega) hO4) rfl hl.1 rfl (Nat.le_of_ble_eq_true rfl) d_B_init_59 ⟨Nat.le_of_ble_eq_true rfl, Nat.le_of_ble_eq_true rfl⟩ ⟨Nat.le_of_ble_eq_true rfl, Nat.le_of_ble_eq_true rfl⟩) hlo (fun _ h => h) (fun H105 locs hp104 hlo => ?_)
  obtain ⟨x4, ki4, zi4⟩ := hp104
  have q4 := (o3.ch kn4 id).ch ki4 (show a ≠ H100.size by omega)
  refine pf_B_35_B (x := (some H100.size)) cx q4 hlo hB (Nat.le_of_ble_eq_true rfl) d_B_init_62 (fun H106 locs ho107 z_H106 o_H106 hlo => ?_)
  have ho107 : hOb (eD E) classes H106 a 9 [.ref H.size, .ref (H.size + 2), .ref (H.size + 4), .ref (H.size + 8), .ref H100.size] := ho107
  have kp4 : hCh (fun q => q = a) H105 H106 := hCh.put z_H106 o_H106 rfl
  have ks4 : hCh (fun q => q = a ∨ H100.size ≤ q) H100 H106 := ((kn4.mono (fun q _ z => z.elim)).tr (ki4.mono (fun q _ z => Or.inr (Nat.le_of_eq z.symm)))).tr (kp4.mono (fun q _ z => Or.inl z))
  have kH : hCh (fun q => q = a) H H106 := ⟨by omega, fun q hq hn => by rw [ks4.2 q (by omega) (by omega), kH.2 q hq hn]⟩
  have x0 := x0.ch ks4 (show ¬ (H.size + 0 = a ∨ H100.size ≤ H.size + 0) by omega) (show ¬ (H.size + 1 = a ∨ H100.size ≤ H.size + 1) by omega)
  have x1 := x1.ch ks4 (show ¬ (H.size + 2 = a ∨ H100.size ≤ H.size + 2) by omega) (show ¬ (H.size + 3 = a ∨ H100.size ≤ H.size + 3) by omega)
  have x2 := x2.ch ks4 (fun q hq => show ¬ (q = a ∨ H100.size ≤ q) by rcases hq with e | e | e | e <;> omega)
  have x3 := x3.ch ks4 (fun q hq => show ¬ (q = a ∨ H100.size ≤ q) by rw [fpB0 hL] at hq; simp only [List.mem_cons, List.not_mem_nil, or_false] at hq; omega)
  rw [show H102.size = H100.size + 1 from z_H102, s_H100] at x4
  have x4 := x4.ch kp4 (fun q hq => show q ≠ a by rw [fpB0 hL] at hq; simp only [List.mem_cons, List.not_mem_nil, or_false] at hq; omega)
  have s_H106 : H106.size = H.size + 14 := by omega
  have o4 := ho107
  rw [s_H100] at o4
  exact hx_retv cx.x cx.b cx.r cx.k hlo (fun _ h => h) (Nat.le_of_ble_eq_true rfl) (Nat.le_of_ble_eq_true rfl) d_B_init_65 (⟨⟨o4, hB, x0, x1, x2, x3, x4, by unfold grB; rw [fpB0 hL, fpB0 hL]; simp only [List.flatten_cons, List.flatten_nil, List.cons_append, List.nil_append, List.nodup_cons, List.mem_cons, List.not_mem_nil, or_false, not_or, not_false_eq_true, List.nodup_nil, and_true]; refine ⟨⟨?_, ?_, ?_, ?_, ?_, ?_, ?_, ?_, ?_, ?_, ?_, ?_, ?_, ?_⟩, ⟨?_, ?_, ?_, ?_, ?_, ?_, ?_, ?_, ?_, ?_, ?_, ?_, ?_⟩, ⟨?_, ?_, ?_, ?_, ?_, ?_, ?_, ?_, ?_, ?_, ?_, ?_⟩, ⟨?_, ?_, ?_, ?_, ?_, ?_, ?_, ?_, ?_, ?_, ?_⟩, ⟨?_, ?_, ?_, ?_, ?_, ?_, ?_, ?_, ?_, ?_⟩, ⟨?_, ?_, ?_, ?_, ?_, ?_, ?_, ?_, ?_⟩, ⟨?_, ?_, ?_, ?_, ?_, ?_, ?_, ?_⟩, ⟨?_, ?_, ?_, ?_, ?_, ?_, ?_⟩, ⟨?_, ?_, ?_, ?_, ?_, ?_⟩, ⟨?_, ?_, ?_, ?_, ?_⟩, ⟨?_, ?_, ?_, ?_⟩, ⟨?_, ?_, ?_⟩, ⟨?_, ?_⟩, ?_⟩ <;> omega⟩, kH, by omega⟩)
