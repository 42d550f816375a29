set_option maxHeartbeats 4000000 in
set_option maxRecDepth 100000 in
theorem c_Rw_length (l : Launch) {E : hE} (hE : EnvOk E) {H : Heap} {a arr cap : Nat} {xs : List Nat} {o : Bool} (h : Rw E H a arr cap xs o) : Ct l E y_Rw_length b_Rw_length 1 (some .int) (rmA 0 0 0) [.ref a] H (hQi (fun r H1 => r = nI xs.length ∧ H1 = H)) := by
  refine hx_enter hE (by decide) (Nat.le_of_ble_eq_true rfl) ?_
  intro p e s m args below meth c ls cx hnm hl
  have hl : lv_has ls 1 [(0, .ref a)] := hl
  have hlo : hLo (eB E) [] := hLo.nil
  obtain ⟨ho, ⟨f, hf, hc⟩, hle, hcap, ⟨hBa, hBr, hne⟩, hx⟩ := h
  refine lv_aload_n cx.x cx.b d_Rw_length_0 rfl (lv_at hl 0 rfl) ?_
  refine gf_Rw_15_Rw cx ho rfl d_Rw_length_1 ?_
  exact hx_reti cx.x cx.b cx.r cx.k rfl hlo (fun _ h => h) (Nat.le_of_ble_eq_true rfl) (Nat.le_of_ble_eq_true rfl) d_Rw_length_4 (⟨rfl, rfl⟩)

set_option maxHeartbeats 4000000 in
set_option maxRecDepth 100000 in
theorem c_Rw_fits (l : Launch) {E : hE} (hE : EnvOk E) {H : Heap} {a arr cap : Nat} {xs : List Nat} {o : Bool} (h : Rw E H a arr cap xs o) : Ct l E y_Rw_fits b_Rw_fits 1 (some .boolean) (rmA 0 0 0) [.ref a] H (hQi (fun r H1 => r = bI (!o) ∧ H1 = H)) := by
  refine hx_enter hE (by decide) (Nat.le_of_ble_eq_true rfl) ?_
  intro p e s m args below meth c ls cx hnm hl
  have hl : lv_has ls 1 [(0, .ref a)] := hl
  have hlo : hLo (eB E) [] := hLo.nil
  obtain ⟨ho, ⟨f, hf, hc⟩, hle, hcap, ⟨hBa, hBr, hne⟩, hx⟩ := h
  refine lv_aload_n cx.x cx.b d_Rw_fits_0 rfl (lv_at hl 0 rfl) ?_
  refine gf_Rw_19_Rw cx ho rfl d_Rw_fits_1 ?_
  refine lv_if_ne (tgt := 11) cx.x cx.b d_Rw_fits_4 (by decide) (fun c1 => ?_) (fun c1 => ?_)
  · refine lv_iconst (v := 0) cx.x cx.b d_Rw_fits_11 (by decide) ?_
    exact hx_reti cx.x cx.b cx.r cx.k rfl hlo (fun _ h => h) (Nat.le_of_ble_eq_true rfl) (Nat.le_of_ble_eq_true rfl) d_Rw_fits_12 (⟨by cases o with | true => rfl | false => exact absurd rfl c1, rfl⟩)
  · refine lv_iconst (v := 1) cx.x cx.b d_Rw_fits_7 (by decide) ?_
    refine lv_goto (tgt := 12) cx.x cx.b d_Rw_fits_8 (by decide) ?_
    exact hx_reti cx.x cx.b cx.r cx.k rfl hlo (fun _ h => h) (Nat.le_of_ble_eq_true rfl) (Nat.le_of_ble_eq_true rfl) d_Rw_fits_12 (⟨by cases o with | true => exact absurd c1 (by decide) | false => rfl, rfl⟩)

set_option maxHeartbeats 4000000 in
set_option maxRecDepth 100000 in
theorem c_Rw_at (l : Launch) {E : hE} (hE : EnvOk E) {H : Heap} {a arr cap : Nat} {xs : List Nat} {o : Bool} (h : Rw E H a arr cap xs o) (i : Int32) : Ct l E y_Rw_at b_Rw_at 2 (some .int) (rmA 0 0 0) [.ref a, .int i] H (hQi (fun r H1 => r = atI xs i ∧ H1 = H)) := by
  refine hx_enter hE (by decide) (Nat.le_of_ble_eq_true rfl) ?_
  intro p e s m args below meth c ls cx hnm hl
  have hl : lv_has ls 2 [(0, .ref a), (1, .int i)] := hl
  have hlo : hLo (eB E) [] := hLo.nil
  obtain ⟨ho, ⟨f, hf, hc⟩, hle, hcap, ⟨hBa, hBr, hne⟩, hx⟩ := h
  refine lv_iload_n cx.x cx.b d_Rw_at_0 rfl (lv_at hl 1 rfl) ?_
  refine lv_if_lt (tgt := 21) cx.x cx.b d_Rw_at_1 (by decide) (fun c1 => ?_) (fun c1 => ?_)
  · refine lv_iconst (v := (-1)) cx.x cx.b d_Rw_at_21 (by decide) ?_
    exact hx_reti cx.x cx.b cx.r cx.k rfl hlo (fun _ h => h) (Nat.le_of_ble_eq_true rfl) (Nat.le_of_ble_eq_true rfl) d_Rw_at_22 (⟨by unfold atI; rw [if_pos c1], rfl⟩)
  · refine lv_iload_n cx.x cx.b d_Rw_at_4 rfl (lv_at hl 1 rfl) ?_
    refine lv_aload_n cx.x cx.b d_Rw_at_5 rfl (lv_at hl 0 rfl) ?_
    refine gf_Rw_15_Rw cx ho rfl d_Rw_at_6 ?_
    refine lv_icmp_ge (tgt := 21) cx.x cx.b d_Rw_at_9 (by decide) (fun c2 => ?_) (fun c2 => ?_)
    · refine lv_iconst (v := (-1)) cx.x cx.b d_Rw_at_21 (by decide) ?_
      exact hx_reti cx.x cx.b cx.r cx.k rfl hlo (fun _ h => h) (Nat.le_of_ble_eq_true rfl) (Nat.le_of_ble_eq_true rfl) d_Rw_at_22 (⟨by unfold atI; rw [if_neg c1, if_pos c2], rfl⟩)
    · refine lv_aload_n cx.x cx.b d_Rw_at_12 rfl (lv_at hl 0 rfl) ?_
      refine gf_Rw_9_Rw cx ho rfl d_Rw_at_13 ?_
      refine lv_iload_n cx.x cx.b d_Rw_at_16 rfl (lv_at hl 1 rfl) ?_
      refine hx_cald cx.x cx.b cx.K 1 hf rfl (ix_in c1 c2 hle (by omega)) d_Rw_at_17 ?_
      refine lv_topi (fun x1 e_x1 => ?_)
      refine lv_goto (tgt := 22) cx.x cx.b d_Rw_at_18 (by decide) ?_
      exact hx_reti cx.x cx.b cx.r cx.k rfl hlo (fun _ h => h) (Nat.le_of_ble_eq_true rfl) (Nat.le_of_ble_eq_true rfl) d_Rw_at_22 (⟨by unfold atI; rw [if_neg c1, if_neg c2, e_x1]; exact hc _ (ix_lt c1 c2 (by omega)), rfl⟩)

set_option maxHeartbeats 4000000 in
set_option maxRecDepth 100000 in
theorem c_Rw_empty (l : Launch) {E : hE} (hE : EnvOk E) {H : Heap} {a arr cap : Nat} {xs : List Nat} {o : Bool} (h : Rw E H a arr cap xs o) : Ct l E y_Rw_empty b_Rw_empty 1 none (rmA 0 0 0) [.ref a] H (hQv (fun H1 => Rw E H1 a arr cap [] false ∧ hCh (rS a arr) H H1 ∧ H1.size = H.size)) := by
  refine hx_enter hE (by decide) (Nat.le_of_ble_eq_true rfl) ?_
  intro p e s m args below meth c ls cx hnm hl
  have hl : lv_has ls 1 [(0, .ref a)] := hl
  have hlo : hLo (eB E) [] := hLo.nil
  obtain ⟨ho, ⟨f, hf, hc⟩, hle, hcap, ⟨hBa, hBr, hne⟩, hx⟩ := h
  refine lv_aload_n cx.x cx.b d_Rw_empty_0 rfl (lv_at hl 0 rfl) ?_
  refine lv_iconst (v := 0) cx.x cx.b d_Rw_empty_1 (by decide) ?_
  refine pf_Rw_15_Rw cx ho hlo hBa (Nat.le_of_ble_eq_true rfl) d_Rw_empty_2 (fun H2 locs ho3 z_H2 o_H2 hlo => ?_)
  have ho3 : hOb (eD E) classes H2 a 0 [.ref arr, .int 0, .int (bI o)] := ho3
  refine lv_aload_n cx.x cx.b d_Rw_empty_5 rfl (lv_at hl 0 rfl) ?_
  refine lv_iconst (v := 0) cx.x cx.b d_Rw_empty_6 (by decide) ?_
  refine pf_Rw_19_Rw cx ho3 hlo hBa z0 (Nat.le_of_ble_eq_true rfl) d_Rw_empty_7 (fun H4 locs ho5 z_H4 o_H4 hlo => ?_)
  have ho5 : hOb (eD E) classes H4 a 0 [.ref arr, .int 0, .int 0] := ho5
  exact hx_retv cx.x cx.b cx.r cx.k hlo (fun _ h => h) (Nat.le_of_ble_eq_true rfl) (Nat.le_of_ble_eq_true rfl) d_Rw_empty_10 (⟨⟨ho5, ⟨f, (hf.eq (o_H2 _ (Ne.symm hne))).eq (o_H4 _ (Ne.symm hne)), fun i hi => absurd hi (Nat.not_lt_zero i)⟩, Nat.zero_le _, hcap, ⟨hBa, hBr, hne⟩, fun x hx => absurd hx List.not_mem_nil⟩, (hCh.put z_H2 o_H2 (Or.inl rfl)).tr (hCh.put z_H4 o_H4 (Or.inl rfl)), z_H4.trans z_H2⟩)

set_option maxHeartbeats 4000000 in
set_option maxRecDepth 100000 in
theorem c_Rw_add (l : Launch) {E : hE} (hE : EnvOk E) {H : Heap} {a arr cap : Nat} {xs : List Nat} {o : Bool} (h : Rw E H a arr cap xs o) {x : Nat} (hx0 : x < 128) : Ct l E y_Rw_add b_Rw_add 2 none (rmA 0 0 0) [.ref a, .int (nI x)] H (hQv (fun H1 => Rw E H1 a arr cap (addR cap (xs, o) x).1 (addR cap (xs, o) x).2 ∧ hCh (rS a arr) H H1 ∧ H1.size = H.size)) := by
  refine hx_enter hE (by decide) (Nat.le_of_ble_eq_true rfl) ?_
  intro p e s m args below meth c ls cx hnm hl
  have hl : lv_has ls 2 [(0, .ref a), (1, .int (nI x))] := hl
  have hlo : hLo (eB E) [] := hLo.nil
  obtain ⟨ho, ⟨f, hf, hc⟩, hle, hcap, ⟨hBa, hBr, hne⟩, hx⟩ := h
  refine lv_aload_n cx.x cx.b d_Rw_add_0 rfl (lv_at hl 0 rfl) ?_
  refine gf_Rw_15_Rw cx ho rfl d_Rw_add_1 ?_
  refine lv_aload_n cx.x cx.b d_Rw_add_4 rfl (lv_at hl 0 rfl) ?_
  refine gf_Rw_9_Rw cx ho rfl d_Rw_add_5 ?_
  refine hx_alen (v := nI cap) cx.x cx.b cx.K 1 hf rfl rfl d_Rw_add_8 ?_
  refine lv_icmp_ge (tgt := 36) cx.x cx.b d_Rw_add_9 (by decide) (fun c1 => ?_) (fun c1 => ?_)
  · have hfull : ¬ xs.length < cap := Nat.not_lt.mpr (nle_of c1 (by omega) (by omega))
    have e1 : addR cap (xs, o) x = (xs, true) := by unfold addR; rw [if_neg hfull]
    rw [e1]
    refine lv_aload_n cx.x cx.b d_Rw_add_36 rfl (lv_at hl 0 rfl) ?_
    refine lv_iconst (v := 1) cx.x cx.b d_Rw_add_37 (by decide) ?_
    refine pf_Rw_19_Rw cx ho hlo hBa z1 (Nat.le_of_ble_eq_true rfl) d_Rw_add_38 (fun H6 locs ho7 z_H6 o_H6 hlo => ?_)
    have ho7 : hOb (eD E) classes H6 a 0 [.ref arr, .int (nI xs.length), .int 1] := ho7
    exact hx_retv cx.x cx.b cx.r cx.k hlo (fun _ h => h) (Nat.le_of_ble_eq_true rfl) (Nat.le_of_ble_eq_true rfl) d_Rw_add_41 (⟨⟨ho7, ⟨f, hf.eq (o_H6 _ (Ne.symm hne)), hc⟩, hle, hcap, ⟨hBa, hBr, hne⟩, hx⟩, hCh.put z_H6 o_H6 (Or.inl rfl), z_H6⟩)
  · have hroom : xs.length < cap := nlt_of c1 (by omega) (by omega)
    have e1 : addR cap (xs, o) x = (xs ++ [x], o) := by unfold addR; rw [if_pos hroom]
    rw [e1]
    refine lv_aload_n cx.x cx.b d_Rw_add_12 rfl (lv_at hl 0 rfl) ?_
    refine gf_Rw_9_Rw cx ho rfl d_Rw_add_13 ?_
    refine lv_aload_n cx.x cx.b d_Rw_add_16 rfl (lv_at hl 0 rfl) ?_
    refine gf_Rw_15_Rw cx ho rfl d_Rw_add_17 ?_
    refine lv_iload_n cx.x cx.b d_Rw_add_20 rfl (lv_at hl 1 rfl) ?_
    refine lv_i2c (v := ((nI x).toUInt32 % 65536).toInt32) cx.x cx.b d_Rw_add_21 rfl ?_
    refine lv_topi (fun x8 e_x8 => ?_)
    refine hx_cast cx.x cx.b cx.K 1 hf hlo hBr rfl (by exact vp_in_nI hroom (by omega)) d_Rw_add_22 (fun H9 locs ha10 z_H9 o_H9 hlo => ?_)
    rw [nI_clamp (by omega), e_x8, vp_narC hx0] at ha10
    have ho := ho.eq (o_H9 _ hne)
    refine lv_aload_n cx.x cx.b d_Rw_add_23 rfl (lv_at hl 0 rfl) ?_
    refine lv_dup cx.x cx.b d_Rw_add_24 rfl ?_
    refine gf_Rw_15_Rw cx ho rfl d_Rw_add_25 ?_
    refine lv_iconst (v := 1) cx.x cx.b d_Rw_add_28 (by decide) ?_
    refine lv_iadd cx.x cx.b d_Rw_add_29 ?_
    refine lv_topi (fun x11 e_x11 => ?_)
    refine pf_Rw_15_Rw cx ho hlo hBa (Nat.le_of_ble_eq_true rfl) d_Rw_add_30 (fun H12 locs ho13 z_H12 o_H12 hlo => ?_)
    have ho13 : hOb (eD E) classes H12 a 0 [.ref arr, .int x11, .int (bI o)] := ho13
    refine lv_goto (tgt := 41) cx.x cx.b d_Rw_add_33 (by decide) ?_
    have e2 : nI xs.length + 1 = nI (xs ++ [x]).length := by rw [nI_1, List.length_append, List.length_singleton]
    rw [e_x11, e2] at ho13
    exact hx_retv cx.x cx.b cx.r cx.k hlo (fun _ h => h) (Nat.le_of_ble_eq_true rfl) (Nat.le_of_ble_eq_true rfl) d_Rw_add_41 (⟨⟨ho13, ⟨_, ha10.eq (o_H12 _ (Ne.symm hne)), hc.add x⟩, by rw [List.length_append, List.length_singleton]; omega, hcap, ⟨hBa, hBr, hne⟩, fun y hy => by rcases List.mem_append.mp hy with q | q; exact hx y q; rw [List.mem_singleton.mp q]; exact hx0⟩, (hCh.put z_H9 o_H9 (Or.inr rfl)).tr (hCh.put z_H12 o_H12 (Or.inl rfl)), z_H12.trans z_H9⟩)
