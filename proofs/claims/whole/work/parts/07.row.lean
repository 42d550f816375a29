set_option maxHeartbeats 4000000 in
set_option maxRecDepth 100000 in
theorem c_Rw_length (l : Launch) {E : hE} (hE : EnvOk E) {H : Heap} {a arr cap : Nat} {xs : List Nat} {o : Bool} (h : Rw E H a arr cap xs o) : Ct l E y_Rw_length b_Rw_length 1 (some .int) (rmA 0 0 0) [.ref a] H (hQi (fun r H1 => r = nI xs.length ∧ H1 = H)) := by
  refine hx_enter hE (by decide) (Nat.le_of_ble_eq_true rfl) ?_
  intro p e s m args below meth c ls cx hnm hl
  have hl : lv_has ls 1 [(0, .ref a)] := hl
  have hlo : hLo (eB E) [] := hLo.nil
  obtain ⟨ho, ⟨f, hf, hc⟩, hle, hcap, ⟨hBa, hBr, hne⟩, hx⟩ := h
  refine lv_aload_n cx.x cx.b d_Rw_length_0 rfl (lv_at hl 0 rfl) ?_
  refine gf_Rw_15_Rw cx ho rfl d_Rw_length_1 ?_
  exact hx_reti cx.x cx.b cx.r cx.k rfl hlo (fun _ h => h) (Nat.le_of_ble_eq_true rfl) (Nat.le_of_ble_eq_true rfl) d_Rw_length_4 (⟨rfl, rfl⟩)

set_option maxHeartbeats 4000000 in
set_option maxRecDepth 100000 in
theorem c_Rw_fits (l : Launch) {E : hE} (hE : EnvOk E) {H : Heap} {a arr cap : Nat} {xs : List Nat} {o : Bool} (h : Rw E H a arr cap xs o) : Ct l E y_Rw_fits b_Rw_fits 1 (some .boolean) (rmA 0 0 0) [.ref a] H (hQi (fun r H1 => r = bI (!o) ∧ H1 = H)) := by
  refine hx_enter hE (by decide) (Nat.le_of_ble_eq_true rfl) ?_
  intro p e s m args below meth c ls cx hnm hl
  have hl : lv_has ls 1 [(0, .ref a)] := hl
  have hlo : hLo (eB E) [] := hLo.nil
  obtain ⟨ho, ⟨f, hf, hc⟩, hle, hcap, ⟨hBa, hBr, hne⟩, hx⟩ := h
  refine lv_aload_n cx.x cx.b d_Rw_fits_0 rfl (lv_at hl 0 rfl) ?_
  refine gf_Rw_19_Rw cx ho rfl d_Rw_fits_1 ?_
  refine lv_if_ne (tgt := 11) cx.x cx.b d_Rw_fits_4 (by decide) (fun c1 => ?_) (fun c1 => ?_)
  · refine lv_iconst (v := 0) cx.x cx.b d_Rw_fits_11 (by decide) ?_
    exact hx_reti cx.x cx.b cx.r cx.k rfl hlo (fun _ h => h) (Nat.le_of_ble_eq_true rfl) (Nat.le_of_ble_eq_true rfl) d_Rw_fits_12 (⟨by cases o with | true => rfl | false => exact absurd rfl c1, rfl⟩)
  · refine lv_iconst (v := 1) cx.x cx.b d_Rw_fits_7 (by decide) ?_
    refine lv_goto (tgt := 12) cx.x cx.b d_Rw_fits_8 (by decide) ?_
    exact hx_reti cx.x cx.b cx.r cx.k rfl hlo (fun _ h => h) (Nat.le_of_ble_eq_true rfl) (Nat.le_of_ble_eq_true rfl) d_Rw_fits_12 (⟨by cases o with | true => exact absurd c1 (by decide) | false => rfl, rfl⟩)

set_option maxHeartbeats 4000000 in
set_option maxRecDepth 100000 in
theorem c_Rw_at (l : Launch) {E : hE} (hE : EnvOk E) {H : Heap} {a arr cap : Nat} {xs : List Nat} {o : Bool} (h : Rw E H a arr cap xs o) (i : Int32) : Ct l E y_Rw_at b_Rw_at 2 (some .int) (rmA 0 0 0) [.ref a, .int i] H (hQi (fun r H1 => r = atI xs i ∧ H1 = H)) := by
  refine hx_enter hE (by decide) (Nat.le_of_ble_eq_true rfl) ?_
  intro p e s m args below meth c ls cx hnm hl
  have hl : lv_has ls 2 [(0, .ref a), (1, .int i)] := hl
  have hlo : hLo (eB E) [] := hLo.nil
  obtain ⟨ho, ⟨f, hf, hc⟩, hle, hcap, ⟨hBa, hBr, hne⟩, hx⟩ := h
  refine lv_iload_n cx.x cx.b d_Rw_at_0 rfl (lv_at hl 1 rfl) ?_
  refine lv_if_lt (tgt := 21) cx.x cx.b d_Rw_at_1 (by decide) (fun c1 => ?_) (fun c1 => ?_)
  · refine lv_iconst (v := (-1)) cx.x cx.b d_Rw_at_21 (by decide) ?_
    exact hx_reti cx.x cx.b cx.r cx.k rfl hlo (fun _ h => h) (Nat.le_of_ble_eq_true rfl) (Nat.le_of_ble_eq_true rfl) d_Rw_at_22 (⟨by unfold atI; rw [if_pos c1], rfl⟩)
  · refine lv_iload_n cx.x cx.b d_Rw_at_4 rfl (lv_at hl 1 rfl) ?_
    refine lv_aload_n cx.x cx.b d_Rw_at_5 rfl (lv_at hl 0 rfl) ?_
    refine gf_Rw_15_Rw cx ho rfl d_Rw_at_6 ?_
    refine lv_icmp_ge (tgt := 21) cx.x cx.b d_Rw_at_9 (by decide) (fun c2 => ?_) (fun c2 => ?_)
    · refine lv_iconst (v := (-1)) cx.x cx.b d_Rw_at_21 (by decide) ?_
      exact hx_reti cx.x cx.b cx.r cx.k rfl hlo (fun _ h => h) (Nat.le_of_ble_eq_true rfl) (Nat.le_of_ble_eq_true rfl) d_Rw_at_22 (⟨by unfold atI; rw [if_neg c1, if_pos c2], rfl⟩)
    · refine lv_aload_n cx.x cx.b d_Rw_at_12 rfl (lv_at hl 0 rfl) ?_
      refine gf_Rw_9_Rw cx ho rfl d_Rw_at_13 ?_
      refine lv_iload_n cx.x cx.b d_Rw_at_16 rfl (lv_at hl 1 rfl) ?_
      refine hx_cald cx.x cx.b cx.K 1 hf rfl (ix_in c1 c2 hle (by omega)) d_Rw_at_17 ?_
      refine lv_topi (fun x1 e_x1 => ?_)
      refine lv_goto (tgt := 22) cx.x cx.b d_Rw_at_18 (by decide) ?_
      exact hx_reti cx.x cx.b cx.r cx.k rfl hlo (fun _ h => h) (Nat.le_of_ble_eq_true rfl) (Nat.le_of_ble_eq_true rfl) d_Rw_at_22 (⟨by unfold atI; rw [if_neg c1, if_neg c2, e_x1]; exact hc _ (ix_lt c1 c2 (by omega)), rfl⟩)

set_option maxHeartbeats 4000000 in
set_option maxRecDepth 100000 in
theorem c_Rw_empty (l : Launch) {E : hE} (hE : EnvOk E) {H : Heap} {a arr cap : Nat} {xs : List Nat} {o : Bool} (h : Rw E H a arr cap xs o) : Ct l E y_Rw_empty b_Rw_empty 1 none (rmA 0 0 0) [.ref a] H (hQv (fun H1 => Rw E H1 a arr cap [] false ∧ hCh (rS a arr) H H1 ∧ H1.size = H.size)) := by
  refine hx_enter hE (by decide) (Nat.le_of_ble_eq_true rfl) ?_
  intro p e s m args below meth c ls cx hnm hl
  have hl : lv_has ls 1 [(0, .ref a)] := hl
  have hlo : hLo (eB E) [] := hLo.nil
  obtain ⟨ho, ⟨f, hf, hc⟩, hle, hcap, ⟨hBa, hBr, hne⟩, hx⟩ := h
  refine lv_aload_n cx.x cx.b d_Rw_empty_0 rfl (lv_at hl 0 rfl) ?_
  refine lv_iconst (v := 0) cx.x cx.b d_Rw_empty_1 (by decide) ?_
  refine pf_Rw_15_Rw cx ho hlo hBa (Nat.le_of_ble_eq_true rfl) d_Rw_empty_2 (fun H2 locs ho3 z_H2 o_H2 hlo => ?_)
  have ho3 : hOb (eD E) classes H2 a 0 [.ref arr, .int 0, .int (bI o)] := ho3
  refine lv_aload_n cx.x cx.b d_Rw_empty_5 rfl (lv_at hl 0 rfl) ?_
  refine lv_iconst (v := 0) cx.x cx.b d_Rw_empty_6 (by decide) ?_
  refine pf_Rw_19_Rw cx ho3 hlo hBa z0 (Nat.le_of_ble_eq_true rfl) d_Rw_empty_7 (fun H4 locs ho5 z_H4 o_H4 hlo => ?_)
  have ho5 : hOb (eD E) classes H4 a 0 [.ref arr, .int 0, .int 0] := ho5
  exact hx_retv cx.x cx.b cx.r cx.k hlo (fun _ h => h) (Nat.le_of_ble_eq_true rfl) (Nat.le_of_ble_eq_true rfl) d_Rw_empty_10 (⟨⟨ho5, ⟨f, (hf.eq (o_H2 _ (Ne.symm hne))).eq (o_H4 _ (Ne.symm hne)), fun i hi => absurd hi (Nat.not_lt_zero i)⟩, Nat.zero_le _, hcap, ⟨hBa, hBr, hne⟩, fun x hx => absurd hx List.not_mem_nil⟩, (hCh.put z_H2 o_H2 (Or.inl rfl)).tr (hCh.put z_H4 o_H4 (Or.inl rfl)), z_H4.trans z_H2⟩)

set_option maxHeartbeats 4000000 in
set_option maxRecDepth 100000 in
theorem c_Rw_add (l : Launch) {E : hE} (hE : EnvOk E) {H : Heap} {a arr cap : Nat} {xs : List Nat} {o : Bool} (h : Rw E H a arr cap xs o) {x : Nat} (hx0 : x < 128) : Ct l E y_Rw_add b_Rw_add 2 none (rmA 0 0 0) [.ref a, .int (nI x)] H (hQv (fun H1 => Rw E H1 a arr cap (addR cap (xs, o) x).1 (addR cap (xs, o) x).2 ∧ hCh (rS a arr) H H1 ∧ H1.size = H.size)) := by
  refine hx_enter hE (by decide) (Nat.le_of_ble_eq_true rfl) ?_
  intro p e s m args below meth c ls cx hnm hl
  have hl : lv_has ls 2 [(0, .ref a), (1, .int (nI x))] := hl
  have hlo : hLo (eB E) [] := hLo.nil
  obtain ⟨ho, ⟨f, hf, hc⟩, hle, hcap, ⟨hBa, hBr, hne⟩, hx⟩ := h
  refine lv_aload_n cx.x cx.b d_Rw_add_0 rfl (lv_at hl 0 rfl) ?_
  refine gf_Rw_15_Rw cx ho rfl d_Rw_add_1 ?_
  refine lv_aload_n cx.x cx.b d_Rw_add_4 rfl (lv_at hl 0 rfl) ?_
  refine gf_Rw_9_Rw cx ho rfl d_Rw_add_5 ?_
  refine hx_alen (v := nI cap) cx.x cx.b cx.K 1 hf rfl rfl d_Rw_add_8 ?_
  refine lv_icmp_ge (tgt := 36) cx.x cx.b d_Rw_add_9 (by decide) (fun c1 => ?_) (fun c1 => ?_)
  · have hfull : ¬ xs.length < cap := Nat.not_lt.mpr (nle_of c1 (by omega) (by omega))
    have e1 : addR cap (xs, o) x = (xs, true) := by unfold addR; rw [if_neg hfull]
    rw [e1]
    refine lv_aload_n cx.x cx.b d_Rw_add_36 rfl (lv_at hl 0 rfl) ?_
    refine lv_iconst (v := 1) cx.x cx.b d_Rw_add_37 (by decide) ?_
    refine pf_Rw_19_Rw cx ho hlo hBa z1 (Nat.le_of_ble_eq_true rfl) d_Rw_add_38 (fun H6 locs ho7 z_H6 o_H6 hlo => ?_)
    have ho7 : hOb (eD E) classes H6 a 0 [.ref arr, .int (nI xs.length), .int 1] := ho7
    exact hx_retv cx.x cx.b cx.r cx.k hlo (fun _ h => h) (Nat.le_of_ble_eq_true rfl) (Nat.le_of_ble_eq_true rfl) d_Rw_add_41 (⟨⟨ho7, ⟨f, hf.eq (o_H6 _ (Ne.symm hne)), hc⟩, hle, hcap, ⟨hBa, hBr, hne⟩, hx⟩, hCh.put z_H6 o_H6 (Or.inl rfl), z_H6⟩)
  · have hroom : xs.length < cap := nlt_of c1 (by omega) (by omega)
    have e1 : addR cap (xs, o) x = (xs ++ [x], o) := by unfold addR; rw [if_pos hroom]
    rw [e1]
    refine lv_aload_n cx.x cx.b d_Rw_add_12 rfl (lv_at hl 0 rfl) ?_
    refine gf_Rw_9_Rw cx ho rfl d_Rw_add_13 ?_
    refine lv_aload_n cx.x cx.b d_Rw_add_16 rfl (lv_at hl 0 rfl) ?_
    refine gf_Rw_15_Rw cx ho rfl d_Rw_add_17 ?_
    refine lv_iload_n cx.x cx.b d_Rw_add_20 rfl (lv_at hl 1 rfl) ?_
    refine lv_i2c (v := ((nI x).toUInt32 % 65536).toInt32) cx.x cx.b d_Rw_add_21 rfl ?_
    refine lv_topi (fun x8 e_x8 => ?_)
    refine hx_cast cx.x cx.b cx.K 1 hf hlo hBr rfl (by exact vp_in_nI hroom (by omega)) d_Rw_add_22 (fun H9 locs ha10 z_H9 o_H9 hlo => ?_)
    rw [nI_clamp (by omega), e_x8, vp_narC hx0] at ha10
    have ho := ho.eq (o_H9 _ hne)
    refine lv_aload_n cx.x cx.b d_Rw_add_23 rfl (lv_at hl 0 rfl) ?_
    refine lv_dup cx.x cx.b d_Rw_add_24 rfl ?_
    refine gf_Rw_15_Rw cx ho rfl d_Rw_add_25 ?_
    refine lv_iconst (v := 1) cx.x cx.b d_Rw_add_28 (by decide) ?_
    refine lv_iadd cx.x cx.b d_Rw_add_29 ?_
    refine lv_topi (fun x11 e_x11 => ?_)
    refine pf_Rw_15_Rw cx ho hlo hBa (Nat.le_of_ble_eq_true rfl) d_Rw_add_30 (fun H12 locs ho13 z_H12 o_H12 hlo => ?_)
    have ho13 : hOb (eD E) classes H12 a 0 [.ref arr, .int x11, .int (bI o)] := ho13
    refine lv_goto (tgt := 41) cx.x cx.b d_Rw_add_33 (by decide) ?_
    have e2 : nI xs.length + 1 = nI (xs ++ [x]).length := by rw [nI_1, List.length_append, List.length_singleton]
    rw [e_x11, e2] at ho13
    exact hx_retv cx.x cx.b cx.r cx.k hlo (fun _ h => h) (Nat.le_of_ble_eq_true rfl) (Nat.le_of_ble_eq_true rfl) d_Rw_add_41 (⟨⟨ho13, ⟨_, ha10.eq (o_H12 _ (Ne.symm hne)), hc.add x⟩, by rw [List.length_append, List.length_singleton]; omega, hcap, ⟨hBa, hBr, hne⟩, fun y hy => by rcases List.mem_append.mp hy with q | q; exact hx y q; rw [List.mem_singleton.mp q]; exact hx0⟩, (hCh.put z_H9 o_H9 (Or.inr rfl)).tr (hCh.put z_H12 o_H12 (Or.inl rfl)), z_H12.trans z_H9⟩)

set_option maxHeartbeats 4000000 in
set_option maxRecDepth 100000 in
theorem c_Rw_contains (l : Launch) {E : hE} (hE : EnvOk E) {H : Heap} {a arr cap : Nat} {xs : List Nat} {o : Bool} (h : Rw E H a arr cap xs o) {ch : Nat} (hch : ch < 65536) : Ct l E y_Rw_contains b_Rw_contains 3 (some .boolean) (rmA 0 0 0) [.ref a, .int (nI ch)] H (hQi (fun r H1 => r = bI (decide (ch ∈ xs)) ∧ H1 = H)) := by
  refine hx_enter hE (by decide) (Nat.le_of_ble_eq_true rfl) ?_
  intro p e s m args below meth c ls cx hnm hl
  have hl : lv_has ls 3 [(0, .ref a), (1, .int (nI ch))] := hl
  have hlo : hLo (eB E) [] := hLo.nil
  obtain ⟨ho, ⟨f, hf, hc⟩, hle, hcap, ⟨hBa, hBr, hne⟩, hx⟩ := h
  generalize hQ : MQ below _ args s _ _ _ = Q
  have LP : ∀ (k i : Nat), i ≤ xs.length → xs.length - i < k → (∀ j, j < i → xs.getD j 0 ≠ ch) → ∀ ls, lv_has ls 3 [(2, .int (nI i)), (0, .ref a), (1, .int (nI ch))] → W p l e (rmA 0 0 0) s m args below meth c H [] 0 0 Q (F0 m 2 ls []) := by
    intro k
    induction k with
    | zero => intro i _ h; omega
    | succ k ih =>
      intro i hi hk hj ls hl
      refine lv_iload_n cx.x cx.b d_Rw_contains_2 rfl (lv_at hl 0 rfl) ?_
      refine lv_aload_n cx.x cx.b d_Rw_contains_3 rfl (lv_at hl 1 rfl) ?_
      refine gf_Rw_15_Rw cx ho rfl d_Rw_contains_4 ?_
      refine lv_icmp_ge (tgt := 28) cx.x cx.b d_Rw_contains_7 (by decide) (fun c1 => ?_) (fun c1 => ?_)
      · have hend : xs.length ≤ i := nle_of c1 (by omega) (by omega)
        refine lv_iconst (v := 0) cx.x cx.b d_Rw_contains_28 (by decide) ?_
        rw [← hQ]
        exact hx_reti cx.x cx.b cx.r cx.k rfl hlo (fun _ h => h) (Nat.le_of_ble_eq_true rfl) (Nat.le_of_ble_eq_true rfl) d_Rw_contains_29 (⟨by rw [show decide (ch ∈ xs) = false from decide_eq_false (fun hm => by obtain ⟨j, hj1, hj2⟩ := mem_getD hm; exact hj j (by omega) hj2)]; rfl, rfl⟩)
      · have hlt : i < xs.length := nlt_of c1 (by omega) (by omega)
        refine lv_aload_n cx.x cx.b d_Rw_contains_10 rfl (lv_at hl 1 rfl) ?_
        refine gf_Rw_9_Rw cx ho rfl d_Rw_contains_11 ?_
        refine lv_iload_n cx.x cx.b d_Rw_contains_14 rfl (lv_at hl 0 rfl) ?_
        refine hx_cald cx.x cx.b cx.K 1 hf rfl (vp_in_nI (by omega) (by omega)) d_Rw_contains_15 ?_
        refine lv_topi (fun x14 e_x14 => ?_)
        rw [nI_clamp (by omega), hc i hlt] at e_x14
        refine lv_iload_n cx.x cx.b d_Rw_contains_16 rfl (lv_at hl 2 rfl) ?_
        refine lv_icmp_ne (tgt := 22) cx.x cx.b d_Rw_contains_17 (by decide) (fun c2 => ?_) (fun c2 => ?_)
        · have hn : xs.getD i 0 ≠ ch := fun q => c2 (by rw [e_x14, q])
          obtain ⟨x15, e_x15⟩ : ∃ y : Int32, y = nI i + 1 := ⟨_, rfl⟩
          refine lv_iinc (v := x15) (lv' := [(2, .int x15), (0, .ref a), (1, .int (nI ch))]) cx.x cx.b d_Rw_contains_22 hl (k := 0) rfl (by rw [e_x15]; rfl) (by decide) rfl (fun ls hl => ?_)
          refine lv_goto (tgt := 2) cx.x cx.b d_Rw_contains_25 (by decide) ?_
          rw [nI_1] at e_x15
          subst e_x15
          exact ih (i + 1) (by omega) (by omega) (lt_s hj hn) _ hl
        · have hn : xs.getD i 0 = ch := by rw [e_x14] at c2; exact (nI_eq (by have := hx _ (getD_mem hlt); omega) (by omega)).mp c2
          refine lv_iconst (v := 1) cx.x cx.b d_Rw_contains_20 (by decide) ?_
          rw [← hQ]
          exact hx_reti cx.x cx.b cx.r cx.k rfl hlo (fun _ h => h) (Nat.le_of_ble_eq_true rfl) (Nat.le_of_ble_eq_true rfl) d_Rw_contains_21 (⟨by rw [show decide (ch ∈ xs) = true from decide_eq_true (hn ▸ getD_mem hlt)]; rfl, rfl⟩)
  refine lv_iconst (v := 0) cx.x cx.b d_Rw_contains_0 (by decide) ?_
  refine lv_istore_n (lv' := [(2, .int 0), (0, .ref a), (1, .int (nI ch))]) cx.x cx.b d_Rw_contains_1 rfl hl (by decide) rfl (fun ls hl => ?_)
  exact LP (xs.length + 1) 0 (Nat.zero_le _) (by omega) (fun j hj => absurd hj (Nat.not_lt_zero j)) _ hl

set_option maxHeartbeats 4000000 in
set_option maxRecDepth 100000 in
theorem c_Rw_compare (l : Launch) {E : hE} (hE : EnvOk E) {H : Heap} {a arr cap : Nat} {xs : List Nat} {o : Bool} (h : Rw E H a arr cap xs o) {b brr cbp : Nat} {ys : List Nat} {o2 : Bool} (h2 : Rw E H b brr cbp ys o2) : Ct l E y_Rw_compare b_Rw_compare 3 (some .int) (rmA 0 0 0) [.ref a, .ref b] H (hQi (fun r H1 => r.toInt = cmpL xs ys ∧ H1 = H)) := by
  refine hx_enter hE (by decide) (Nat.le_of_ble_eq_true rfl) ?_
  intro p e s m args below meth c ls cx hnm hl
  have hl : lv_has ls 3 [(0, .ref a), (1, .ref b)] := hl
  have hlo : hLo (eB E) [] := hLo.nil
  obtain ⟨ho, ⟨f, hf, hc⟩, hle, hcap, ⟨hBa, hBr, hne⟩, hx⟩ := h
  obtain ⟨go, ⟨g, gf, gc⟩, gle, gcap, ⟨gBa, gBr, gne⟩, gx⟩ := h2
  generalize hQ : MQ below _ args s _ _ _ = Q
  have LP : ∀ (k i : Nat), i ≤ xs.length → i ≤ ys.length → xs.length - i < k → cmpL (xs.drop i) (ys.drop i) = cmpL xs ys → ∀ ls, lv_has ls 3 [(2, .int (nI i)), (0, .ref a), (1, .ref b)] → W p l e (rmA 0 0 0) s m args below meth c H [] 0 0 Q (F0 m 2 ls []) := by
    intro k
    induction k with
    | zero => intro i _ _ h; omega
    | succ k ih =>
      intro i hi hi2 hk hj ls hl
      refine lv_iload_n cx.x cx.b d_Rw_compare_2 rfl (lv_at hl 0 rfl) ?_
      refine lv_aload_n cx.x cx.b d_Rw_compare_3 rfl (lv_at hl 1 rfl) ?_
      refine gf_Rw_15_Rw cx ho rfl d_Rw_compare_4 ?_
      refine lv_icmp_ge (tgt := 53) cx.x cx.b d_Rw_compare_7 (by decide) (fun c1 => ?_) (fun c1 => ?_)
      · have hend : xs.length ≤ i := nle_of c1 (by omega) (by omega)
        refine lv_aload_n cx.x cx.b d_Rw_compare_53 rfl (lv_at hl 1 rfl) ?_
        refine gf_Rw_15_Rw cx ho rfl d_Rw_compare_54 ?_
        refine lv_aload_n cx.x cx.b d_Rw_compare_57 rfl (lv_at hl 2 rfl) ?_
        refine gf_Rw_15_Rw cx go rfl d_Rw_compare_58 ?_
        refine lv_isub cx.x cx.b d_Rw_compare_61 ?_
        refine lv_topi (fun x16 e_x16 => ?_)
        rw [← hQ]
        exact hx_reti cx.x cx.b cx.r cx.k rfl hlo (fun _ h => h) (Nat.le_of_ble_eq_true rfl) (Nat.le_of_ble_eq_true rfl) d_Rw_compare_62 (⟨by rw [e_x16, pk_sub_toInt (by omega) (by omega), ← hj, cmpL_end hi hi2 (Or.inl hend)], rfl⟩)
      · have hlt : i < xs.length := nlt_of c1 (by omega) (by omega)
        refine lv_iload_n cx.x cx.b d_Rw_compare_10 rfl (lv_at hl 0 rfl) ?_
        refine lv_aload_n cx.x cx.b d_Rw_compare_11 rfl (lv_at hl 2 rfl) ?_
        refine gf_Rw_15_Rw cx go rfl d_Rw_compare_12 ?_
        refine lv_icmp_ge (tgt := 53) cx.x cx.b d_Rw_compare_15 (by decide) (fun c2 => ?_) (fun c2 => ?_)
        · have hend : ys.length ≤ i := nle_of c2 (by omega) (by omega)
          refine lv_aload_n cx.x cx.b d_Rw_compare_53 rfl (lv_at hl 1 rfl) ?_
          refine gf_Rw_15_Rw cx ho rfl d_Rw_compare_54 ?_
          refine lv_aload_n cx.x cx.b d_Rw_compare_57 rfl (lv_at hl 2 rfl) ?_
          refine gf_Rw_15_Rw cx go rfl d_Rw_compare_58 ?_
          refine lv_isub cx.x cx.b d_Rw_compare_61 ?_
          refine lv_topi (fun x17 e_x17 => ?_)
          rw [← hQ]
          exact hx_reti cx.x cx.b cx.r cx.k rfl hlo (fun _ h => h) (Nat.le_of_ble_eq_true rfl) (Nat.le_of_ble_eq_true rfl) d_Rw_compare_62 (⟨by rw [e_x17, pk_sub_toInt (by omega) (by omega), ← hj, cmpL_end hi hi2 (Or.inr hend)], rfl⟩)
        · have hlt2 : i < ys.length := nlt_of c2 (by omega) (by omega)
          have b1 := hx _ (getD_mem hlt)
          have b2 := gx _ (getD_mem hlt2)
          refine lv_aload_n cx.x cx.b d_Rw_compare_18 rfl (lv_at hl 1 rfl) ?_
          refine gf_Rw_9_Rw cx ho rfl d_Rw_compare_19 ?_
          refine lv_iload_n cx.x cx.b d_Rw_compare_22 rfl (lv_at hl 0 rfl) ?_
          refine hx_cald cx.x cx.b cx.K 1 hf rfl (vp_in_nI (by omega) (by omega)) d_Rw_compare_23 ?_
          refine lv_topi (fun x18 e_x18 => ?_)
          rw [nI_clamp (by omega), hc i hlt] at e_x18
          refine lv_aload_n cx.x cx.b d_Rw_compare_24 rfl (lv_at hl 2 rfl) ?_
          refine gf_Rw_9_Rw cx go rfl d_Rw_compare_25 ?_
          refine lv_iload_n cx.x cx.b d_Rw_compare_28 rfl (lv_at hl 0 rfl) ?_
          refine hx_cald cx.x cx.b cx.K 1 gf rfl (vp_in_nI (by omega) (by omega)) d_Rw_compare_29 ?_
          refine lv_topi (fun x19 e_x19 => ?_)
          rw [nI_clamp (by omega), gc i hlt2] at e_x19
          refine lv_icmp_eq (tgt := 47) cx.x cx.b d_Rw_compare_30 (by decide) (fun c3 => ?_) (fun c3 => ?_)
          · have hq : xs.getD i 0 = ys.getD i 0 := by rw [e_x18, e_x19] at c3; exact (nI_eq (by omega) (by omega)).mp c3
            obtain ⟨x20, e_x20⟩ : ∃ y : Int32, y = nI i + 1 := ⟨_, rfl⟩
            refine lv_iinc (v := x20) (lv' := [(2, .int x20), (0, .ref a), (1, .ref b)]) cx.x cx.b d_Rw_compare_47 hl (k := 0) rfl (by rw [e_x20]; rfl) (by decide) rfl (fun ls hl => ?_)
            refine lv_goto (tgt := 2) cx.x cx.b d_Rw_compare_50 (by decide) ?_
            rw [nI_1] at e_x20
            subst e_x20
            exact ih (i + 1) (by omega) (by omega) (by omega) (by rw [← hj, cmpL_step hlt hlt2, if_pos hq]) _ hl
          · have hq : xs.getD i 0 ≠ ys.getD i 0 := fun q => c3 (by rw [e_x18, e_x19, q])
            refine lv_aload_n cx.x cx.b d_Rw_compare_33 rfl (lv_at hl 1 rfl) ?_
            refine gf_Rw_9_Rw cx ho rfl d_Rw_compare_34 ?_
            refine lv_iload_n cx.x cx.b d_Rw_compare_37 rfl (lv_at hl 0 rfl) ?_
            refine hx_cald cx.x cx.b cx.K 1 hf rfl (vp_in_nI (by omega) (by omega)) d_Rw_compare_38 ?_
            refine lv_topi (fun x21 e_x21 => ?_)
            rw [nI_clamp (by omega), hc i hlt] at e_x21
            refine lv_aload_n cx.x cx.b d_Rw_compare_39 rfl (lv_at hl 2 rfl) ?_
            refine gf_Rw_9_Rw cx go rfl d_Rw_compare_40 ?_
            refine lv_iload_n cx.x cx.b d_Rw_compare_43 rfl (lv_at hl 0 rfl) ?_
            refine hx_cald cx.x cx.b cx.K 1 gf rfl (vp_in_nI (by omega) (by omega)) d_Rw_compare_44 ?_
            refine lv_topi (fun x22 e_x22 => ?_)
            rw [nI_clamp (by omega), gc i hlt2] at e_x22
            refine lv_isub cx.x cx.b d_Rw_compare_45 ?_
            refine lv_topi (fun x23 e_x23 => ?_)
            rw [← hQ]
            exact hx_reti cx.x cx.b cx.r cx.k rfl hlo (fun _ h => h) (Nat.le_of_ble_eq_true rfl) (Nat.le_of_ble_eq_true rfl) d_Rw_compare_46 (⟨by rw [e_x23, e_x21, e_x22, pk_sub_toInt (by omega) (by omega), ← hj, cmpL_step hlt hlt2, if_neg hq], rfl⟩)
  refine lv_iconst (v := 0) cx.x cx.b d_Rw_compare_0 (by decide) ?_
  refine lv_istore_n (lv' := [(2, .int 0), (0, .ref a), (1, .ref b)]) cx.x cx.b d_Rw_compare_1 rfl hl (by decide) rfl (fun ls hl => ?_)
  exact LP (xs.length + 1) 0 (Nat.zero_le _) (Nat.zero_le _) (by omega) (by rw [List.drop_zero, List.drop_zero]) _ hl

set_option maxHeartbeats 4000000 in
set_option maxRecDepth 100000 in
theorem c_Rw_copy (l : Launch) {E : hE} (hE : EnvOk E) {H : Heap} {a arr cap : Nat} {xs : List Nat} {o : Bool} (h : Rw E H a arr cap xs o) {b brr cbp : Nat} {ys : List Nat} {o2 : Bool} (h2 : Rw E H b brr cbp ys o2) (hd1 : b ≠ a) (hd2 : b ≠ arr) (hd3 : brr ≠ a) (hd4 : brr ≠ arr) : Ct l E y_Rw_copy b_Rw_copy 3 none (rmA 1 0 0) [.ref a, .ref b] H (hQv (fun H1 => Rw E H1 a arr cap (ys.foldl (addR cap) ([], false)).1 (ys.foldl (addR cap) ([], false)).2 ∧ hCh (rS a arr) H H1 ∧ H1.size = H.size)) := by
  refine hx_enter hE (by decide) (Nat.le_of_ble_eq_true rfl) ?_
  intro p e s m args below meth c ls cx hnm hl
  have hl : lv_has ls 3 [(0, .ref a), (1, .ref b)] := hl
  have hlo : hLo (eB E) [] := hLo.nil
  generalize hQ : MQ below _ args s _ _ _ = Q
  have LP : ∀ (k i : Nat) (xs1 : List Nat) (o1 : Bool) (H2 : Heap) (locs : List Loc), i ≤ ys.length → ys.length - i < k → Rw E H2 a arr cap xs1 o1 → hCh (rS a arr) H H2 → H2.size = H.size → hLo (eB E) locs → (ys.drop i).foldl (addR cap) (xs1, o1) = ys.foldl (addR cap) ([], false) → ∀ ls, lv_has ls 3 [(2, .int (nI i)), (0, .ref a), (1, .ref b)] → W p l e (rmA 1 0 0) s m args below meth c H2 locs 0 0 Q (F0 m 6 ls []) := by
    intro k
    induction k with
    | zero => intro i _ _ _ _ _ h; omega
    | succ k ih =>
      intro i xs1 o1 H2 locs hi hk hr hch hsz hlo hj ls hl
      have h3 : Rw E H2 b brr cbp ys o2 := h2.ch hch (fun q => by rcases q with e | e; exact hd1 e; exact hd2 e) (fun q => by rcases q with e | e; exact hd3 e; exact hd4 e)
      have hr0 := hr
      obtain ⟨go, ⟨g, gf, gc⟩, gle, gcap, ⟨gBa, gBr, gne⟩, gx⟩ := h3
      obtain ⟨ho, -⟩ := hr
      refine lv_iload_n cx.x cx.b d_Rw_copy_6 rfl (lv_at hl 0 rfl) ?_
      refine lv_aload_n cx.x cx.b d_Rw_copy_7 rfl (lv_at hl 2 rfl) ?_
      refine gf_Rw_15_Rw cx go rfl d_Rw_copy_8 ?_
      refine lv_icmp_ge (tgt := 30) cx.x cx.b d_Rw_copy_11 (by decide) (fun c1 => ?_) (fun c1 => ?_)
      · have hend : ys.length ≤ i := nle_of c1 (by omega) (by omega)
        rw [List.drop_eq_nil_of_le hend] at hj
        rw [← hj] at hQ
        rw [← hQ]
        exact hx_retv cx.x cx.b cx.r cx.k hlo (fun _ h => h) (Nat.le_of_ble_eq_true rfl) (Nat.le_of_ble_eq_true rfl) d_Rw_copy_30 (⟨hr0, hch, hsz⟩)
      · have hlt : i < ys.length := nlt_of c1 (by omega) (by omega)
        refine lv_aload_n cx.x cx.b d_Rw_copy_14 rfl (lv_at hl 1 rfl) ?_
        refine lv_aload_n cx.x cx.b d_Rw_copy_15 rfl (lv_at hl 2 rfl) ?_
        refine gf_Rw_9_Rw cx go rfl d_Rw_copy_16 ?_
        refine lv_iload_n cx.x cx.b d_Rw_copy_19 rfl (lv_at hl 0 rfl) ?_
        refine hx_cald cx.x cx.b cx.K 1 gf rfl (vp_in_nI (by omega) (by omega)) d_Rw_copy_20 ?_
        refine lv_topi (fun x24 e_x24 => ?_)
        rw [nI_clamp (by omega), gc i hlt] at e_x24
        subst e_x24
        refine hx_callv (iv_Rw_32_Rw cx (c_Rw_add l hE hr0 (gx _ (getD_mem hlt))) ho rfl hl.1 rfl (Nat.le_of_ble_eq_true rfl) d_Rw_copy_21 ⟨Nat.le_of_ble_eq_true rfl, Nat.le_of_ble_eq_true rfl⟩ ⟨Nat.le_of_ble_eq_true rfl, Nat.le_of_ble_eq_true rfl⟩) hlo (fun _ h => h) (fun H26 locs hp25 hlo => ?_)
        obtain ⟨q1, q2, q3⟩ := hp25
        obtain ⟨x27, e_x27⟩ : ∃ y : Int32, y = nI i + 1 := ⟨_, rfl⟩
        refine lv_iinc (v := x27) (lv' := [(2, .int x27), (0, .ref a), (1, .ref b)]) cx.x cx.b d_Rw_copy_24 hl (k := 0) rfl (by rw [e_x27]; rfl) (by decide) rfl (fun ls hl => ?_)
        refine lv_goto (tgt := 6) cx.x cx.b d_Rw_copy_27 (by decide) ?_
        rw [nI_1] at e_x27
        subst e_x27
        exact ih (i + 1) _ _ _ _ (by omega) (by omega) q1 (hch.tr q2) (q3.trans hsz) hlo (by rw [← hj, foldl_drop _ _ hlt]) _ hl
  have ha := h.1
  refine lv_aload_n cx.x cx.b d_Rw_copy_0 rfl (lv_at hl 0 rfl) ?_
  refine hx_callv (iv_Rw_36_Rw cx (c_Rw_empty l hE h) ha rfl hl.1 rfl (Nat.le_of_ble_eq_true rfl) d_Rw_copy_1 ⟨Nat.le_of_ble_eq_true rfl, Nat.le_of_ble_eq_true rfl⟩ ⟨Nat.le_of_ble_eq_true rfl, Nat.le_of_ble_eq_true rfl⟩) hlo (fun _ h => h) (fun H29 locs hp28 hlo => ?_)
  obtain ⟨q1, q2, q3⟩ := hp28
  refine lv_iconst (v := 0) cx.x cx.b d_Rw_copy_4 (by decide) ?_
  refine lv_istore_n (lv' := [(2, .int 0), (0, .ref a), (1, .ref b)]) cx.x cx.b d_Rw_copy_5 rfl hl (by decide) rfl (fun ls hl => ?_)
  exact LP (ys.length + 1) 0 _ _ _ _ (Nat.zero_le _) (by omega) q1 q2 q3 hlo (by rw [List.drop_zero]) _ hl
