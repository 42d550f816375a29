theorem kindS_lt (mem : Bool) (k : Nat) : kindS mem k < 17 := by
  cases mem with
  | true => unfold kindS; rw [if_pos rfl]; by_cases c : k = 1; rw [if_pos c]; omega; rw [if_neg c]; omega
  | false =>
    match k with
    | 0 => decide
    | 1 => decide
    | 2 => decide
    | 3 => decide
    | k + 4 => exact (by decide : 13 < 17)
theorem markS_lt (mem : Bool) (k : Nat) : markS mem k < 17 := by
  cases mem with
  | true =>
    match k with
    | 0 => decide
    | 1 => decide
    | 2 => decide
    | 3 => decide
    | 4 => decide
    | k + 5 => exact (by decide : 7 < 17)
  | false =>
    match k with
    | 0 => decide
    | 1 => decide
    | 2 => decide
    | k + 3 => exact (by decide : 6 < 17)
set_option maxHeartbeats 4000000 in
set_option maxRecDepth 100000 in
theorem c_Dc_init_D (l : Launch) {E : hE} (hE : EnvOk E) {H : Heap} {a : Nat} (h : hOb (eD E) classes H a 1 [.null, .null, .int 0, .int 0]) (hB : eB E ≤ a) (hH : eB E ≤ H.size) : Ct l E y_Dc_init b_Dc_init 1 none (rmA 2 4 46) [.ref a] H (hQv (fun H1 => hOb (eD E) classes H1 a 1 [.ref H.size, .ref (H.size + 2), .int 0, .int 0] ∧ Rw E H1 H.size (H.size + 1) 20 [] false ∧ Rw E H1 (H.size + 2) (H.size + 3) 20 [] false ∧ hCh (fun q => q = a) H H1 ∧ H1.size = H.size + 4)) := by
  refine hx_enter hE (by decide) (Nat.le_of_ble_eq_true rfl) ?_
  intro p e s m args below meth c ls cx hnm hl
  have hl : lv_has ls 1 [(0, .ref a)] := hl
  have hlo : hLo (eB E) [] := hLo.nil
  have hlt := h.lt
  refine lv_aload_n cx.x cx.b d_Dc_init_0 rfl (lv_at hl 0 rfl) ?_
  refine W.objInit cx.x cx.b cx.o (cx.ts _ tw_205) (cx.ts _ tw_31) (cx.ts _ tw_32) rfl (hl.1.trans cx.ml.symm) rfl d_Dc_init_1 (Nat.le_of_ble_eq_true rfl) (Nat.le_of_ble_eq_true rfl) ?_
  refine W.eq (g2 := F0 m 4 ls []) rfl ?_
  refine lv_aload_n cx.x cx.b d_Dc_init_4 rfl (lv_at hl 0 rfl) ?_
  refine nw_Dc_9 cx (Nat.le_of_ble_eq_true rfl) (Nat.le_of_ble_eq_true rfl) d_Dc_init_5 (fun H44 hn45 z_H44 o_H44 => ?_)
  refine lv_dup cx.x cx.b d_Dc_init_8 rfl ?_
  refine lv_bipush (v := 20) cx.x cx.b d_Dc_init_9 (by decide) ?_
  have k1 : hCh (fun q => q = a) H H44 := hCh.new z_H44 o_H44
  refine hx_callv (iv_Dc_11 cx (c_Rw_init l hE (H := H44) (a := H.size) (cap := 20) hn45 hH (by omega) (by omega)) rfl hl.1 rfl (Nat.le_of_ble_eq_true rfl) d_Dc_init_11 ⟨Nat.le_of_ble_eq_true rfl, Nat.le_of_ble_eq_true rfl⟩ ⟨Nat.le_of_ble_eq_true rfl, Nat.le_of_ble_eq_true rfl⟩) hlo (fun _ h => h) (fun H47 locs hp46 hlo => ?_)
  obtain ⟨q1, q2, q3⟩ := hp46
  have a2 : hOb (eD E) classes H47 a 1 [.null, .null, .int 0, .int 0] := (h.eq (o_H44 _ hlt)).ch q2 (by omega)
  refine pf_Dc_14_Dc (x := (some H.size)) cx hnm a2 hlo hB (Nat.le_of_ble_eq_true rfl) d_Dc_init_14 (fun H48 locs ho49 z_H48 o_H48 hlo => ?_)
  have ho49 : hOb (eD E) classes H48 a 1 [.ref H.size, .null, .int 0, .int 0] := ho49
  have a3 := ho49
  have r1 := q1.ch (hCh.put (S := fun q => q = a) z_H48 o_H48 rfl) (by omega) (by omega)
  have s3 : H48.size = H.size + 2 := by omega
  refine lv_aload_n cx.x cx.b d_Dc_init_17 rfl (lv_at hl 0 rfl) ?_
  refine nw_Dc_9 cx (Nat.le_of_ble_eq_true rfl) (Nat.le_of_ble_eq_true rfl) d_Dc_init_18 (fun H50 hn51 z_H50 o_H50 => ?_)
  refine lv_dup cx.x cx.b d_Dc_init_21 rfl ?_
  refine lv_bipush (v := 20) cx.x cx.b d_Dc_init_22 (by decide) ?_
  refine hx_callv (iv_Dc_11 cx (c_Rw_init l hE (H := H50) (a := H48.size) (cap := 20) hn51 (by omega) (by omega) (by omega)) rfl hl.1 rfl (Nat.le_of_ble_eq_true rfl) d_Dc_init_24 ⟨Nat.le_of_ble_eq_true rfl, Nat.le_of_ble_eq_true rfl⟩ ⟨Nat.le_of_ble_eq_true rfl, Nat.le_of_ble_eq_true rfl⟩) hlo (fun _ h => h) (fun H53 locs hp52 hlo => ?_)
  obtain ⟨p1, p2, p3⟩ := hp52
  have a5 := (ho49.eq (o_H50 _ (by have := ho49.lt; omega))).ch p2 (by omega)
  refine pf_Dc_20_Dc (x := (some H48.size)) cx hnm a5 hlo hB (Nat.le_of_ble_eq_true rfl) d_Dc_init_27 (fun H54 locs ho55 z_H54 o_H54 hlo => ?_)
  have ho55 : hOb (eD E) classes H54 a 1 [.ref H.size, .ref H48.size, .int 0, .int 0] := ho55
  have k6 : hCh (fun q => q = a) H53 H54 := hCh.put z_H54 o_H54 rfl
  have r2 := ((r1.ch (hCh.new (S := fun _ => False) z_H50 o_H50) id id).ch p2 (by omega) (by omega)).ch k6 (by omega) (by omega)
  have r3 := p1.ch k6 (by omega) (by omega)
  rw [s3] at r3
  rw [show H44.size = H.size + 1 by omega] at r2
  rw [show H50.size = H.size + 3 by omega] at r3
  have a6 := ho55
  rw [s3] at a6
  have kk : hCh (fun q => q = a) H H54 := ⟨by omega, fun q hq hn => by rw [o_H54 q hn, p2.2 q (by omega) (by omega), o_H50 q (by omega), o_H48 q hn, q2.2 q (by omega) (by omega), o_H44 q hq]⟩
  exact hx_retv cx.x cx.b cx.r cx.k hlo (fun _ h => h) (Nat.le_of_ble_eq_true rfl) (Nat.le_of_ble_eq_true rfl) d_Dc_init_30 (⟨a6, r2, r3, kk, by omega⟩)

set_option maxHeartbeats 4000000 in
set_option maxRecDepth 100000 in
theorem c_Dc_init_T (l : Launch) {E : hE} (hE : EnvOk E) {H : Heap} {a : Nat} (h : hOb (eD E) classes H a 2 [.null, .null, .int 0, .int 0, .null]) (hB : eB E ≤ a) (hH : eB E ≤ H.size) : Ct l E y_Dc_init b_Dc_init 1 none (rmA 2 4 46) [.ref a] H (hQv (fun H1 => hOb (eD E) classes H1 a 2 [.ref H.size, .ref (H.size + 2), .int 0, .int 0, .null] ∧ Rw E H1 H.size (H.size + 1) 20 [] false ∧ Rw E H1 (H.size + 2) (H.size + 3) 20 [] false ∧ hCh (fun q => q = a) H H1 ∧ H1.size = H.size + 4)) := by
  refine hx_enter hE (by decide) (Nat.le_of_ble_eq_true rfl) ?_
  intro p e s m args below meth c ls cx hnm hl
  have hl : lv_has ls 1 [(0, .ref a)] := hl
  have hlo : hLo (eB E) [] := hLo.nil
  have hlt := h.lt
  refine lv_aload_n cx.x cx.b d_Dc_init_0 rfl (lv_at hl 0 rfl) ?_
  refine W.objInit cx.x cx.b cx.o (cx.ts _ tw_205) (cx.ts _ tw_31) (cx.ts _ tw_32) rfl (hl.1.trans cx.ml.symm) rfl d_Dc_init_1 (Nat.le_of_ble_eq_true rfl) (Nat.le_of_ble_eq_true rfl) ?_
  refine W.eq (g2 := F0 m 4 ls []) rfl ?_
  refine lv_aload_n cx.x cx.b d_Dc_init_4 rfl (lv_at hl 0 rfl) ?_
  refine nw_Dc_9 cx (Nat.le_of_ble_eq_true rfl) (Nat.le_of_ble_eq_true rfl) d_Dc_init_5 (fun H56 hn57 z_H56 o_H56 => ?_)
  refine lv_dup cx.x cx.b d_Dc_init_8 rfl ?_
  refine lv_bipush (v := 20) cx.x cx.b d_Dc_init_9 (by decide) ?_
  have k1 : hCh (fun q => q = a) H H56 := hCh.new z_H56 o_H56
  refine hx_callv (iv_Dc_11 cx (c_Rw_init l hE (H := H56) (a := H.size) (cap := 20) hn57 hH (by omega) (by omega)) rfl hl.1 rfl (Nat.le_of_ble_eq_true rfl) d_Dc_init_11 ⟨Nat.le_of_ble_eq_true rfl, Nat.le_of_ble_eq_true rfl⟩ ⟨Nat.le_of_ble_eq_true rfl, Nat.le_of_ble_eq_true rfl⟩) hlo (fun _ h => h) (fun H59 locs hp58 hlo => ?_)
  obtain ⟨q1, q2, q3⟩ := hp58
  have a2 : hOb (eD E) classes H59 a 2 [.null, .null, .int 0, .int 0, .null] := (h.eq (o_H56 _ hlt)).ch q2 (by omega)
  refine pf_Dc_14_Tp (x := (some H.size)) cx hnm a2 hlo hB (Nat.le_of_ble_eq_true rfl) d_Dc_init_14 (fun H60 locs ho61 z_H60 o_H60 hlo => ?_)
  have ho61 : hOb (eD E) classes H60 a 2 [.ref H.size, .null, .int 0, .int 0, .null] := ho61
  have a3 := ho61
  have r1 := q1.ch (hCh.put (S := fun q => q = a) z_H60 o_H60 rfl) (by omega) (by omega)
  have s3 : H60.size = H.size + 2 := by omega
  refine lv_aload_n cx.x cx.b d_Dc_init_17 rfl (lv_at hl 0 rfl) ?_
  refine nw_Dc_9 cx (Nat.le_of_ble_eq_true rfl) (Nat.le_of_ble_eq_true rfl) d_Dc_init_18 (fun H62 hn63 z_H62 o_H62 => ?_)
  refine lv_dup cx.x cx.b d_Dc_init_21 rfl ?_
  refine lv_bipush (v := 20) cx.x cx.b d_Dc_init_22 (by decide) ?_
  refine hx_callv (iv_Dc_11 cx (c_Rw_init l hE (H := H62) (a := H60.size) (cap := 20) hn63 (by omega) (by omega) (by omega)) rfl hl.1 rfl (Nat.le_of_ble_eq_true rfl) d_Dc_init_24 ⟨Nat.le_of_ble_eq_true rfl, Nat.le_of_ble_eq_true rfl⟩ ⟨Nat.le_of_ble_eq_true rfl, Nat.le_of_ble_eq_true rfl⟩) hlo (fun _ h => h) (fun H65 locs hp64 hlo => ?_)
  obtain ⟨p1, p2, p3⟩ := hp64
  have a5 := (ho61.eq (o_H62 _ (by have := ho61.lt; omega))).ch p2 (by omega)
  refine pf_Dc_20_Tp (x := (some H60.size)) cx hnm a5 hlo hB (Nat.le_of_ble_eq_true rfl) d_Dc_init_27 (fun H66 locs ho67 z_H66 o_H66 hlo => ?_)
  have ho67 : hOb (eD E) classes H66 a 2 [.ref H.size, .ref H60.size, .int 0, .int 0, .null] := ho67
  have k6 : hCh (fun q => q = a) H65 H66 := hCh.put z_H66 o_H66 rfl
  have r2 := ((r1.ch (hCh.new (S := fun _ => False) z_H62 o_H62) id id).ch p2 (by omega) (by omega)).ch k6 (by omega) (by omega)
  have r3 := p1.ch k6 (by omega) (by omega)
  rw [s3] at r3
  rw [show H56.size = H.size + 1 by omega] at r2
  rw [show H62.size = H.size + 3 by omega] at r3
  have a6 := ho67
  rw [s3] at a6
  have kk : hCh (fun q => q = a) H H66 := ⟨by omega, fun q hq hn => by rw [o_H66 q hn, p2.2 q (by omega) (by omega), o_H62 q (by omega), o_H60 q hn, q2.2 q (by omega) (by omega), o_H56 q hq]⟩
  exact hx_retv cx.x cx.b cx.r cx.k hlo (fun _ h => h) (Nat.le_of_ble_eq_true rfl) (Nat.le_of_ble_eq_true rfl) d_Dc_init_30 (⟨a6, r2, r3, kk, by omega⟩)

set_option maxHeartbeats 4000000 in
set_option maxRecDepth 100000 in
theorem c_Dc_addLine (l : Launch) {E : hE} (hE : EnvOk E) (hS : EnvS E) {H : Heap} (hO : Old E H) {ad : DA} {v : Option Nat} {dv : DV} {o1 o2 : Bool} (h : Dc E H ad v dv o1 o2) {b brr cap : Nat} {xs : List Nat} {o : Bool} (hb : Rw E H b brr cap xs o) (hap : ∀ q, dcS ad q → ¬ rS b brr q) (mem : Bool) {fm : Nat} (hfm : fm < 10) (hk : dv.2.2.1 < nKinds mem) : Ct l E y_Dc_addLine b_Dc_addLine 5 none (rmA 5 0 0) [.ref ad.1, .ref b, .int (bI mem), .int (nI fm)] H (hQv (fun H1 => Rw E H1 b brr cap ((lineD mem fm dv).foldl (addR cap) (xs, o)).1 ((lineD mem fm dv).foldl (addR cap) (xs, o)).2 ∧ hCh (rS b brr) H H1 ∧ H1.size = H.size)) := by
  refine hx_enter hE (by decide) (Nat.le_of_ble_eq_true rfl) ?_
  intro p e s m args below meth c ls cx hnm hl
  have hl : lv_has ls 5 [(0, .ref ad.1), (1, .ref b), (2, .int (bI mem)), (3, .int (nI fm))] := hl
  have hlo : hLo (eB E) [] := hLo.nil
  generalize hQ : MQ below _ args s _ _ _ = Q
  have hlo0 := rS.lo hb
  obtain ⟨G, hG⟩ : ∃ G, (lineD mem fm dv).foldl (addR cap) (xs, o) = G := ⟨_, rfl⟩
  rw [hG] at hQ
  have m64 := h.2.2.2.2.2.2
  cases mem
  · have BH : ∀ (i : Nat) (locs : List Loc) (xs1 : List Nat) (p1 : Bool) (H2 : Heap), hLo (eB E) locs → Rw E H2 b brr cap xs1 p1 → hCh (rS b brr) H H2 → H2.size = H.size → (strL (kindS false dv.2.2.1) ++ (32 :: (escN fm dv.1 ++ ([] ++ [10])))).foldl (addR cap) (xs1, p1) = G → ∀ ls, lv_has ls 5 [(4, .int (nI i)), (0, .ref ad.1), (1, .ref b), (2, .int (bI false)), (3, .int (nI fm))] → W p l e (rmA 5 0 0) s m args below meth c H2 locs 0 0 Q (F0 m 57 ls []) := by
      intro i locs xs1 p1 H2 hlo hr hch hsz hj ls hl
      have hO2 : Old E H2 := hO.ch hch hlo0
      have h2 := h.ch hch hap
      rw [List.foldl_append, List.foldl_cons, List.foldl_append, List.foldl_append] at hj
      refine lv_aload_n cx.x cx.b d_Dc_addLine_57 rfl (lv_at hl 2 rfl) ?_
      refine lv_iload_n cx.x cx.b d_Dc_addLine_58 rfl (lv_at hl 3 rfl) ?_
      refine lv_aload_n cx.x cx.b d_Dc_addLine_59 rfl (lv_at hl 1 rfl) ?_
      refine gd_Dc_27 cx h2.1 d_Dc_addLine_60 ?_
      refine hx_callr (iv_Dc_63 cx (c_Vo_kind l hE false hk) rfl hl.1 rfl (Nat.le_of_ble_eq_true rfl) d_Dc_addLine_63 ⟨Nat.le_of_ble_eq_true rfl, Nat.le_of_ble_eq_true rfl⟩ ⟨Nat.le_of_ble_eq_true rfl, Nat.le_of_ble_eq_true rfl⟩) hlo (fun _ h => h) (fun r70 H69 locs hp68 hlo => ?_)
      obtain ⟨hp68, hH9⟩ := hp68
      have hH9 := hH9.symm
      subst hH9
      subst hp68
      have hki : kindS false dv.2.2.1 < 17 := kindS_lt false _
      refine hx_callv (iv_Dc_47_Rw cx (c_Rw_addWord l hE hS hO2 hki hr) hr.1 rfl hl.1 rfl (Nat.le_of_ble_eq_true rfl) d_Dc_addLine_66 ⟨Nat.le_of_ble_eq_true rfl, Nat.le_of_ble_eq_true rfl⟩ ⟨Nat.le_of_ble_eq_true rfl, Nat.le_of_ble_eq_true rfl⟩) hlo (fun _ h => h) (fun H72 locs hp71 hlo => ?_)
      obtain ⟨q1, q2, q3⟩ := hp71
      have hr := q1
      have hch := hch.tr q2
      have hsz := q3.trans hsz
      have hO2 : Old E H72 := hO.ch hch hlo0
      have h2 := h.ch hch hap
      refine lv_aload_n cx.x cx.b d_Dc_addLine_69 rfl (lv_at hl 2 rfl) ?_
      refine lv_bipush (v := 32) cx.x cx.b d_Dc_addLine_70 (by decide) ?_
      refine hx_callv (iv_Dc_60_Rw cx (c_Rw_add l hE hr (x := 32) (by omega)) hr.1 rfl hl.1 rfl (Nat.le_of_ble_eq_true rfl) d_Dc_addLine_72 ⟨Nat.le_of_ble_eq_true rfl, Nat.le_of_ble_eq_true rfl⟩ ⟨Nat.le_of_ble_eq_true rfl, Nat.le_of_ble_eq_true rfl⟩) hlo (fun _ h => h) (fun H74 locs hp73 hlo => ?_)
      obtain ⟨q1, q2, q3⟩ := hp73
      have hr := q1
      have hch := hch.tr q2
      have hsz := q3.trans hsz
      have hO2 : Old E H74 := hO.ch hch hlo0
      have h2 := h.ch hch hap
      refine lv_aload_n cx.x cx.b d_Dc_addLine_75 rfl (lv_at hl 2 rfl) ?_
      refine lv_aload_n cx.x cx.b d_Dc_addLine_76 rfl (lv_at hl 1 rfl) ?_
      refine gd_Dc_14 cx h2.1 d_Dc_addLine_77 ?_
      refine lv_iload_n cx.x cx.b d_Dc_addLine_80 rfl (lv_at hl 4 rfl) ?_
      refine hx_callv (iv_Dc_65_Rw cx (c_Rw_addName l hE hr h2.2.1 (fun e => hap _ (Or.inr (Or.inl (Or.inl rfl))) (Or.inl e)) (fun e => hap _ (Or.inr (Or.inl (Or.inl rfl))) (Or.inr e)) (fun e => hap _ (Or.inr (Or.inl (Or.inr rfl))) (Or.inl e)) (fun e => hap _ (Or.inr (Or.inl (Or.inr rfl))) (Or.inr e)) hfm) hr.1 rfl hl.1 rfl (Nat.le_of_ble_eq_true rfl) d_Dc_addLine_81 ⟨Nat.le_of_ble_eq_true rfl, Nat.le_of_ble_eq_true rfl⟩ ⟨Nat.le_of_ble_eq_true rfl, Nat.le_of_ble_eq_true rfl⟩) hlo (fun _ h => h) (fun H76 locs hp75 hlo => ?_)
      obtain ⟨q1, q2, q3⟩ := hp75
      have hr := q1
      have hch := hch.tr q2
      have hsz := q3.trans hsz
      have hO2 : Old E H76 := hO.ch hch hlo0
      have h2 := h.ch hch hap
      refine lv_iload_n cx.x cx.b d_Dc_addLine_84 rfl (lv_at hl 3 rfl) ?_
      refine lv_if_eq (tgt := 103) cx.x cx.b d_Dc_addLine_85 (by decide) (fun _ => ?_) (fun c => absurd (by decide) c)
      refine lv_aload_n cx.x cx.b d_Dc_addLine_103 rfl (lv_at hl 2 rfl) ?_
      refine lv_bipush (v := 10) cx.x cx.b d_Dc_addLine_104 (by decide) ?_
      refine hx_callv (iv_Dc_60_Rw cx (c_Rw_add l hE hr (x := 10) (by omega)) hr.1 rfl hl.1 rfl (Nat.le_of_ble_eq_true rfl) d_Dc_addLine_106 ⟨Nat.le_of_ble_eq_true rfl, Nat.le_of_ble_eq_true rfl⟩ ⟨Nat.le_of_ble_eq_true rfl, Nat.le_of_ble_eq_true rfl⟩) hlo (fun _ h => h) (fun H78 locs hp77 hlo => ?_)
      obtain ⟨q1, q2, q3⟩ := hp77
      have hr := q1
      have hch := hch.tr q2
      have hsz := q3.trans hsz
      have hO2 : Old E H78 := hO.ch hch hlo0
      have h2 := h.ch hch hap
      rw [← hj] at hQ
      rw [← hQ]
      exact hx_retv cx.x cx.b cx.r cx.k hlo (fun _ h => h) (Nat.le_of_ble_eq_true rfl) (Nat.le_of_ble_eq_true rfl) d_Dc_addLine_109 (⟨hr, hch, hsz⟩)
    have LP : ∀ (k : Nat) (locs : List Loc) (i : Nat) (xs1 : List Nat) (p1 : Bool) (H2 : Heap), hLo (eB E) locs → (3 - i < k) → (i ≤ 3) → (Rw E H2 b brr cap xs1 p1) → (hCh (rS b brr) H H2) → (H2.size = H.size) → ((mkW false dv.2.2.2 (3 - i) ++ (strL (kindS false dv.2.2.1) ++ (32 :: (escN fm dv.1 ++ ([] ++ [10]))))).foldl (addR cap) (xs1, p1) = G) → ∀ ls, lv_has ls 5 [(4, .int (nI i)), (0, .ref ad.1), (1, .ref b), (2, .int (bI false)), (3, .int (nI fm))] → W p l e (rmA 5 0 0) s m args below meth c H2 locs 0 0 Q (F0 m 13 ls []) := by
      intro k
      induction k with
      | zero => intro locs i xs1 p1 H2 hlo hk1 hi hr hch hsz hj; exact absurd hk1 (by omega)
      | succ k ih =>
        intro locs i xs1 p1 H2 hlo hk1 hi hr hch hsz hj ls hl
        have hO2 : Old E H2 := hO.ch hch hlo0
        have h2 := h.ch hch hap
        refine lv_iload cx.x cx.b d_Dc_addLine_13 (lv_at hl 0 rfl) ?_
        refine lv_iload_n cx.x cx.b d_Dc_addLine_15 rfl (lv_at hl 3 rfl) ?_
        refine hx_calli (iv_Dc_51 cx (c_Vo_marks l hE false) rfl hl.1 rfl (Nat.le_of_ble_eq_true rfl) d_Dc_addLine_16 ⟨Nat.le_of_ble_eq_true rfl, Nat.le_of_ble_eq_true rfl⟩ ⟨Nat.le_of_ble_eq_true rfl, Nat.le_of_ble_eq_true rfl⟩) hlo (fun _ h => h) (fun r81 H80 locs hp79 hlo => ?_)
        obtain ⟨hp79, hH9⟩ := hp79
        have hH9 := hH9.symm
        subst hH9
        subst hp79
        refine lv_icmp_ge (tgt := 57) cx.x cx.b d_Dc_addLine_19 (by decide) (fun c1 => ?_) (fun c1 => ?_)
        · have c1 : 3 ≤ i := (nI_leI (a := 3) (b := i) (by omega) (by omega)).mp c1
          rw [show 3 - i = 0 by omega] at hj
          exact BH i _ _ _ _ hlo hr hch hsz hj _ hl
        · have c1 : i < 3 := Nat.not_le.mp (fun zz => c1 ((nI_leI (a := 3) (b := i) (by omega) (by omega)).mpr zz))
          obtain ⟨n9, hn9⟩ : ∃ n9, 3 - i = n9 + 1 := ⟨2 - i, by omega⟩
          rw [hn9] at hj
          have ei : nMarks false - (n9 + 1) = i := by show 3 - (n9 + 1) = i; omega
          have hmk : mkW false dv.2.2.2 (n9 + 1) = (if dv.2.2.2 / 2 ^ i % 2 = 1 then strL (markS false i) ++ [32] else []) ++ mkW false dv.2.2.2 n9 := by rw [show mkW false dv.2.2.2 (n9 + 1) = (if dv.2.2.2 / 2 ^ (nMarks false - (n9 + 1)) % 2 = 1 then strL (markS false (nMarks false - (n9 + 1))) ++ [32] else []) ++ mkW false dv.2.2.2 n9 from rfl, ei]
          rw [hmk] at hj
          refine lv_aload_n cx.x cx.b d_Dc_addLine_22 rfl (lv_at hl 1 rfl) ?_
          refine gd_Dc_31 cx h2.1 d_Dc_addLine_23 ?_
          refine lv_iload cx.x cx.b d_Dc_addLine_26 (lv_at hl 0 rfl) ?_
          refine lv_ishr cx.x cx.b d_Dc_addLine_28 ?_
          refine lv_topi (fun x82 e_x82 => ?_)
          refine lv_iconst (v := 1) cx.x cx.b d_Dc_addLine_29 (by decide) ?_
          refine lv_iand cx.x cx.b d_Dc_addLine_30 ?_
          refine lv_topi (fun x83 e_x83 => ?_)
          refine lv_iconst (v := 1) cx.x cx.b d_Dc_addLine_31 (by decide) ?_
          have hbit : x83 = nI (dv.2.2.2 / 2 ^ i % 2) := by rw [e_x83, e_x82, pk_shrN (by omega) _ i (s_l i (by omega)), pk_andN (by have : dv.2.2.2 / 2 ^ i ≤ dv.2.2.2 := Nat.div_le_self _ _; omega) 1 (by decide)]
          rw [hbit]
          have hb2 : dv.2.2.2 / 2 ^ i % 2 < 2 := Nat.mod_lt _ (by omega)
          generalize hbb : dv.2.2.2 / 2 ^ i % 2 = bb at hb2 hj
          refine lv_icmp_ne (tgt := 51) cx.x cx.b d_Dc_addLine_32 (by decide) (fun c2 => ?_) (fun c2 => ?_)
          · have c2 : bb ≠ 1 := fun zz => c2 ((nI_eq (a := bb) (b := 1) (by omega) (by omega)).mpr zz)
            rw [if_neg c2, List.nil_append] at hj
            obtain ⟨x84, e_x84⟩ : ∃ y : Int32, y = nI i + 1 := ⟨_, rfl⟩
            refine lv_iinc (v := x84) (lv' := [(4, .int x84), (0, .ref ad.1), (1, .ref b), (2, .int (bI false)), (3, .int (nI fm))]) cx.x cx.b d_Dc_addLine_51 hl (k := 0) rfl (by rw [e_x84]; rfl) (by decide) rfl (fun ls hl => ?_)
            refine lv_goto (tgt := 13) cx.x cx.b d_Dc_addLine_54 (by decide) ?_
            rw [nI_1] at e_x84
            subst e_x84
            exact ih _ (i + 1) _ _ _ hlo (by omega) (by omega) hr hch hsz (by rw [show 3 - (i + 1) = n9 by omega]; exact hj) _ hl
          · have c2 : bb = 1 := (nI_eq (a := bb) (b := 1) (by omega) (by omega)).mp c2
            rw [if_pos c2, List.append_assoc, List.append_assoc, List.foldl_append] at hj
            have hmi : markS false i < 17 := markS_lt false _
            refine lv_aload_n cx.x cx.b d_Dc_addLine_35 rfl (lv_at hl 2 rfl) ?_
            refine lv_iload_n cx.x cx.b d_Dc_addLine_36 rfl (lv_at hl 3 rfl) ?_
            refine lv_iload cx.x cx.b d_Dc_addLine_37 (lv_at hl 0 rfl) ?_
            refine hx_callr (iv_Dc_56 cx (c_Vo_mark l hE false (show i < nMarks false from c1)) rfl hl.1 rfl (Nat.le_of_ble_eq_true rfl) d_Dc_addLine_39 ⟨Nat.le_of_ble_eq_true rfl, Nat.le_of_ble_eq_true rfl⟩ ⟨Nat.le_of_ble_eq_true rfl, Nat.le_of_ble_eq_true rfl⟩) hlo (fun _ h => h) (fun r87 H86 locs hp85 hlo => ?_)
            obtain ⟨hp85, hH9⟩ := hp85
            have hH9 := hH9.symm
            subst hH9
            subst hp85
            refine hx_callv (iv_Dc_47_Rw cx (c_Rw_addWord l hE hS hO2 hmi hr) hr.1 rfl hl.1 rfl (Nat.le_of_ble_eq_true rfl) d_Dc_addLine_42 ⟨Nat.le_of_ble_eq_true rfl, Nat.le_of_ble_eq_true rfl⟩ ⟨Nat.le_of_ble_eq_true rfl, Nat.le_of_ble_eq_true rfl⟩) hlo (fun _ h => h) (fun H89 locs hp88 hlo => ?_)
            obtain ⟨q1, q2, q3⟩ := hp88
            have hr := q1
            have hch := hch.tr q2
            have hsz := q3.trans hsz
            have hO2 : Old E H89 := hO.ch hch hlo0
            have h2 := h.ch hch hap
            refine lv_aload_n cx.x cx.b d_Dc_addLine_45 rfl (lv_at hl 2 rfl) ?_
            refine lv_bipush (v := 32) cx.x cx.b d_Dc_addLine_46 (by decide) ?_
            refine hx_callv (iv_Dc_60_Rw cx (c_Rw_add l hE hr (x := 32) (by omega)) hr.1 rfl hl.1 rfl (Nat.le_of_ble_eq_true rfl) d_Dc_addLine_48 ⟨Nat.le_of_ble_eq_true rfl, Nat.le_of_ble_eq_true rfl⟩ ⟨Nat.le_of_ble_eq_true rfl, Nat.le_of_ble_eq_true rfl⟩) hlo (fun _ h => h) (fun H91 locs hp90 hlo => ?_)
            obtain ⟨q1, q2, q3⟩ := hp90
            have hr := q1
            have hch := hch.tr q2
            have hsz := q3.trans hsz
            have hO2 : Old E H91 := hO.ch hch hlo0
            have h2 := h.ch hch hap
            obtain ⟨x92, e_x92⟩ : ∃ y : Int32, y = nI i + 1 := ⟨_, rfl⟩
            refine lv_iinc (v := x92) (lv' := [(4, .int x92), (0, .ref ad.1), (1, .ref b), (2, .int (bI false)), (3, .int (nI fm))]) cx.x cx.b d_Dc_addLine_51 hl (k := 0) rfl (by rw [e_x92]; rfl) (by decide) rfl (fun ls hl => ?_)
            refine lv_goto (tgt := 13) cx.x cx.b d_Dc_addLine_54 (by decide) ?_
            rw [nI_1] at e_x92
            subst e_x92
            exact ih _ (i + 1) _ _ _ hlo (by omega) (by omega) hr hch hsz (by rw [show 3 - (i + 1) = n9 by omega]; exact hj) _ hl
    have hr := hb
    have hch : hCh (rS b brr) H H := hCh.rf
    have hsz : H.size = H.size := rfl
    have hO2 : Old E H := hO.ch hch hlo0
    have h2 := h.ch hch hap
    refine lv_iload_n cx.x cx.b d_Dc_addLine_0 rfl (lv_at hl 2 rfl) ?_
    refine lv_if_eq (tgt := 10) cx.x cx.b d_Dc_addLine_1 (by decide) (fun _ => ?_) (fun c => absurd (by decide) c)
    refine lv_iconst (v := 0) cx.x cx.b d_Dc_addLine_10 (by decide) ?_
    refine lv_istore (lv' := [(4, .int 0), (0, .ref ad.1), (1, .ref b), (2, .int (bI false)), (3, .int (nI fm))]) cx.x cx.b d_Dc_addLine_11 hl (by decide) rfl (fun ls hl => ?_)
    exact LP 4 _ 0 _ _ _ hlo (by omega) (by omega) hr hch hsz hG _ hl
  · have BH : ∀ (i : Nat) (locs : List Loc) (xs1 : List Nat) (p1 : Bool) (H2 : Heap), hLo (eB E) locs → Rw E H2 b brr cap xs1 p1 → hCh (rS b brr) H H2 → H2.size = H.size → (strL (kindS true dv.2.2.1) ++ (32 :: (escN fm dv.1 ++ ((32 :: escN fm dv.2.1) ++ [10])))).foldl (addR cap) (xs1, p1) = G → ∀ ls, lv_has ls 5 [(4, .int (nI i)), (0, .ref ad.1), (1, .ref b), (2, .int (bI true)), (3, .int (nI fm))] → W p l e (rmA 5 0 0) s m args below meth c H2 locs 0 0 Q (F0 m 57 ls []) := by
      intro i locs xs1 p1 H2 hlo hr hch hsz hj ls hl
      have hO2 : Old E H2 := hO.ch hch hlo0
      have h2 := h.ch hch hap
      rw [List.foldl_append, List.foldl_cons, List.foldl_append, List.foldl_append] at hj
      refine lv_aload_n cx.x cx.b d_Dc_addLine_57 rfl (lv_at hl 2 rfl) ?_
      refine lv_iload_n cx.x cx.b d_Dc_addLine_58 rfl (lv_at hl 3 rfl) ?_
      refine lv_aload_n cx.x cx.b d_Dc_addLine_59 rfl (lv_at hl 1 rfl) ?_
      refine gd_Dc_27 cx h2.1 d_Dc_addLine_60 ?_
      refine hx_callr (iv_Dc_63 cx (c_Vo_kind l hE true hk) rfl hl.1 rfl (Nat.le_of_ble_eq_true rfl) d_Dc_addLine_63 ⟨Nat.le_of_ble_eq_true rfl, Nat.le_of_ble_eq_true rfl⟩ ⟨Nat.le_of_ble_eq_true rfl, Nat.le_of_ble_eq_true rfl⟩) hlo (fun _ h => h) (fun r95 H94 locs hp93 hlo => ?_)
      obtain ⟨hp93, hH9⟩ := hp93
      have hH9 := hH9.symm
      subst hH9
      subst hp93
      have hki : kindS true dv.2.2.1 < 17 := kindS_lt true _
      refine hx_callv (iv_Dc_47_Rw cx (c_Rw_addWord l hE hS hO2 hki hr) hr.1 rfl hl.1 rfl (Nat.le_of_ble_eq_true rfl) d_Dc_addLine_66 ⟨Nat.le_of_ble_eq_true rfl, Nat.le_of_ble_eq_true rfl⟩ ⟨Nat.le_of_ble_eq_true rfl, Nat.le_of_ble_eq_true rfl⟩) hlo (fun _ h => h) (fun H97 locs hp96 hlo => ?_)
      obtain ⟨q1, q2, q3⟩ := hp96
      have hr := q1
      have hch := hch.tr q2
      have hsz := q3.trans hsz
      have hO2 : Old E H97 := hO.ch hch hlo0
      have h2 := h.ch hch hap
      refine lv_aload_n cx.x cx.b d_Dc_addLine_69 rfl (lv_at hl 2 rfl) ?_
      refine lv_bipush (v := 32) cx.x cx.b d_Dc_addLine_70 (by decide) ?_
      refine hx_callv (iv_Dc_60_Rw cx (c_Rw_add l hE hr (x := 32) (by omega)) hr.1 rfl hl.1 rfl (Nat.le_of_ble_eq_true rfl) d_Dc_addLine_72 ⟨Nat.le_of_ble_eq_true rfl, Nat.le_of_ble_eq_true rfl⟩ ⟨Nat.le_of_ble_eq_true rfl, Nat.le_of_ble_eq_true rfl⟩) hlo (fun _ h => h) (fun H99 locs hp98 hlo => ?_)
      obtain ⟨q1, q2, q3⟩ := hp98
      have hr := q1
      have hch := hch.tr q2
      have hsz := q3.trans hsz
      have hO2 : Old E H99 := hO.ch hch hlo0
      have h2 := h.ch hch hap
      refine lv_aload_n cx.x cx.b d_Dc_addLine_75 rfl (lv_at hl 2 rfl) ?_
      refine lv_aload_n cx.x cx.b d_Dc_addLine_76 rfl (lv_at hl 1 rfl) ?_
      refine gd_Dc_14 cx h2.1 d_Dc_addLine_77 ?_
      refine lv_iload_n cx.x cx.b d_Dc_addLine_80 rfl (lv_at hl 4 rfl) ?_
      refine hx_callv (iv_Dc_65_Rw cx (c_Rw_addName l hE hr h2.2.1 (fun e => hap _ (Or.inr (Or.inl (Or.inl rfl))) (Or.inl e)) (fun e => hap _ (Or.inr (Or.inl (Or.inl rfl))) (Or.inr e)) (fun e => hap _ (Or.inr (Or.inl (Or.inr rfl))) (Or.inl e)) (fun e => hap _ (Or.inr (Or.inl (Or.inr rfl))) (Or.inr e)) hfm) hr.1 rfl hl.1 rfl (Nat.le_of_ble_eq_true rfl) d_Dc_addLine_81 ⟨Nat.le_of_ble_eq_true rfl, Nat.le_of_ble_eq_true rfl⟩ ⟨Nat.le_of_ble_eq_true rfl, Nat.le_of_ble_eq_true rfl⟩) hlo (fun _ h => h) (fun H101 locs hp100 hlo => ?_)
      obtain ⟨q1, q2, q3⟩ := hp100
      have hr := q1
      have hch := hch.tr q2
      have hsz := q3.trans hsz
      have hO2 : Old E H101 := hO.ch hch hlo0
      have h2 := h.ch hch hap
      refine lv_iload_n cx.x cx.b d_Dc_addLine_84 rfl (lv_at hl 3 rfl) ?_
      refine lv_if_eq (tgt := 103) cx.x cx.b d_Dc_addLine_85 (by decide) (fun c => absurd c (by decide)) (fun _ => ?_)
      refine lv_aload_n cx.x cx.b d_Dc_addLine_88 rfl (lv_at hl 2 rfl) ?_
      refine lv_bipush (v := 32) cx.x cx.b d_Dc_addLine_89 (by decide) ?_
      rw [List.foldl_cons] at hj
      refine hx_callv (iv_Dc_60_Rw cx (c_Rw_add l hE hr (x := 32) (by omega)) hr.1 rfl hl.1 rfl (Nat.le_of_ble_eq_true rfl) d_Dc_addLine_91 ⟨Nat.le_of_ble_eq_true rfl, Nat.le_of_ble_eq_true rfl⟩ ⟨Nat.le_of_ble_eq_true rfl, Nat.le_of_ble_eq_true rfl⟩) hlo (fun _ h => h) (fun H103 locs hp102 hlo => ?_)
      obtain ⟨q1, q2, q3⟩ := hp102
      have hr := q1
      have hch := hch.tr q2
      have hsz := q3.trans hsz
      have hO2 : Old E H103 := hO.ch hch hlo0
      have h2 := h.ch hch hap
      refine lv_aload_n cx.x cx.b d_Dc_addLine_94 rfl (lv_at hl 2 rfl) ?_
      refine lv_aload_n cx.x cx.b d_Dc_addLine_95 rfl (lv_at hl 1 rfl) ?_
      refine gd_Dc_20 cx h2.1 d_Dc_addLine_96 ?_
      refine lv_iload_n cx.x cx.b d_Dc_addLine_99 rfl (lv_at hl 4 rfl) ?_
      refine hx_callv (iv_Dc_65_Rw cx (c_Rw_addName l hE hr h2.2.2.1 (fun e => hap _ (Or.inr (Or.inr (Or.inl rfl))) (Or.inl e)) (fun e => hap _ (Or.inr (Or.inr (Or.inl rfl))) (Or.inr e)) (fun e => hap _ (Or.inr (Or.inr (Or.inr rfl))) (Or.inl e)) (fun e => hap _ (Or.inr (Or.inr (Or.inr rfl))) (Or.inr e)) hfm) hr.1 rfl hl.1 rfl (Nat.le_of_ble_eq_true rfl) d_Dc_addLine_100 ⟨Nat.le_of_ble_eq_true rfl, Nat.le_of_ble_eq_true rfl⟩ ⟨Nat.le_of_ble_eq_true rfl, Nat.le_of_ble_eq_true rfl⟩) hlo (fun _ h => h) (fun H105 locs hp104 hlo => ?_)
      obtain ⟨q1, q2, q3⟩ := hp104
      have hr := q1
      have hch := hch.tr q2
      have hsz := q3.trans hsz
      have hO2 : Old E H105 := hO.ch hch hlo0
      have h2 := h.ch hch hap
      refine lv_aload_n cx.x cx.b d_Dc_addLine_103 rfl (lv_at hl 2 rfl) ?_
      refine lv_bipush (v := 10) cx.x cx.b d_Dc_addLine_104 (by decide) ?_
      refine hx_callv (iv_Dc_60_Rw cx (c_Rw_add l hE hr (x := 10) (by omega)) hr.1 rfl hl.1 rfl (Nat.le_of_ble_eq_true rfl) d_Dc_addLine_106 ⟨Nat.le_of_ble_eq_true rfl, Nat.le_of_ble_eq_true rfl⟩ ⟨Nat.le_of_ble_eq_true rfl, Nat.le_of_ble_eq_true rfl⟩) hlo (fun _ h => h) (fun H107 locs hp106 hlo => ?_)
      obtain ⟨q1, q2, q3⟩ := hp106
      have hr := q1
      have hch := hch.tr q2
      have hsz := q3.trans hsz
      have hO2 : Old E H107 := hO.ch hch hlo0
      have h2 := h.ch hch hap
      rw [← hj] at hQ
      rw [← hQ]
      exact hx_retv cx.x cx.b cx.r cx.k hlo (fun _ h => h) (Nat.le_of_ble_eq_true rfl) (Nat.le_of_ble_eq_true rfl) d_Dc_addLine_109 (⟨hr, hch, hsz⟩)
    have LP : ∀ (k : Nat) (locs : List Loc) (i : Nat) (xs1 : List Nat) (p1 : Bool) (H2 : Heap), hLo (eB E) locs → (5 - i < k) → (i ≤ 5) → (Rw E H2 b brr cap xs1 p1) → (hCh (rS b brr) H H2) → (H2.size = H.size) → ((mkW true dv.2.2.2 (5 - i) ++ (strL (kindS true dv.2.2.1) ++ (32 :: (escN fm dv.1 ++ ((32 :: escN fm dv.2.1) ++ [10]))))).foldl (addR cap) (xs1, p1) = G) → ∀ ls, lv_has ls 5 [(4, .int (nI i)), (0, .ref ad.1), (1, .ref b), (2, .int (bI true)), (3, .int (nI fm))] → W p l e (rmA 5 0 0) s m args below meth c H2 locs 0 0 Q (F0 m 13 ls []) := by
      intro k
      induction k with
      | zero => intro locs i xs1 p1 H2 hlo hk1 hi hr hch hsz hj; exact absurd hk1 (by omega)
      | succ k ih =>
        intro locs i xs1 p1 H2 hlo hk1 hi hr hch hsz hj ls hl
        have hO2 : Old E H2 := hO.ch hch hlo0
        have h2 := h.ch hch hap
        refine lv_iload cx.x cx.b d_Dc_addLine_13 (lv_at hl 0 rfl) ?_
        refine lv_iload_n cx.x cx.b d_Dc_addLine_15 rfl (lv_at hl 3 rfl) ?_
        refine hx_calli (iv_Dc_51 cx (c_Vo_marks l hE true) rfl hl.1 rfl (Nat.le_of_ble_eq_true rfl) d_Dc_addLine_16 ⟨Nat.le_of_ble_eq_true rfl, Nat.le_of_ble_eq_true rfl⟩ ⟨Nat.le_of_ble_eq_true rfl, Nat.le_of_ble_eq_true rfl⟩) hlo (fun _ h => h) (fun r110 H109 locs hp108 hlo => ?_)
        obtain ⟨hp108, hH9⟩ := hp108
        have hH9 := hH9.symm
        subst hH9
        subst hp108
        refine lv_icmp_ge (tgt := 57) cx.x cx.b d_Dc_addLine_19 (by decide) (fun c1 => ?_) (fun c1 => ?_)
        · have c1 : 5 ≤ i := (nI_leI (a := 5) (b := i) (by omega) (by omega)).mp c1
          rw [show 5 - i = 0 by omega] at hj
          exact BH i _ _ _ _ hlo hr hch hsz hj _ hl
        · have c1 : i < 5 := Nat.not_le.mp (fun zz => c1 ((nI_leI (a := 5) (b := i) (by omega) (by omega)).mpr zz))
          obtain ⟨n9, hn9⟩ : ∃ n9, 5 - i = n9 + 1 := ⟨4 - i, by omega⟩
          rw [hn9] at hj
          have ei : nMarks true - (n9 + 1) = i := by show 5 - (n9 + 1) = i; omega
          have hmk : mkW true dv.2.2.2 (n9 + 1) = (if dv.2.2.2 / 2 ^ i % 2 = 1 then strL (markS true i) ++ [32] else []) ++ mkW true dv.2.2.2 n9 := by rw [show mkW true dv.2.2.2 (n9 + 1) = (if dv.2.2.2 / 2 ^ (nMarks true - (n9 + 1)) % 2 = 1 then strL (markS true (nMarks true - (n9 + 1))) ++ [32] else []) ++ mkW true dv.2.2.2 n9 from rfl, ei]
          rw [hmk] at hj
          refine lv_aload_n cx.x cx.b d_Dc_addLine_22 rfl (lv_at hl 1 rfl) ?_
          refine gd_Dc_31 cx h2.1 d_Dc_addLine_23 ?_
          refine lv_iload cx.x cx.b d_Dc_addLine_26 (lv_at hl 0 rfl) ?_
          refine lv_ishr cx.x cx.b d_Dc_addLine_28 ?_
          refine lv_topi (fun x111 e_x111 => ?_)
          refine lv_iconst (v := 1) cx.x cx.b d_Dc_addLine_29 (by decide) ?_
          refine lv_iand cx.x cx.b d_Dc_addLine_30 ?_
          refine lv_topi (fun x112 e_x112 => ?_)
          refine lv_iconst (v := 1) cx.x cx.b d_Dc_addLine_31 (by decide) ?_
          have hbit : x112 = nI (dv.2.2.2 / 2 ^ i % 2) := by rw [e_x112, e_x111, pk_shrN (by omega) _ i (s_l i (by omega)), pk_andN (by have : dv.2.2.2 / 2 ^ i ≤ dv.2.2.2 := Nat.div_le_self _ _; omega) 1 (by decide)]
          rw [hbit]
          have hb2 : dv.2.2.2 / 2 ^ i % 2 < 2 := Nat.mod_lt _ (by omega)
          generalize hbb : dv.2.2.2 / 2 ^ i % 2 = bb at hb2 hj
          refine lv_icmp_ne (tgt := 51) cx.x cx.b d_Dc_addLine_32 (by decide) (fun c2 => ?_) (fun c2 => ?_)
          · have c2 : bb ≠ 1 := fun zz => c2 ((nI_eq (a := bb) (b := 1) (by omega) (by omega)).mpr zz)
            rw [if_neg c2, List.nil_append] at hj
            obtain ⟨x113, e_x113⟩ : ∃ y : Int32, y = nI i + 1 := ⟨_, rfl⟩
            refine lv_iinc (v := x113) (lv' := [(4, .int x113), (0, .ref ad.1), (1, .ref b), (2, .int (bI true)), (3, .int (nI fm))]) cx.x cx.b d_Dc_addLine_51 hl (k := 0) rfl (by rw [e_x113]; rfl) (by decide) rfl (fun ls hl => ?_)
            refine lv_goto (tgt := 13) cx.x cx.b d_Dc_addLine_54 (by decide) ?_
            rw [nI_1] at e_x113
            subst e_x113
            exact ih _ (i + 1) _ _ _ hlo (by omega) (by omega) hr hch hsz (by rw [show 5 - (i + 1) = n9 by omega]; exact hj) _ hl
          · have c2 : bb = 1 := (nI_eq (a := bb) (b := 1) (by omega) (by omega)).mp c2
            rw [if_pos c2, List.append_assoc, List.append_assoc, List.foldl_append] at hj
            have hmi : markS true i < 17 := markS_lt true _
            refine lv_aload_n cx.x cx.b d_Dc_addLine_35 rfl (lv_at hl 2 rfl) ?_
            refine lv_iload_n cx.x cx.b d_Dc_addLine_36 rfl (lv_at hl 3 rfl) ?_
            refine lv_iload cx.x cx.b d_Dc_addLine_37 (lv_at hl 0 rfl) ?_
            refine hx_callr (iv_Dc_56 cx (c_Vo_mark l hE true (show i < nMarks true from c1)) rfl hl.1 rfl (Nat.le_of_ble_eq_true rfl) d_Dc_addLine_39 ⟨Nat.le_of_ble_eq_true rfl, Nat.le_of_ble_eq_true rfl⟩ ⟨Nat.le_of_ble_eq_true rfl, Nat.le_of_ble_eq_true rfl⟩) hlo (fun _ h => h) (fun r116 H115 locs hp114 hlo => ?_)
            obtain ⟨hp114, hH9⟩ := hp114
            have hH9 := hH9.symm
            subst hH9
            subst hp114
            refine hx_callv (iv_Dc_47_Rw cx (c_Rw_addWord l hE hS hO2 hmi hr) hr.1 rfl hl.1 rfl (Nat.le_of_ble_eq_true rfl) d_Dc_addLine_42 ⟨Nat.le_of_ble_eq_true rfl, Nat.le_of_ble_eq_true rfl⟩ ⟨Nat.le_of_ble_eq_true rfl, Nat.le_of_ble_eq_true rfl⟩) hlo (fun _ h => h) (fun H118 locs hp117 hlo => ?_)
            obtain ⟨q1, q2, q3⟩ := hp117
            have hr := q1
            have hch := hch.tr q2
            have hsz := q3.trans hsz
            have hO2 : Old E H118 := hO.ch hch hlo0
            have h2 := h.ch hch hap
            refine lv_aload_n cx.x cx.b d_Dc_addLine_45 rfl (lv_at hl 2 rfl) ?_
            refine lv_bipush (v := 32) cx.x cx.b d_Dc_addLine_46 (by decide) ?_
            refine hx_callv (iv_Dc_60_Rw cx (c_Rw_add l hE hr (x := 32) (by omega)) hr.1 rfl hl.1 rfl (Nat.le_of_ble_eq_true rfl) d_Dc_addLine_48 ⟨Nat.le_of_ble_eq_true rfl, Nat.le_of_ble_eq_true rfl⟩ ⟨Nat.le_of_ble_eq_true rfl, Nat.le_of_ble_eq_true rfl⟩) hlo (fun _ h => h) (fun H120 locs hp119 hlo => ?_)
            obtain ⟨q1, q2, q3⟩ := hp119
            have hr := q1
            have hch := hch.tr q2
            have hsz := q3.trans hsz
            have hO2 : Old E H120 := hO.ch hch hlo0
            have h2 := h.ch hch hap
            obtain ⟨x121, e_x121⟩ : ∃ y : Int32, y = nI i + 1 := ⟨_, rfl⟩
            refine lv_iinc (v := x121) (lv' := [(4, .int x121), (0, .ref ad.1), (1, .ref b), (2, .int (bI true)), (3, .int (nI fm))]) cx.x cx.b d_Dc_addLine_51 hl (k := 0) rfl (by rw [e_x121]; rfl) (by decide) rfl (fun ls hl => ?_)
            refine lv_goto (tgt := 13) cx.x cx.b d_Dc_addLine_54 (by decide) ?_
            rw [nI_1] at e_x121
            subst e_x121
            exact ih _ (i + 1) _ _ _ hlo (by omega) (by omega) hr hch hsz (by rw [show 5 - (i + 1) = n9 by omega]; exact hj) _ hl
    have hr := hb
    have hch : hCh (rS b brr) H H := hCh.rf
    have hsz : H.size = H.size := rfl
    have hO2 : Old E H := hO.ch hch hlo0
    have h2 := h.ch hch hap
    refine lv_iload_n cx.x cx.b d_Dc_addLine_0 rfl (lv_at hl 2 rfl) ?_
    refine lv_if_eq (tgt := 10) cx.x cx.b d_Dc_addLine_1 (by decide) (fun c => absurd c (by decide)) (fun _ => ?_)
    refine lv_aload_n cx.x cx.b d_Dc_addLine_4 rfl (lv_at hl 1 rfl) ?_
    refine va_ldcS cx.x cx.b cx.o (cx.X.2.2.2.2.2.1 ("BaselineText$Declaration", 45, "  ", 16) (List.mem_of_getElem? (i := 16) rfl)) d_Dc_addLine_5 ?_
    have hG0 := hG
    rw [show lineD true fm dv = strL 16 ++ (mkW true dv.2.2.2 5 ++ (strL (kindS true dv.2.2.1) ++ (32 :: (escN fm dv.1 ++ ((32 :: escN fm dv.2.1) ++ [10]))))) from rfl, List.foldl_append] at hG
    refine hx_callv (iv_Dc_47_Rw cx (c_Rw_addWord l hE hS hO2 (i := 16) (by omega) hr) hr.1 rfl hl.1 rfl (Nat.le_of_ble_eq_true rfl) d_Dc_addLine_7 ⟨Nat.le_of_ble_eq_true rfl, Nat.le_of_ble_eq_true rfl⟩ ⟨Nat.le_of_ble_eq_true rfl, Nat.le_of_ble_eq_true rfl⟩) hlo (fun _ h => h) (fun H123 locs hp122 hlo => ?_)
    obtain ⟨q1, q2, q3⟩ := hp122
    have hr := q1
    have hch := hch.tr q2
    have hsz := q3.trans hsz
    have hO2 : Old E H123 := hO.ch hch hlo0
    have h2 := h.ch hch hap
    refine lv_iconst (v := 0) cx.x cx.b d_Dc_addLine_10 (by decide) ?_
    refine lv_istore (lv' := [(4, .int 0), (0, .ref ad.1), (1, .ref b), (2, .int (bI true)), (3, .int (nI fm))]) cx.x cx.b d_Dc_addLine_11 hl (by decide) rfl (fun ls hl => ?_)
    exact LP 6 _ 0 _ _ _ hlo (by omega) (by omega) hr hch hsz hG _ hl
