theorem lns_len {fm : Nat} {C : List TU} (h : UOk C) : ∀ x ∈ lns fm C, x.length ≤ 150 := by
  intro x hx
  rcases List.mem_cons.mp hx with e | e
  · rw [e, List.length_append, List.length_singleton]; decide
  · obtain ⟨y, hy, e⟩ := List.mem_map.mp e
    rw [← e]; exact lnT_len (dcl_ok h y hy)
theorem dcl_len : ∀ (C : List TU), (∀ c ∈ C, c.2.length ≤ 8) → (dcl C).length ≤ 9 * C.length
  | [], _ => Nat.le_refl _
  | c :: C, h => by
    have h1 := dcl_len C (fun z hz => h z (List.mem_cons_of_mem _ hz))
    have h2 := h c List.mem_cons_self
    show (((false, c.1) :: c.2.map (fun d => (true, d))) ++ dcl C).length ≤ _
    rw [List.length_append, List.length_cons, List.length_map, List.length_cons]
    omega
theorem Srt.ok {C U : List TU} (h : Srt C U) (hI : UInv U) : UOk C ∧ C.length ≤ 12 ∧ ∀ c ∈ C, c.2.length ≤ 8 := by
  have hm : ∀ c ∈ C, ∃ u ∈ U, srU u = c := fun c hc => List.mem_map.mp (h.1.mem_iff.mp hc)
  refine ⟨fun c hc => ?_, by rw [h.len]; exact hI.1.1, fun c hc => ?_⟩
  · obtain ⟨u, hu, e⟩ := hm c hc
    obtain ⟨o1, o2⟩ := hI.2.2.2 u hu
    rw [← e]
    exact ⟨o1, fun d hd => o2 d ((srtM_perm u.2).mem_iff.mp hd)⟩
  · obtain ⟨u, hu, e⟩ := hm c hc
    rw [← e, show (srU u).2 = srtM u.2 from rfl, (srtM_perm u.2).length_eq]
    exact hI.1.2 u hu
theorem Srt.lns {C U : List TU} (h : Srt C U) (hI : UInv U) (fm : Nat) : (lns fm C).length ≤ 109 ∧ ∀ x ∈ lns fm C, x.length ≤ 150 := by
  obtain ⟨h1, h2, h3⟩ := h.ok hI
  have h4 := dcl_len C h3
  refine ⟨?_, lns_len h1⟩
  show ((dcl C).map (lnT fm)).length + 1 ≤ 109
  rw [List.length_map]; omega
theorem fd_nn {α : Type} [DecidableEq α] {A B : List α} {n k : Nat} (h1 : A[k]? = none) (h2 : B[k]? = none) : fdL n (A.drop k) (B.drop k) = 0 := by
  rw [List.drop_eq_nil_of_le (List.getElem?_eq_none_iff.mp h1), List.drop_eq_nil_of_le (List.getElem?_eq_none_iff.mp h2)]
  unfold fdL; rfl
theorem drop_some {α : Type} {A : List α} {k : Nat} {x : α} (h : A[k]? = some x) : A.drop k = x :: A.drop (k + 1) := by
  obtain ⟨h1, h2⟩ := List.getElem?_eq_some_iff.mp h
  rw [List.drop_eq_getElem_cons h1, h2]
theorem fd_sn {α : Type} [DecidableEq α] {A B : List α} {n k : Nat} {x : α} (h1 : A[k]? = some x) (h2 : B[k]? = none) : fdL n (A.drop k) (B.drop k) = n := by
  rw [drop_some h1, List.drop_eq_nil_of_le (List.getElem?_eq_none_iff.mp h2)]
  unfold fdL; rfl
theorem fd_ns {α : Type} [DecidableEq α] {A B : List α} {n k : Nat} {x : α} (h1 : A[k]? = none) (h2 : B[k]? = some x) : fdL n (A.drop k) (B.drop k) = n := by rw [fdL_symm]; exact fd_sn h2 h1
theorem fd_ne {α : Type} [DecidableEq α] {A B : List α} {n k : Nat} {x y : α} (h1 : A[k]? = some x) (h2 : B[k]? = some y) (h : x ≠ y) : fdL n (A.drop k) (B.drop k) = n := by
  rw [drop_some h1, drop_some h2]
  show (if x = y then _ else n) = n
  rw [if_neg h]
theorem fd_eq {α : Type} [DecidableEq α] {A B : List α} {n k : Nat} {x : α} (h1 : A[k]? = some x) (h2 : B[k]? = some x) : fdL n (A.drop k) (B.drop k) = fdL (n + 1) (A.drop (k + 1)) (B.drop (k + 1)) := by
  rw [drop_some h1, drop_some h2]
  show (if x = x then _ else n) = _
  rw [if_pos rfl]
theorem eq_gD {A B : List Nat} (hl : A.length = B.length) (h : ∀ i, i < A.length → A.getD i 0 = B.getD i 0) : A = B := by
  apply List.ext_getElem hl
  intro i h1 h2
  have := h i h1
  rw [List.getD_eq_getElem?_getD, List.getElem?_eq_getElem h1, List.getD_eq_getElem?_getD, List.getElem?_eq_getElem h2] at this
  exact this
def flT (L : List (List Nat)) : List Nat := L.flatMap (· ++ [10])
theorem flT_some {L : List (List Nat)} {k : Nat} {x : List Nat} (h : L[k]? = some x) : flT (L.drop k) = (x ++ [10]) ++ flT (L.drop (k + 1)) := by
  unfold flT
  rw [drop_some h, List.flatMap_cons]
theorem flT_none {L : List (List Nat)} {k : Nat} (h : L[k]? = none) : flT (L.drop k) = [] := by
  rw [List.drop_eq_nil_of_le (List.getElem?_eq_none_iff.mp h)]; rfl
theorem flT_len : ∀ {L : List (List Nat)}, (∀ x ∈ L, x.length ≤ 150) → (flT L).length ≤ 151 * L.length
  | [], _ => Nat.le_refl _
  | x :: L, h => by
    have h1 := flT_len (L := L) (fun z hz => h z (List.mem_cons_of_mem _ hz))
    have h2 := h x List.mem_cons_self
    show ((x ++ [10]) ++ flT L).length ≤ _
    rw [List.length_append, List.length_append, List.length_singleton, List.length_cons]
    omega
set_option maxHeartbeats 4000000 in
set_option maxRecDepth 100000 in
theorem c_Mo_keep (l : Launch) {E : hE} (hE : EnvOk E) {H : Heap} {a : Nat} {ad : Nat → Nat} {g : MS} (M : Mo E H a ad g) {b1 : Nat} {U C : List TU} (hb1 : b1 < 2) (hU : Rows g.1 b1 U) (hC : Srt C U) (hI : UInv U) (hfm : g.1 3 b1 < 10) {n1 : Nat} (hn1 : n1 < 1000) : Ct l E y_Mo_keep b_Mo_keep 5 (some .boolean) (rmA 4 0 0) [.ref a, .int (nI b1), .int (nI n1)] H (hQi (fun r H1 => ∃ (o9 q9 : Nat → Nat) (n9 : Nat), Mw E H H1 a ad (up (up g.1 12 o9) 13 q9, up g.2 11 n9) ∧ LnO (lns (g.1 3 b1) C)[n1]? r q9 n9)) := by
  refine hx_enter hE (by decide) (Nat.le_of_ble_eq_true rfl) ?_
  intro p e s m args below meth c ls cx hnm hl
  have hl : lv_has ls 5 [(0, .ref a), (1, .int (nI b1)), (2, .int (nI n1))] := hl
  have hlo : hLo (eB E) [] := hLo.nil
  generalize hQ : MQ below _ args s _ _ _ = Q
  have M0 : Mw E H H a ad g := ⟨M, hCh.rf, rfl⟩
  obtain ⟨hL1, hL2⟩ := hC.lns hI (g.1 3 b1)
  refine lv_aload_n cx.x cx.b d_Mo_keep_0 rfl (lv_at hl 0 rfl) ?_
  refine lv_iload_n cx.x cx.b d_Mo_keep_1 rfl (lv_at hl 1 rfl) ?_
  refine lv_iload_n cx.x cx.b d_Mo_keep_2 rfl (lv_at hl 2 rfl) ?_
  refine hx_calli (iv_Mo_226_Mo cx (c_Mo_lineOf l hE M0.1 (b1 := b1) hb1 hU hC hI hfm (n1 := n1) (by omega)) M0.1.1 rfl hl.1 rfl (Nat.le_of_ble_eq_true rfl) d_Mo_keep_3 ⟨Nat.le_of_ble_eq_true rfl, Nat.le_of_ble_eq_true rfl⟩ ⟨Nat.le_of_ble_eq_true rfl, Nat.le_of_ble_eq_true rfl⟩) hlo (fun _ h => h) (fun r3 H2 locs hp1 hlo => ?_)
  obtain ⟨o5, n6, q_M4, p_M4⟩ := hp1
  have M4 : Mw E H H2 a ad (up g.1 12 o5, up g.2 11 n6) := Mw.cg (M0.tr q_M4) rfl rfl rfl rfl rfl rfl rfl rfl rfl rfl rfl rfl rfl rfl rfl rfl rfl rfl rfl rfl rfl rfl rfl rfl rfl rfl
  have oM7 : hOb (eD E) classes H2 a 10 [.ref (ad 0), .int (nI (g.2 0)), .ref (ad 1), .int (nI (g.2 1)), .int (nI (g.2 2)), .ref (ad 2), .ref (ad 3), .ref (ad 4), .ref (ad 5), .ref (ad 6), .ref (ad 7), .ref (ad 8), .ref (ad 9), .ref (ad 10), .int (nI (g.2 3)), .int (nI (g.2 4)), .int (nI (g.2 5)), .int (nI (g.2 6)), .int (nI (g.2 7)), .ref (ad 11), .int (nI (g.2 8)), .int (nI (g.2 9)), .int (nI (g.2 10)), .ref (ad 12), .int (nI n6), .ref (ad 13)] := M4.1.1
  have hn9 : n6 ≤ 150 := by rcases hq : (lns (g.1 3 b1) C)[n1]? with _ | x; rw [hq] at p_M4; rw [p_M4.2]; omega; rw [hq] at p_M4; rw [p_M4.2.1]; exact hL2 x (List.mem_of_getElem? hq)
  refine lv_istore_n (lv' := [(3, .int r3), (0, .ref a), (1, .int (nI b1)), (2, .int (nI n1))]) cx.x cx.b d_Mo_keep_6 rfl hl (by decide) rfl (fun ls hl => ?_)
  refine lv_iconst (v := 0) cx.x cx.b d_Mo_keep_7 (by decide) ?_
  refine lv_istore (lv' := [(4, .int 0), (3, .int r3), (0, .ref a), (1, .int (nI b1)), (2, .int (nI n1))]) cx.x cx.b d_Mo_keep_8 hl (by decide) rfl (fun ls hl => ?_)
  have LP : ∀ (k : Nat) (locs : List Loc) (j1 : Nat) (q9 : Nat → Nat) (H5 : Heap), hLo (eB E) locs → (n6 - j1 < k) → (j1 ≤ n6) → (Mw E H H5 a ad (up (up g.1 12 o5) 13 q9, up g.2 11 n6)) → (∀ i, i < j1 → q9 i = o5 i) → ∀ ls, lv_has ls 5 [(4, .int (nI j1)), (3, .int r3), (0, .ref a)] → W p l e (rmA 4 0 0) s m args below meth c H5 locs 0 0 Q (F0 m 10 ls []) := by
    intro k
    induction k with
    | zero => intro locs j1 q9 H5 hlo hk hj1 M5 hq9; exact absurd hk (by omega)
    | succ k ih =>
      intro locs j1 q9 H5 hlo hk hj1 M5 hq9 ls hl
      have oM8 : hOb (eD E) classes H5 a 10 [.ref (ad 0), .int (nI (g.2 0)), .ref (ad 1), .int (nI (g.2 1)), .int (nI (g.2 2)), .ref (ad 2), .ref (ad 3), .ref (ad 4), .ref (ad 5), .ref (ad 6), .ref (ad 7), .ref (ad 8), .ref (ad 9), .ref (ad 10), .int (nI (g.2 3)), .int (nI (g.2 4)), .int (nI (g.2 5)), .int (nI (g.2 6)), .int (nI (g.2 7)), .ref (ad 11), .int (nI (g.2 8)), .int (nI (g.2 9)), .int (nI (g.2 10)), .ref (ad 12), .int (nI n6), .ref (ad 13)] := M5.1.1
      refine lv_iload cx.x cx.b d_Mo_keep_10 (lv_at hl 0 rfl) ?_
      refine lv_aload_n cx.x cx.b d_Mo_keep_12 rfl (lv_at hl 2 rfl) ?_
      refine gf_Mo_195_Mo cx oM8 rfl d_Mo_keep_13 ?_
      refine lv_icmp_ge (tgt := 39) cx.x cx.b d_Mo_keep_16 (by decide) (fun c1 => ?_) (fun c1 => ?_)
      · have c1 : n6 ≤ j1 := (nI_leI (a := n6) (b := j1) (by omega) (by omega)).mp c1
        rcases hq : (lns (g.1 3 b1) C)[n1]? with _ | x9
        · rw [hq] at p_M4 hQ
          obtain ⟨pr, ps⟩ := p_M4
          subst pr
          refine lv_iload_n cx.x cx.b d_Mo_keep_39 rfl (lv_at hl 1 rfl) ?_
          rw [← hQ]
          exact hx_reti cx.x cx.b cx.r cx.k rfl hlo (fun _ h => h) (Nat.le_of_ble_eq_true rfl) (Nat.le_of_ble_eq_true rfl) d_Mo_keep_40 (⟨o5, q9, n6, M5, rfl, ps⟩)
        · rw [hq] at p_M4 hQ
          obtain ⟨pr, ps⟩ := p_M4
          subst pr
          refine lv_iload_n cx.x cx.b d_Mo_keep_39 rfl (lv_at hl 1 rfl) ?_
          rw [← hQ]
          exact hx_reti cx.x cx.b cx.r cx.k rfl hlo (fun _ h => h) (Nat.le_of_ble_eq_true rfl) (Nat.le_of_ble_eq_true rfl) d_Mo_keep_40 (⟨o5, q9, n6, M5, rfl, ⟨ps.1, fun i hi => (hq9 i (by have := ps.1; omega)).trans (ps.2 i hi)⟩⟩)
      · have c1 : j1 < n6 := Nat.not_le.mp (fun zz => c1 ((nI_leI (a := n6) (b := j1) (by omega) (by omega)).mpr zz))
        refine lv_aload_n cx.x cx.b d_Mo_keep_19 rfl (lv_at hl 2 rfl) ?_
        refine gf_Mo_49_Mo cx oM8 rfl d_Mo_keep_20 ?_
        refine lv_iload cx.x cx.b d_Mo_keep_23 (lv_at hl 0 rfl) ?_
        refine lv_aload_n cx.x cx.b d_Mo_keep_25 rfl (lv_at hl 2 rfl) ?_
        refine gf_Mo_46_Mo cx oM8 rfl d_Mo_keep_26 ?_
        refine lv_iload cx.x cx.b d_Mo_keep_29 (lv_at hl 0 rfl) ?_
        refine hx_iald cx.x cx.b cx.K 0 (M5.1.2.1 12 (by decide)) rfl (show vp_in (nI j1) 300 from vp_in_nI (show j1 < 300 by omega) (by decide)) d_Mo_keep_31 ?_
        refine lv_topi (fun x9 e_x9 => ?_)
        have e_x9 : x9 = nI (o5 j1) := e_x9.trans (congrArg (fun z9 => nI (o5 z9)) (nI_clamp (n := j1) (by omega)))
        subst e_x9
        refine hx_iast cx.x cx.b cx.K 0 (M5.1.2.1 13 (by decide)) hlo (M5.1.2.2.2.1 13 (by decide)).1 rfl (show vp_in (nI j1) 300 from vp_in_nI (show j1 < 300 by omega) (by decide)) d_Mo_keep_32 (fun H10 locs ha11 z_H10 o_H10 hlo => ?_)
        have M12 : Mw E H H10 a ad (up (up g.1 12 o5) 13 (updN q9 j1 (o5 j1)), up g.2 11 n6) := M5.ar (up (up g.1 12 o5) 13 (updN q9 j1 (o5 j1)), up g.2 11 n6) 13 (by decide) (by have h9 := ha11; rw [show (nI j1 : Int32).toNatClampNeg = j1 from nI_clamp (n := j1) (by omega)] at h9; have h9 : hAi H10 (ad 13) (eA E 0) (arL 13) (upd (fun i => nI (q9 i)) j1 (nI (o5 j1))) := h9; rw [upd_nI] at h9; exact h9) z_H10 o_H10 rfl (fun j hj hn => arN13 hj hn rfl rfl rfl rfl rfl rfl rfl rfl rfl rfl rfl rfl rfl)
        have oM13 : hOb (eD E) classes H10 a 10 [.ref (ad 0), .int (nI (g.2 0)), .ref (ad 1), .int (nI (g.2 1)), .int (nI (g.2 2)), .ref (ad 2), .ref (ad 3), .ref (ad 4), .ref (ad 5), .ref (ad 6), .ref (ad 7), .ref (ad 8), .ref (ad 9), .ref (ad 10), .int (nI (g.2 3)), .int (nI (g.2 4)), .int (nI (g.2 5)), .int (nI (g.2 6)), .int (nI (g.2 7)), .ref (ad 11), .int (nI (g.2 8)), .int (nI (g.2 9)), .int (nI (g.2 10)), .ref (ad 12), .int (nI n6), .ref (ad 13)] := M12.1.1
        obtain ⟨x14, e_x14⟩ : ∃ y : Int32, y = nI j1 + 1 := ⟨_, rfl⟩
        refine lv_iinc (v := x14) (lv' := [(4, .int x14), (3, .int r3), (0, .ref a)]) cx.x cx.b d_Mo_keep_33 hl (k := 0) rfl (by rw [e_x14]; rfl) (by decide) rfl (fun ls hl => ?_)
        have e_x14 : x14 = nI (j1 + 1) := e_x14.trans (nI_add j1 1)
        subst e_x14
        refine lv_goto (tgt := 10) cx.x cx.b d_Mo_keep_36 (by decide) ?_
        exact ih _ (j1 + 1) _ _ hlo (by omega) (by omega) M12 (fun i hi => by by_cases e : i = j1; rw [e]; exact updN_s; exact (updN_n e).trans (hq9 i (by omega))) _ (lv_sub hl [0, 1, 2] rfl)
  exact LP _ _ 0 (g.1 13) _ hlo (Nat.lt_succ_self _) (Nat.zero_le _) (Mw.cg M4 rfl rfl rfl rfl rfl rfl rfl rfl rfl rfl rfl rfl rfl rfl rfl rfl rfl rfl rfl rfl rfl rfl rfl rfl rfl rfl) (fun i hi => absurd hi (Nat.not_lt_zero i)) _ (lv_sub hl [0, 1, 2] rfl)

set_option maxHeartbeats 4000000 in
set_option maxRecDepth 100000 in
theorem c_Mo_differ (l : Launch) {E : hE} (hE : EnvOk E) {H : Heap} {a : Nat} {ad : Nat → Nat} {g : MS} (M : Mo E H a ad g) {U C V D : List TU} (hU : Rows g.1 0 U) (hC : Srt C U) (hI : UInv U) (hf0 : g.1 3 0 < 10) (hV : Rows g.1 1 V) (hD : Srt D V) (hJ : UInv V) (hf1 : g.1 3 1 < 10) (hcA : ∀ x ∈ (lns (g.1 3 0) C), ∀ i, x.getD i 0 < 2 ^ 31) (hcB : ∀ x ∈ (lns (g.1 3 1) D), ∀ i, x.getD i 0 < 2 ^ 31) : Ct l E y_Mo_differ b_Mo_differ 6 (some .int) (rmA 5 0 0) [.ref a] H (hQi (fun r H1 => r = nI (fdL 1 (lns (g.1 3 0) C) (lns (g.1 3 1) D)) ∧ ∃ (o9 q9 : Nat → Nat) (n9 : Nat), Mw E H H1 a ad (up (up g.1 12 o9) 13 q9, up g.2 11 n9))) := by
  refine hx_enter hE (by decide) (Nat.le_of_ble_eq_true rfl) ?_
  intro p e s m args below meth c ls cx hnm hl
  have hl : lv_has ls 6 [(0, .ref a)] := hl
  have hlo : hLo (eB E) [] := hLo.nil
  generalize hQ : MQ below _ args s _ _ _ = Q
  have M0 : Mw E H H a ad g := ⟨M, hCh.rf, rfl⟩
  obtain ⟨hA1, hA2⟩ := hC.lns hI (g.1 3 0)
  obtain ⟨hB1, hB2⟩ := hD.lns hJ (g.1 3 1)
  generalize hG : fdL 1 (lns (g.1 3 0) C) (lns (g.1 3 1) D) = G at hQ
  have hG : fdL (0 + 1) ((lns (g.1 3 0) C).drop 0) ((lns (g.1 3 1) D).drop 0) = G := hG
  have LP : ∀ (k : Nat) (locs : List Loc) (n1 nw : Nat) (o8 q8 : Nat → Nat) (H5 : Heap), hLo (eB E) locs → (110 - n1 < k) → (n1 ≤ 110) → (Mw E H H5 a ad (up (up g.1 12 o8) 13 q8, up g.2 11 nw)) → (fdL (n1 + 1) ((lns (g.1 3 0) C).drop n1) ((lns (g.1 3 1) D).drop n1) = G) → ∀ ls, lv_has ls 6 [(1, .int (nI n1)), (0, .ref a)] → W p l e (rmA 5 0 0) s m args below meth c H5 locs 0 0 Q (F0 m 2 ls []) := by
    intro k
    induction k with
    | zero => intro locs n1 nw o8 q8 H5 hlo hk hn1 M5 hj; exact absurd hk (by omega)
    | succ k ih =>
      intro locs n1 nw o8 q8 H5 hlo hk hn1 M5 hj ls hl
      have oM15 : hOb (eD E) classes H5 a 10 [.ref (ad 0), .int (nI (g.2 0)), .ref (ad 1), .int (nI (g.2 1)), .int (nI (g.2 2)), .ref (ad 2), .ref (ad 3), .ref (ad 4), .ref (ad 5), .ref (ad 6), .ref (ad 7), .ref (ad 8), .ref (ad 9), .ref (ad 10), .int (nI (g.2 3)), .int (nI (g.2 4)), .int (nI (g.2 5)), .int (nI (g.2 6)), .int (nI (g.2 7)), .ref (ad 11), .int (nI (g.2 8)), .int (nI (g.2 9)), .int (nI (g.2 10)), .ref (ad 12), .int (nI nw), .ref (ad 13)] := M5.1.1
      refine lv_iload_n cx.x cx.b d_Mo_differ_2 rfl (lv_at hl 0 rfl) ?_
      refine lv_bipush (v := 110) cx.x cx.b d_Mo_differ_3 (by decide) ?_
      refine lv_icmp_ge (tgt := 99) cx.x cx.b d_Mo_differ_5 (by decide) (fun c1 => ?_) (fun c1 => ?_)
      · have c1 : 110 ≤ n1 := (nI_leI (a := 110) (b := n1) (by omega) (by omega)).mp c1
        rw [fd_nn (List.getElem?_eq_none_iff.mpr (by omega)) (List.getElem?_eq_none_iff.mpr (by omega))] at hj
        subst hj
        refine lv_iconst (v := 0) cx.x cx.b d_Mo_differ_99 (by decide) ?_
        rw [← hQ]
        exact hx_reti cx.x cx.b cx.r cx.k rfl hlo (fun _ h => h) (Nat.le_of_ble_eq_true rfl) (Nat.le_of_ble_eq_true rfl) d_Mo_differ_100 (⟨rfl, _, _, _, M5⟩)
      · have c1 : n1 < 110 := Nat.not_le.mp (fun zz => c1 ((nI_leI (a := 110) (b := n1) (by omega) (by omega)).mpr zz))
        refine lv_aload_n cx.x cx.b d_Mo_differ_8 rfl (lv_at hl 1 rfl) ?_
        refine lv_iconst (v := 0) cx.x cx.b d_Mo_differ_9 (by decide) ?_
        refine lv_iload_n cx.x cx.b d_Mo_differ_10 rfl (lv_at hl 0 rfl) ?_
        refine hx_calli (iv_Mo_233_Mo cx (c_Mo_keep l hE M5.1 (b1 := 0) (by omega) hU hC hI hf0 (n1 := n1) (by omega)) oM15 rfl hl.1 rfl (Nat.le_of_ble_eq_true rfl) d_Mo_differ_11 ⟨Nat.le_of_ble_eq_true rfl, Nat.le_of_ble_eq_true rfl⟩ ⟨Nat.le_of_ble_eq_true rfl, Nat.le_of_ble_eq_true rfl⟩) hlo (fun _ h => h) (fun r18 H17 locs hp16 hlo => ?_)
        obtain ⟨o1, q1, n2, qk, pk⟩ := hp16
        have Mk : Mw E H H17 a ad (up (up g.1 12 o1) 13 q1, up g.2 11 n2) := Mw.cg (M5.tr qk) rfl rfl rfl rfl rfl rfl rfl rfl rfl rfl rfl rfl rfl rfl rfl rfl rfl rfl rfl rfl rfl rfl rfl rfl rfl rfl
        have oM19 : hOb (eD E) classes H17 a 10 [.ref (ad 0), .int (nI (g.2 0)), .ref (ad 1), .int (nI (g.2 1)), .int (nI (g.2 2)), .ref (ad 2), .ref (ad 3), .ref (ad 4), .ref (ad 5), .ref (ad 6), .ref (ad 7), .ref (ad 8), .ref (ad 9), .ref (ad 10), .int (nI (g.2 3)), .int (nI (g.2 4)), .int (nI (g.2 5)), .int (nI (g.2 6)), .int (nI (g.2 7)), .ref (ad 11), .int (nI (g.2 8)), .int (nI (g.2 9)), .int (nI (g.2 10)), .ref (ad 12), .int (nI n2), .ref (ad 13)] := Mk.1.1
        have pk : LnO (lns (g.1 3 0) C)[n1]? r18 q1 n2 := pk
        refine lv_istore_n (lv' := [(2, .int r18), (1, .int (nI n1)), (0, .ref a)]) cx.x cx.b d_Mo_differ_14 rfl hl (by decide) rfl (fun ls hl => ?_)
        refine lv_aload_n cx.x cx.b d_Mo_differ_15 rfl (lv_at hl 2 rfl) ?_
        refine gf_Mo_195_Mo cx oM19 rfl d_Mo_differ_16 ?_
        refine lv_istore_n (lv' := [(3, .int (nI n2)), (2, .int r18), (1, .int (nI n1)), (0, .ref a)]) cx.x cx.b d_Mo_differ_19 rfl hl (by decide) rfl (fun ls hl => ?_)
        refine lv_aload_n cx.x cx.b d_Mo_differ_20 rfl (lv_at hl 3 rfl) ?_
        refine lv_iconst (v := 1) cx.x cx.b d_Mo_differ_21 (by decide) ?_
        refine lv_iload_n cx.x cx.b d_Mo_differ_22 rfl (lv_at hl 2 rfl) ?_
        refine hx_calli (iv_Mo_226_Mo cx (c_Mo_lineOf l hE Mk.1 (b1 := 1) (by omega) hV hD hJ hf1 (n1 := n1) (by omega)) oM19 rfl hl.1 rfl (Nat.le_of_ble_eq_true rfl) d_Mo_differ_23 ⟨Nat.le_of_ble_eq_true rfl, Nat.le_of_ble_eq_true rfl⟩ ⟨Nat.le_of_ble_eq_true rfl, Nat.le_of_ble_eq_true rfl⟩) hlo (fun _ h => h) (fun r22 H21 locs hp20 hlo => ?_)
        obtain ⟨o24, n25, q_M23, p_M23⟩ := hp20
        have M23 : Mw E H H21 a ad (up (up g.1 12 o24) 13 q1, up g.2 11 n25) := Mw.cg (Mk.tr q_M23) rfl rfl rfl rfl rfl rfl rfl rfl rfl rfl rfl rfl rfl rfl rfl rfl rfl rfl rfl rfl rfl rfl rfl rfl rfl rfl
        have oM26 : hOb (eD E) classes H21 a 10 [.ref (ad 0), .int (nI (g.2 0)), .ref (ad 1), .int (nI (g.2 1)), .int (nI (g.2 2)), .ref (ad 2), .ref (ad 3), .ref (ad 4), .ref (ad 5), .ref (ad 6), .ref (ad 7), .ref (ad 8), .ref (ad 9), .ref (ad 10), .int (nI (g.2 3)), .int (nI (g.2 4)), .int (nI (g.2 5)), .int (nI (g.2 6)), .int (nI (g.2 7)), .ref (ad 11), .int (nI (g.2 8)), .int (nI (g.2 9)), .int (nI (g.2 10)), .ref (ad 12), .int (nI n25), .ref (ad 13)] := M23.1.1
        have p_M23 : LnO (lns (g.1 3 1) D)[n1]? r22 o24 n25 := p_M23
        rcases hqa : (lns (g.1 3 0) C)[n1]? with _ | A9
        · rw [hqa] at pk
          obtain ⟨pk1, pk2⟩ := pk
          subst pk1
          rcases hqb : (lns (g.1 3 1) D)[n1]? with _ | B9
          · rw [hqb] at p_M23
            obtain ⟨pl1, pl2⟩ := p_M23
            subst pl1
            refine lv_istore (lv' := [(4, .int 0), (3, .int (nI n2)), (2, .int 0), (1, .int (nI n1)), (0, .ref a)]) cx.x cx.b d_Mo_differ_26 hl (by decide) rfl (fun ls hl => ?_)
            refine lv_iload_n cx.x cx.b d_Mo_differ_28 rfl (lv_at hl 2 rfl) ?_
            refine lv_if_ne (tgt := 39) cx.x cx.b d_Mo_differ_29 (by decide) (fun c => absurd (by decide) c) (fun _ => ?_)
            refine lv_iload cx.x cx.b d_Mo_differ_32 (lv_at hl 0 rfl) ?_
            refine lv_if_ne (tgt := 39) cx.x cx.b d_Mo_differ_34 (by decide) (fun c => absurd (by decide) c) (fun _ => ?_)
            refine lv_iconst (v := 0) cx.x cx.b d_Mo_differ_37 (by decide) ?_
            rw [fd_nn hqa hqb] at hj
            subst hj
            rw [← hQ]
            exact hx_reti cx.x cx.b cx.r cx.k rfl hlo (fun _ h => h) (Nat.le_of_ble_eq_true rfl) (Nat.le_of_ble_eq_true rfl) d_Mo_differ_38 (⟨rfl, _, _, _, M23⟩)
          · rw [hqb] at p_M23
            obtain ⟨pl1, pl2⟩ := p_M23
            have hBl := hB2 B9 (List.mem_of_getElem? hqb)
            have hn3 := pl2.1
            subst pl1
            refine lv_istore (lv' := [(4, .int 1), (3, .int (nI n2)), (2, .int 0), (1, .int (nI n1)), (0, .ref a)]) cx.x cx.b d_Mo_differ_26 hl (by decide) rfl (fun ls hl => ?_)
            refine lv_iload_n cx.x cx.b d_Mo_differ_28 rfl (lv_at hl 2 rfl) ?_
            refine lv_if_ne (tgt := 39) cx.x cx.b d_Mo_differ_29 (by decide) (fun c => absurd (by decide) c) (fun _ => ?_)
            refine lv_iload cx.x cx.b d_Mo_differ_32 (lv_at hl 0 rfl) ?_
            refine lv_if_ne (tgt := 39) cx.x cx.b d_Mo_differ_34 (by decide) (fun _ => ?_) (fun c => absurd c (by decide))
            refine lv_iload_n cx.x cx.b d_Mo_differ_39 rfl (lv_at hl 2 rfl) ?_
            refine lv_iload cx.x cx.b d_Mo_differ_40 (lv_at hl 0 rfl) ?_
            refine lv_icmp_ne (tgt := 53) cx.x cx.b d_Mo_differ_42 (by decide) (fun _ => ?_) (fun c => absurd c (by decide))
            refine lv_iload_n cx.x cx.b d_Mo_differ_53 rfl (lv_at hl 3 rfl) ?_
            refine lv_iconst (v := 1) cx.x cx.b d_Mo_differ_54 (by decide) ?_
            refine lv_iadd cx.x cx.b d_Mo_differ_55 ?_
            refine lv_topi (fun x27 e_x27 => ?_)
            have e_x27 : x27 = nI (n1 + 1) := e_x27.trans (nI_add n1 1)
            subst e_x27
            rw [fd_ns hqa hqb] at hj
            subst hj
            rw [← hQ]
            exact hx_reti cx.x cx.b cx.r cx.k rfl hlo (fun _ h => h) (Nat.le_of_ble_eq_true rfl) (Nat.le_of_ble_eq_true rfl) d_Mo_differ_56 (⟨rfl, _, _, _, M23⟩)
        · rw [hqa] at pk
          obtain ⟨pk1, pk2⟩ := pk
          have hAl := hA2 A9 (List.mem_of_getElem? hqa)
          have hn2 := pk2.1
          subst pk1
          rcases hqb : (lns (g.1 3 1) D)[n1]? with _ | B9
          · rw [hqb] at p_M23
            obtain ⟨pl1, pl2⟩ := p_M23
            subst pl1
            refine lv_istore (lv' := [(4, .int 0), (3, .int (nI n2)), (2, .int 1), (1, .int (nI n1)), (0, .ref a)]) cx.x cx.b d_Mo_differ_26 hl (by decide) rfl (fun ls hl => ?_)
            refine lv_iload_n cx.x cx.b d_Mo_differ_28 rfl (lv_at hl 2 rfl) ?_
            refine lv_if_ne (tgt := 39) cx.x cx.b d_Mo_differ_29 (by decide) (fun _ => ?_) (fun c => absurd c (by decide))
            refine lv_iload_n cx.x cx.b d_Mo_differ_39 rfl (lv_at hl 2 rfl) ?_
            refine lv_iload cx.x cx.b d_Mo_differ_40 (lv_at hl 0 rfl) ?_
            refine lv_icmp_ne (tgt := 53) cx.x cx.b d_Mo_differ_42 (by decide) (fun _ => ?_) (fun c => absurd c (by decide))
            refine lv_iload_n cx.x cx.b d_Mo_differ_53 rfl (lv_at hl 3 rfl) ?_
            refine lv_iconst (v := 1) cx.x cx.b d_Mo_differ_54 (by decide) ?_
            refine lv_iadd cx.x cx.b d_Mo_differ_55 ?_
            refine lv_topi (fun x28 e_x28 => ?_)
            have e_x28 : x28 = nI (n1 + 1) := e_x28.trans (nI_add n1 1)
            subst e_x28
            rw [fd_sn hqa hqb] at hj
            subst hj
            rw [← hQ]
            exact hx_reti cx.x cx.b cx.r cx.k rfl hlo (fun _ h => h) (Nat.le_of_ble_eq_true rfl) (Nat.le_of_ble_eq_true rfl) d_Mo_differ_56 (⟨rfl, _, _, _, M23⟩)
          · rw [hqb] at p_M23
            obtain ⟨pl1, pl2⟩ := p_M23
            have hBl := hB2 B9 (List.mem_of_getElem? hqb)
            have hn3 := pl2.1
            subst pl1
            refine lv_istore (lv' := [(4, .int 1), (3, .int (nI n2)), (2, .int 1), (1, .int (nI n1)), (0, .ref a)]) cx.x cx.b d_Mo_differ_26 hl (by decide) rfl (fun ls hl => ?_)
            refine lv_iload_n cx.x cx.b d_Mo_differ_28 rfl (lv_at hl 2 rfl) ?_
            refine lv_if_ne (tgt := 39) cx.x cx.b d_Mo_differ_29 (by decide) (fun _ => ?_) (fun c => absurd c (by decide))
            refine lv_iload_n cx.x cx.b d_Mo_differ_39 rfl (lv_at hl 2 rfl) ?_
            refine lv_iload cx.x cx.b d_Mo_differ_40 (lv_at hl 0 rfl) ?_
            refine lv_icmp_ne (tgt := 53) cx.x cx.b d_Mo_differ_42 (by decide) (fun c => absurd (by decide) c) (fun _ => ?_)
            refine lv_aload_n cx.x cx.b d_Mo_differ_45 rfl (lv_at hl 4 rfl) ?_
            refine gf_Mo_195_Mo cx oM26 rfl d_Mo_differ_46 ?_
            refine lv_iload_n cx.x cx.b d_Mo_differ_49 rfl (lv_at hl 1 rfl) ?_
            refine lv_icmp_eq (tgt := 57) cx.x cx.b d_Mo_differ_50 (by decide) (fun c2 => ?_) (fun c2 => ?_)
            · have c2 : n25 = n2 := (nI_eq (a := n25) (b := n2) (by omega) (by omega)).mp c2
              refine lv_iconst (v := 0) cx.x cx.b d_Mo_differ_57 (by decide) ?_
              refine lv_istore (lv' := [(5, .int 0), (4, .int 1), (3, .int (nI n2)), (2, .int 1), (1, .int (nI n1)), (0, .ref a)]) cx.x cx.b d_Mo_differ_58 hl (by decide) rfl (fun ls hl => ?_)
              have ihO := ih
              have charA : ∀ i, A9.getD i 0 < 2 ^ 31 := hcA _ (List.mem_of_getElem? hqa)
              have charB : ∀ i, B9.getD i 0 < 2 ^ 31 := hcB _ (List.mem_of_getElem? hqb)
              have LC : ∀ (k : Nat) (locs : List Loc) (j1 : Nat), hLo (eB E) locs → (n2 - j1 < k) → (j1 ≤ n2) → (∀ i, i < j1 → A9.getD i 0 = B9.getD i 0) → ∀ ls, lv_has ls 6 [(5, .int (nI j1)), (3, .int (nI n2)), (1, .int (nI n1)), (0, .ref a)] → W p l e (rmA 5 0 0) s m args below meth c H21 locs 0 0 Q (F0 m 60 ls []) := by
                intro k
                induction k with
                | zero => intro locs j1 hlo hk2 hj1 heq; exact absurd hk2 (by omega)
                | succ k ih =>
                  intro locs j1 hlo hk2 hj1 heq ls hl
                  refine lv_iload cx.x cx.b d_Mo_differ_60 (lv_at hl 0 rfl) ?_
                  refine lv_iload_n cx.x cx.b d_Mo_differ_62 rfl (lv_at hl 1 rfl) ?_
                  refine lv_icmp_ge (tgt := 93) cx.x cx.b d_Mo_differ_63 (by decide) (fun c3 => ?_) (fun c3 => ?_)
                  · have c3 : n2 ≤ j1 := (nI_leI (a := n2) (b := j1) (by omega) (by omega)).mp c3
                    have hAB : A9 = B9 := eq_gD (by omega) (fun i hi => heq i (by omega))
                    subst hAB
                    rw [fd_eq hqa hqb] at hj
                    obtain ⟨x30, e_x30⟩ : ∃ y : Int32, y = nI n1 + 1 := ⟨_, rfl⟩
                    refine lv_iinc (v := x30) (lv' := [(1, .int x30), (5, .int (nI j1)), (3, .int (nI n2)), (0, .ref a)]) cx.x cx.b d_Mo_differ_93 hl (k := 2) rfl (by rw [e_x30]; rfl) (by decide) rfl (fun ls hl => ?_)
                    have e_x30 : x30 = nI (n1 + 1) := e_x30.trans (nI_add n1 1)
                    subst e_x30
                    refine lv_goto (tgt := 2) cx.x cx.b d_Mo_differ_96 (by decide) ?_
                    exact ihO _ (n1 + 1) _ _ _ _ hlo (by omega) (by omega) M23 hj _ (lv_sub hl [0, 3] rfl)
                  · have c3 : j1 < n2 := Nat.not_le.mp (fun zz => c3 ((nI_leI (a := n2) (b := j1) (by omega) (by omega)).mpr zz))
                    refine lv_aload_n cx.x cx.b d_Mo_differ_66 rfl (lv_at hl 3 rfl) ?_
                    refine gf_Mo_49_Mo cx oM26 rfl d_Mo_differ_67 ?_
                    refine lv_iload cx.x cx.b d_Mo_differ_70 (lv_at hl 0 rfl) ?_
                    refine hx_iald cx.x cx.b cx.K 0 (M23.1.2.1 13 (by decide)) rfl (show vp_in (nI j1) 300 from vp_in_nI (show j1 < 300 by omega) (by decide)) d_Mo_differ_72 ?_
                    refine lv_topi (fun x31 e_x31 => ?_)
                    have hb_a : j1 < A9.length := by omega
                    have e_x31 : x31 = nI (A9.getD j1 0) := e_x31.trans (congrArg nI ((congrArg q1 (nI_clamp (n := j1) (by omega))).trans (pk2.2 j1 (by omega))))
                    subst e_x31
                    refine lv_aload_n cx.x cx.b d_Mo_differ_73 rfl (lv_at hl 3 rfl) ?_
                    refine gf_Mo_46_Mo cx oM26 rfl d_Mo_differ_74 ?_
                    refine lv_iload cx.x cx.b d_Mo_differ_77 (lv_at hl 0 rfl) ?_
                    refine hx_iald cx.x cx.b cx.K 0 (M23.1.2.1 12 (by decide)) rfl (show vp_in (nI j1) 300 from vp_in_nI (show j1 < 300 by omega) (by decide)) d_Mo_differ_79 ?_
                    refine lv_topi (fun x32 e_x32 => ?_)
                    have hb_b : j1 < B9.length := by omega
                    have e_x32 : x32 = nI (B9.getD j1 0) := e_x32.trans (congrArg nI ((congrArg o24 (nI_clamp (n := j1) (by omega))).trans (pl2.2 j1 (by omega))))
                    subst e_x32
                    refine lv_icmp_eq (tgt := 87) cx.x cx.b d_Mo_differ_80 (by decide) (fun c4 => ?_) (fun c4 => ?_)
                    · have c4 : A9.getD j1 0 = B9.getD j1 0 := (nI_eq (charA j1) (charB j1)).mp c4
                      obtain ⟨x33, e_x33⟩ : ∃ y : Int32, y = nI j1 + 1 := ⟨_, rfl⟩
                      refine lv_iinc (v := x33) (lv' := [(5, .int x33), (3, .int (nI n2)), (1, .int (nI n1)), (0, .ref a)]) cx.x cx.b d_Mo_differ_87 hl (k := 0) rfl (by rw [e_x33]; rfl) (by decide) rfl (fun ls hl => ?_)
                      have e_x33 : x33 = nI (j1 + 1) := e_x33.trans (nI_add j1 1)
                      subst e_x33
                      refine lv_goto (tgt := 60) cx.x cx.b d_Mo_differ_90 (by decide) ?_
                      exact ih _ (j1 + 1) hlo (by omega) (by omega) (fun i hi => by by_cases e : i = j1; rw [e]; exact c4; exact heq i (by omega)) _ (lv_sub hl [0, 1, 2, 3] rfl)
                    · have c4 : A9.getD j1 0 ≠ B9.getD j1 0 := fun z9 => c4 (by rw [z9])
                      rw [fd_ne hqa hqb (fun e9 => c4 (by rw [e9]))] at hj
                      subst hj
                      refine lv_iload_n cx.x cx.b d_Mo_differ_83 rfl (lv_at hl 2 rfl) ?_
                      refine lv_iconst (v := 1) cx.x cx.b d_Mo_differ_84 (by decide) ?_
                      refine lv_iadd cx.x cx.b d_Mo_differ_85 ?_
                      refine lv_topi (fun x34 e_x34 => ?_)
                      have e_x34 : x34 = nI (n1 + 1) := e_x34.trans (nI_add n1 1)
                      subst e_x34
                      rw [← hQ]
                      exact hx_reti cx.x cx.b cx.r cx.k rfl hlo (fun _ h => h) (Nat.le_of_ble_eq_true rfl) (Nat.le_of_ble_eq_true rfl) d_Mo_differ_86 (⟨rfl, _, _, _, M23⟩)
              exact LC _ _ 0 hlo (Nat.lt_succ_self _) (Nat.zero_le _) (fun i hi => absurd hi (Nat.not_lt_zero i)) _ (lv_sub hl [0, 2, 4, 5] rfl)
            · have c2 : n25 ≠ n2 := fun zz => c2 ((nI_eq (a := n25) (b := n2) (by omega) (by omega)).mpr zz)
              rw [fd_ne hqa hqb (fun e9 => c2 (by rw [hn2, hn3, e9]))] at hj
              subst hj
              refine lv_iload_n cx.x cx.b d_Mo_differ_53 rfl (lv_at hl 3 rfl) ?_
              refine lv_iconst (v := 1) cx.x cx.b d_Mo_differ_54 (by decide) ?_
              refine lv_iadd cx.x cx.b d_Mo_differ_55 ?_
              refine lv_topi (fun x29 e_x29 => ?_)
              have e_x29 : x29 = nI (n1 + 1) := e_x29.trans (nI_add n1 1)
              subst e_x29
              rw [← hQ]
              exact hx_reti cx.x cx.b cx.r cx.k rfl hlo (fun _ h => h) (Nat.le_of_ble_eq_true rfl) (Nat.le_of_ble_eq_true rfl) d_Mo_differ_56 (⟨rfl, _, _, _, M23⟩)
  refine lv_iconst (v := 0) cx.x cx.b d_Mo_differ_0 (by decide) ?_
  refine lv_istore_n (lv' := [(1, .int 0), (0, .ref a)]) cx.x cx.b d_Mo_differ_1 rfl hl (by decide) rfl (fun ls hl => ?_)
  exact LP _ _ 0 (g.2 11) (g.1 12) (g.1 13) _ hlo (Nat.lt_succ_self _) (Nat.zero_le _) (Mw.cg M0 rfl rfl rfl rfl rfl rfl rfl rfl rfl rfl rfl rfl rfl rfl rfl rfl rfl rfl rfl rfl rfl rfl rfl rfl rfl rfl) hG _ (lv_sub hl [0, 1] rfl)
