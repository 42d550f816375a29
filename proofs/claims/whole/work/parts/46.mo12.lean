theorem byt_lt (v : Int64) (k : Nat) : byt v k < 256 := Nat.mod_lt _ (by decide)
theorem n18 {n : Int32} (h1 : ¬ n < 1) (h2 : ¬ 8 < n) : ∃ m, 1 ≤ m ∧ m ≤ 8 ∧ n = nI m := by
  rcases pk_ix n (n := 9) (by omega) with z | z | ⟨j, hj, z⟩
  · exact absurd (Int32.lt_trans z (by decide)) h1
  · exact absurd (Int32.lt_of_lt_of_le (by decide) z) h2
  · refine ⟨j, ?_, by omega, z⟩
    rcases Nat.eq_zero_or_pos j with e | e
    · rw [e] at z; rw [z] at h1; exact absurd (by decide) h1
    · exact e
set_option maxHeartbeats 4000000 in
set_option maxRecDepth 100000 in
theorem c_Mo_type (l : Launch) {E : hE} (hE : EnvOk E) {H : Heap} {a : Nat} {ad : Nat → Nat} {g : MS} (M : Mo E H a ad g) {txt : List Nat} (hx : Tx (g.1 0) txt) (hxc : ∀ x ∈ txt, okC x = true) (hxl : txt.length ≤ 480) (hsz : g.2 0 = txt.length) (v : Int64) (n : Int32) : Ct l E y_Mo_type b_Mo_type 6 (some .int) (rmA 0 0 0) [.ref a, .long v, .int n] H (hQi (fun r H1 => r = (tyR v n txt).1 ∧ ∃ (t9 : Nat → Nat) (n9 : Nat), Mw E H H1 a ad (up g.1 0 t9, up g.2 0 n9) ∧ Tx t9 (tyR v n txt).2 ∧ n9 = (tyR v n txt).2.length)) := by
  refine hx_enter hE (by decide) (Nat.le_of_ble_eq_true rfl) ?_
  intro p e s m args below meth c ls cx hnm hl
  have hl : lv_has ls 6 [(0, .ref a), (1, .long v), (3, .int n)] := hl
  have hlo : hLo (eB E) [] := hLo.nil
  generalize hQ : MQ below _ args s _ _ _ = Q
  have M0 : Mw E H H a ad g := ⟨M, hCh.rf, rfl⟩
  refine lv_iload_n cx.x cx.b d_Mo_type_0 rfl (lv_at hl 2 rfl) ?_
  refine lv_iconst (v := 1) cx.x cx.b d_Mo_type_1 (by decide) ?_
  refine lv_icmp_lt (tgt := 23) cx.x cx.b d_Mo_type_2 (by decide) (fun g1 => ?_) (fun g1 => ?_)
  · rw [tyR_no (fun m e h1 _ _ _ => by rw [e] at g1; exact absurd ((nI_ltI (a := m) (b := 1) (by omega) (by omega)).mp g1) (by omega))] at hQ
    refine lv_iconst (v := (-1)) cx.x cx.b d_Mo_type_23 (by decide) ?_
    rw [← hQ]
    exact hx_reti cx.x cx.b cx.r cx.k rfl hlo (fun _ h => h) (Nat.le_of_ble_eq_true rfl) (Nat.le_of_ble_eq_true rfl) d_Mo_type_24 (⟨rfl, g.1 0, g.2 0, Mw.cg M0 rfl rfl rfl rfl rfl rfl rfl rfl rfl rfl rfl rfl rfl rfl rfl rfl rfl rfl rfl rfl rfl rfl rfl rfl rfl rfl, hx, hsz⟩)
  · refine lv_iload_n cx.x cx.b d_Mo_type_5 rfl (lv_at hl 2 rfl) ?_
    refine lv_bipush (v := 8) cx.x cx.b d_Mo_type_6 (by decide) ?_
    refine lv_icmp_gt (tgt := 23) cx.x cx.b d_Mo_type_8 (by decide) (fun g2 => ?_) (fun g2 => ?_)
    · rw [tyR_no (fun m e _ h2 _ _ => by rw [e] at g2; exact absurd ((nI_ltI (a := 8) (b := m) (by omega) (by omega)).mp g2) (by omega))] at hQ
      refine lv_iconst (v := (-1)) cx.x cx.b d_Mo_type_23 (by decide) ?_
      rw [← hQ]
      exact hx_reti cx.x cx.b cx.r cx.k rfl hlo (fun _ h => h) (Nat.le_of_ble_eq_true rfl) (Nat.le_of_ble_eq_true rfl) d_Mo_type_24 (⟨rfl, g.1 0, g.2 0, Mw.cg M0 rfl rfl rfl rfl rfl rfl rfl rfl rfl rfl rfl rfl rfl rfl rfl rfl rfl rfl rfl rfl rfl rfl rfl rfl rfl rfl, hx, hsz⟩)
    · obtain ⟨m9, hm1, hm8, rfl⟩ := n18 g1 g2
      refine lv_aload_n cx.x cx.b d_Mo_type_11 rfl (lv_at hl 0 rfl) ?_
      refine gf_Mo_52_Mo cx M0.1.1 rfl d_Mo_type_12 ?_
      refine lv_iload_n cx.x cx.b d_Mo_type_15 rfl (lv_at hl 2 rfl) ?_
      refine lv_iadd cx.x cx.b d_Mo_type_16 ?_
      refine lv_topi (fun x1 e_x1 => ?_)
      have e_x1 : x1 = nI ((g.2 0) + m9) := e_x1.trans (nI_add (g.2 0) m9)
      subst e_x1
      refine lv_sipush (v := 480) cx.x cx.b d_Mo_type_17 (by decide) ?_
      refine lv_icmp_le (tgt := 25) cx.x cx.b d_Mo_type_20 (by decide) (fun g3 => ?_) (fun g3 => ?_)
      · have g3 : ((g.2 0) + m9) ≤ 480 := (nI_leI (a := ((g.2 0) + m9)) (b := 480) (by omega) (by omega)).mp g3
        refine lv_iconst (v := 0) cx.x cx.b d_Mo_type_25 (by decide) ?_
        refine lv_istore (lv' := [(4, .int 0), (0, .ref a), (1, .long v), (3, .int (nI m9))]) cx.x cx.b d_Mo_type_26 hl (by decide) rfl (fun ls hl => ?_)
        have LP : ∀ (k : Nat) (locs : List Loc) (k1 : Nat), hLo (eB E) locs → (m9 - k1 < k) → (k1 ≤ m9) → (∀ j, j < k1 → okC (byt v j) = true) → ∀ ls, lv_has ls 6 [(4, .int (nI k1)), (0, .ref a), (1, .long v), (3, .int (nI m9))] → W p l e (rmA 0 0 0) s m args below meth c H locs 0 0 Q (F0 m 28 ls []) := by
          intro k
          induction k with
          | zero => intro locs k1 hlo hk hk1 hall; exact absurd hk (by omega)
          | succ k ih =>
            intro locs k1 hlo hk hk1 hall ls hl
            refine lv_iload cx.x cx.b d_Mo_type_28 (lv_at hl 0 rfl) ?_
            refine lv_iload_n cx.x cx.b d_Mo_type_30 rfl (lv_at hl 3 rfl) ?_
            refine lv_icmp_ge (tgt := 77) cx.x cx.b d_Mo_type_31 (by decide) (fun c1 => ?_) (fun c1 => ?_)
            · have c1 : m9 ≤ k1 := (nI_leI (a := m9) (b := k1) (by omega) (by omega)).mp c1
              have hall : ∀ j, j < m9 → okC (byt v j) = true := fun j hj => hall j (by omega)
              rw [tyR_ok hm1 hm8 (by omega) hall] at hQ
              have hbl := bytD_len v m9
              have LQ : ∀ (k : Nat) (locs : List Loc) (q1 : Nat) (x1 : Int32) (X9 : List Nat) (T9 : Nat → Nat) (H5 : Heap), hLo (eB E) locs → (q1 < k) → (q1 ≤ m9) → (x1 = nI q1 - 1) → (Mw E H H5 a ad (up g.1 0 T9, up g.2 0 X9.length)) → (Tx T9 X9) → (X9 ++ bytD v q1 = txt ++ bytD v m9) → ∀ ls, lv_has ls 6 [(4, .int x1), (0, .ref a), (1, .long v)] → W p l e (rmA 0 0 0) s m args below meth c H5 locs 0 0 Q (F0 m 82 ls []) := by
                intro k
                induction k with
                | zero => intro locs q1 x1 X9 T9 H5 hlo hk2 hq1 hx1 M5 hT hX; exact absurd hk2 (by omega)
                | succ k ih =>
                  intro locs q1 x1 X9 T9 H5 hlo hk2 hq1 hx1 M5 hT hX ls hl
                  have oM2 : hOb (eD E) classes H5 a 10 [.ref (ad 0), .int (nI X9.length), .ref (ad 1), .int (nI (g.2 1)), .int (nI (g.2 2)), .ref (ad 2), .ref (ad 3), .ref (ad 4), .ref (ad 5), .ref (ad 6), .ref (ad 7), .ref (ad 8), .ref (ad 9), .ref (ad 10), .int (nI (g.2 3)), .int (nI (g.2 4)), .int (nI (g.2 5)), .int (nI (g.2 6)), .int (nI (g.2 7)), .ref (ad 11), .int (nI (g.2 8)), .int (nI (g.2 9)), .int (nI (g.2 10)), .ref (ad 12), .int (nI (g.2 11)), .ref (ad 13)] := M5.1.1
                  have hXl := congrArg List.length hX
                  rw [List.length_append, List.length_append, bytD_len, hbl] at hXl
                  rcases q1 with _ | d1
                  · rw [show (nI 0 - 1 : Int32) = -1 from rfl] at hx1
                    subst hx1
                    have hX : X9 ++ [] = txt ++ bytD v m9 := hX
                    rw [List.append_nil] at hX
                    subst hX
                    refine lv_iload cx.x cx.b d_Mo_type_82 (lv_at hl 0 rfl) ?_
                    refine lv_if_lt (tgt := 124) cx.x cx.b d_Mo_type_84 (by decide) (fun _ => ?_) (fun c => absurd (by decide) c)
                    refine lv_aload_n cx.x cx.b d_Mo_type_124 rfl (lv_at hl 1 rfl) ?_
                    refine gf_Mo_52_Mo cx oM2 rfl d_Mo_type_125 ?_
                    rw [← hQ]
                    exact hx_reti cx.x cx.b cx.r cx.k rfl hlo (fun _ h => h) (Nat.le_of_ble_eq_true rfl) (Nat.le_of_ble_eq_true rfl) d_Mo_type_128 (⟨congrArg nI (by rw [List.length_append, hbl]), T9, _, M5, hT, rfl⟩)
                  · rw [nI_pred] at hx1
                    subst hx1
                    refine lv_iload cx.x cx.b d_Mo_type_82 (lv_at hl 0 rfl) ?_
                    refine lv_if_lt (tgt := 124) cx.x cx.b d_Mo_type_84 (by decide) (fun c => absurd c (nI_pos (by omega))) (fun _ => ?_)
                    refine lv_aload_n cx.x cx.b d_Mo_type_87 rfl (lv_at hl 1 rfl) ?_
                    refine gf_Mo_7_Mo cx oM2 rfl d_Mo_type_88 ?_
                    refine lv_aload_n cx.x cx.b d_Mo_type_91 rfl (lv_at hl 1 rfl) ?_
                    refine gf_Mo_52_Mo cx oM2 rfl d_Mo_type_92 ?_
                    refine lv_lload_n cx.x cx.b d_Mo_type_95 rfl (lv_at hl 2 rfl) ?_
                    refine lv_bipush (v := 8) cx.x cx.b d_Mo_type_96 (by decide) ?_
                    refine lv_iload cx.x cx.b d_Mo_type_98 (lv_at hl 0 rfl) ?_
                    refine lv_imul cx.x cx.b d_Mo_type_100 ?_
                    refine lv_topi (fun x3 e_x3 => ?_)
                    have e_x3 : x3 = nI (8 * d1) := e_x3.trans (pk_mul 8 d1)
                    subst e_x3
                    refine lv_lshr cx.x cx.b d_Mo_type_101 rfl ?_
                    refine lv_topl (fun x4 e_x4 => ?_)
                    refine lv_ldc2 cx.x cx.b cx.o (cx.ts _ tw_885) d_Mo_type_102 ?_
                    refine lv_land cx.x cx.b d_Mo_type_105 ?_
                    refine lv_topl (fun x5 e_x5 => ?_)
                    refine lv_l2i cx.x cx.b d_Mo_type_106 rfl ?_
                    refine lv_topi (fun x6 e_x6 => ?_)
                    have e_x6 : x6 = nI (byt v d1) := e_x6.trans (by rw [e_x5, e_x4]; exact byt_mod v (by omega))
                    subst e_x6
                    refine hx_iast cx.x cx.b cx.K 0 (M5.1.2.1 0 (by decide)) hlo (M5.1.2.2.2.1 0 (by decide)).1 rfl (show vp_in (nI X9.length) 480 from vp_in_nI (show X9.length < 480 by omega) (by decide)) d_Mo_type_107 (fun H7 locs ha8 z_H7 o_H7 hlo => ?_)
                    have M9 : Mw E H H7 a ad (up g.1 0 (updN T9 X9.length (byt v d1)), up g.2 0 X9.length) := M5.ar (up g.1 0 (updN T9 X9.length (byt v d1)), up g.2 0 X9.length) 0 (by decide) (by have h9 := ha8; rw [show (nI X9.length : Int32).toNatClampNeg = X9.length from nI_clamp (n := X9.length) (by omega)] at h9; have h9 : hAi H7 (ad 0) (eA E 0) (arL 0) (upd (fun i => nI (T9 i)) X9.length (nI (byt v d1))) := h9; rw [upd_nI] at h9; exact h9) z_H7 o_H7 rfl (fun j hj hn => arN0 hj hn rfl rfl rfl rfl rfl rfl rfl rfl rfl rfl rfl rfl rfl)
                    have oM10 : hOb (eD E) classes H7 a 10 [.ref (ad 0), .int (nI X9.length), .ref (ad 1), .int (nI (g.2 1)), .int (nI (g.2 2)), .ref (ad 2), .ref (ad 3), .ref (ad 4), .ref (ad 5), .ref (ad 6), .ref (ad 7), .ref (ad 8), .ref (ad 9), .ref (ad 10), .int (nI (g.2 3)), .int (nI (g.2 4)), .int (nI (g.2 5)), .int (nI (g.2 6)), .int (nI (g.2 7)), .ref (ad 11), .int (nI (g.2 8)), .int (nI (g.2 9)), .int (nI (g.2 10)), .ref (ad 12), .int (nI (g.2 11)), .ref (ad 13)] := M9.1.1
                    refine lv_aload_n cx.x cx.b d_Mo_type_108 rfl (lv_at hl 1 rfl) ?_
                    refine lv_dup cx.x cx.b d_Mo_type_109 rfl ?_
                    refine gf_Mo_52_Mo cx oM10 rfl d_Mo_type_110 ?_
                    refine lv_iconst (v := 1) cx.x cx.b d_Mo_type_113 (by decide) ?_
                    refine lv_iadd cx.x cx.b d_Mo_type_114 ?_
                    refine lv_topi (fun x11 e_x11 => ?_)
                    have e_x11 : x11 = nI (X9.length + 1) := e_x11.trans (nI_add X9.length 1)
                    subst e_x11
                    refine pf_Mo_52_Mo cx oM10 hlo M9.1.2.2.1 (Nat.le_of_ble_eq_true rfl) d_Mo_type_115 (fun H12 locs ho13 z_H12 o_H12 hlo => ?_)
                    have ho13 : hOb (eD E) classes H12 a 10 [.ref (ad 0), .int (nI (X9.length + 1)), .ref (ad 1), .int (nI (g.2 1)), .int (nI (g.2 2)), .ref (ad 2), .ref (ad 3), .ref (ad 4), .ref (ad 5), .ref (ad 6), .ref (ad 7), .ref (ad 8), .ref (ad 9), .ref (ad 10), .int (nI (g.2 3)), .int (nI (g.2 4)), .int (nI (g.2 5)), .int (nI (g.2 6)), .int (nI (g.2 7)), .ref (ad 11), .int (nI (g.2 8)), .int (nI (g.2 9)), .int (nI (g.2 10)), .ref (ad 12), .int (nI (g.2 11)), .ref (ad 13)] := ho13
                    have M14 : Mw E H H12 a ad (up g.1 0 (updN T9 X9.length (byt v d1)), up g.2 0 (X9.length + 1)) := M9.sc (up g.1 0 (updN T9 X9.length (byt v d1)), up g.2 0 (X9.length + 1)) ho13 z_H12 o_H12 rfl
                    have oM15 : hOb (eD E) classes H12 a 10 [.ref (ad 0), .int (nI (X9.length + 1)), .ref (ad 1), .int (nI (g.2 1)), .int (nI (g.2 2)), .ref (ad 2), .ref (ad 3), .ref (ad 4), .ref (ad 5), .ref (ad 6), .ref (ad 7), .ref (ad 8), .ref (ad 9), .ref (ad 10), .int (nI (g.2 3)), .int (nI (g.2 4)), .int (nI (g.2 5)), .int (nI (g.2 6)), .int (nI (g.2 7)), .ref (ad 11), .int (nI (g.2 8)), .int (nI (g.2 9)), .int (nI (g.2 10)), .ref (ad 12), .int (nI (g.2 11)), .ref (ad 13)] := M14.1.1
                    obtain ⟨x16, e_x16⟩ : ∃ y : Int32, y = nI d1 + (-1) := ⟨_, rfl⟩
                    refine lv_iinc (v := x16) (lv' := [(4, .int x16), (0, .ref a), (1, .long v)]) cx.x cx.b d_Mo_type_118 hl (k := 0) rfl (by rw [e_x16]; rfl) (by decide) rfl (fun ls hl => ?_)
                    refine lv_goto (tgt := 82) cx.x cx.b d_Mo_type_121 (by decide) ?_
                    exact ih _ d1 x16 (X9 ++ [byt v d1]) _ _ hlo (by omega) (by omega) (by rw [e_x16, Int32.sub_eq_add_neg]) (by rw [List.length_append, List.length_singleton]; exact M14) (hold_snoc hT) (by rw [List.append_assoc]; exact hX) _ (lv_sub hl [0, 1, 2] rfl)
              refine lv_iload_n cx.x cx.b d_Mo_type_77 rfl (lv_at hl 3 rfl) ?_
              refine lv_iconst (v := 1) cx.x cx.b d_Mo_type_78 (by decide) ?_
              refine lv_isub cx.x cx.b d_Mo_type_79 ?_
              refine lv_topi (fun x17 e_x17 => ?_)
              have e_x17 : x17 = nI m9 - 1 := e_x17.trans (rfl)
              subst e_x17
              refine lv_istore (lv' := [(4, .int (nI m9 - 1)), (0, .ref a), (1, .long v), (3, .int (nI m9))]) cx.x cx.b d_Mo_type_80 hl (by decide) rfl (fun ls hl => ?_)
              exact LQ _ _ m9 _ txt (g.1 0) _ hlo (Nat.lt_succ_self _) (Nat.le_refl _) rfl (Mw.cg M0 rfl rfl rfl rfl rfl rfl rfl rfl rfl rfl rfl rfl rfl rfl hsz.symm rfl rfl rfl rfl rfl rfl rfl rfl rfl rfl rfl) hx rfl _ (lv_sub hl [0, 1, 2] rfl)
            · have c1 : k1 < m9 := Nat.not_le.mp (fun zz => c1 ((nI_leI (a := m9) (b := k1) (by omega) (by omega)).mpr zz))
              have hb9 := byt_lt v k1
              refine lv_lload_n cx.x cx.b d_Mo_type_34 rfl (lv_at hl 2 rfl) ?_
              refine lv_bipush (v := 8) cx.x cx.b d_Mo_type_35 (by decide) ?_
              refine lv_iload cx.x cx.b d_Mo_type_37 (lv_at hl 0 rfl) ?_
              refine lv_imul cx.x cx.b d_Mo_type_39 ?_
              refine lv_topi (fun x18 e_x18 => ?_)
              have e_x18 : x18 = nI (8 * k1) := e_x18.trans (pk_mul 8 k1)
              subst e_x18
              refine lv_lshr cx.x cx.b d_Mo_type_40 rfl ?_
              refine lv_topl (fun x19 e_x19 => ?_)
              refine lv_ldc2 cx.x cx.b cx.o (cx.ts _ tw_885) d_Mo_type_41 ?_
              refine lv_land cx.x cx.b d_Mo_type_44 ?_
              refine lv_topl (fun x20 e_x20 => ?_)
              refine lv_l2i cx.x cx.b d_Mo_type_45 rfl ?_
              refine lv_topi (fun x21 e_x21 => ?_)
              have e_x21 : x21 = nI (byt v k1) := e_x21.trans (by rw [e_x20, e_x19]; exact byt_mod v (by omega))
              subst e_x21
              refine lv_istore (lv' := [(5, .int (nI (byt v k1))), (4, .int (nI k1)), (0, .ref a), (1, .long v), (3, .int (nI m9))]) cx.x cx.b d_Mo_type_46 hl (by decide) rfl (fun ls hl => ?_)
              refine lv_iload cx.x cx.b d_Mo_type_48 (lv_at hl 0 rfl) ?_
              refine lv_bipush (v := 10) cx.x cx.b d_Mo_type_50 (by decide) ?_
              refine lv_icmp_eq (tgt := 71) cx.x cx.b d_Mo_type_52 (by decide) (fun c2 => ?_) (fun c2 => ?_)
              · have c2 : (byt v k1) = 10 := (nI_eq (a := (byt v k1)) (b := 10) (by omega) (by omega)).mp c2
                have ho : okC (byt v k1) = true := decide_eq_true (by omega)
                obtain ⟨x22, e_x22⟩ : ∃ y : Int32, y = nI k1 + 1 := ⟨_, rfl⟩
                refine lv_iinc (v := x22) (lv' := [(4, .int x22), (5, .int (nI (byt v k1))), (0, .ref a), (1, .long v), (3, .int (nI m9))]) cx.x cx.b d_Mo_type_71 hl (k := 1) rfl (by rw [e_x22]; rfl) (by decide) rfl (fun ls hl => ?_)
                have e_x22 : x22 = nI (k1 + 1) := e_x22.trans (nI_add k1 1)
                subst e_x22
                refine lv_goto (tgt := 28) cx.x cx.b d_Mo_type_74 (by decide) ?_
                exact ih _ (k1 + 1) hlo (by omega) (by omega) (fun j hj => by by_cases e : j = k1; rw [e]; exact ho; exact hall j (by omega)) _ (lv_sub hl [0, 2, 3, 4] rfl)
              · have c2 : (byt v k1) ≠ 10 := fun zz => c2 ((nI_eq (a := (byt v k1)) (b := 10) (by omega) (by omega)).mpr zz)
                refine lv_iload cx.x cx.b d_Mo_type_55 (lv_at hl 0 rfl) ?_
                refine lv_bipush (v := 32) cx.x cx.b d_Mo_type_57 (by decide) ?_
                refine lv_icmp_lt (tgt := 69) cx.x cx.b d_Mo_type_59 (by decide) (fun c3 => ?_) (fun c3 => ?_)
                · have c3 : (byt v k1) < 32 := (nI_ltI (a := (byt v k1)) (b := 32) (by omega) (by omega)).mp c3
                  rw [tyR_no (fun m e _ _ _ ha => by have e9 := (nI_eq (a := m9) (b := m) (by omega) (by omega)).mp e; have := ha k1 (by omega); rw [show okC (byt v k1) = false from decide_eq_false (by omega)] at this; cases this)] at hQ
                  refine lv_iconst (v := (-1)) cx.x cx.b d_Mo_type_69 (by decide) ?_
                  rw [← hQ]
                  exact hx_reti cx.x cx.b cx.r cx.k rfl hlo (fun _ h => h) (Nat.le_of_ble_eq_true rfl) (Nat.le_of_ble_eq_true rfl) d_Mo_type_70 (⟨rfl, g.1 0, g.2 0, Mw.cg M0 rfl rfl rfl rfl rfl rfl rfl rfl rfl rfl rfl rfl rfl rfl rfl rfl rfl rfl rfl rfl rfl rfl rfl rfl rfl rfl, hx, hsz⟩)
                · have c3 : 32 ≤ (byt v k1) := Nat.not_lt.mp (fun zz => c3 ((nI_ltI (a := (byt v k1)) (b := 32) (by omega) (by omega)).mpr zz))
                  refine lv_iload cx.x cx.b d_Mo_type_62 (lv_at hl 0 rfl) ?_
                  refine lv_bipush (v := 126) cx.x cx.b d_Mo_type_64 (by decide) ?_
                  refine lv_icmp_le (tgt := 71) cx.x cx.b d_Mo_type_66 (by decide) (fun c4 => ?_) (fun c4 => ?_)
                  · have c4 : (byt v k1) ≤ 126 := (nI_leI (a := (byt v k1)) (b := 126) (by omega) (by omega)).mp c4
                    have ho : okC (byt v k1) = true := decide_eq_true (by omega)
                    obtain ⟨x23, e_x23⟩ : ∃ y : Int32, y = nI k1 + 1 := ⟨_, rfl⟩
                    refine lv_iinc (v := x23) (lv' := [(4, .int x23), (5, .int (nI (byt v k1))), (0, .ref a), (1, .long v), (3, .int (nI m9))]) cx.x cx.b d_Mo_type_71 hl (k := 1) rfl (by rw [e_x23]; rfl) (by decide) rfl (fun ls hl => ?_)
                    have e_x23 : x23 = nI (k1 + 1) := e_x23.trans (nI_add k1 1)
                    subst e_x23
                    refine lv_goto (tgt := 28) cx.x cx.b d_Mo_type_74 (by decide) ?_
                    exact ih _ (k1 + 1) hlo (by omega) (by omega) (fun j hj => by by_cases e : j = k1; rw [e]; exact ho; exact hall j (by omega)) _ (lv_sub hl [0, 2, 3, 4] rfl)
                  · have c4 : 126 < (byt v k1) := Nat.not_le.mp (fun zz => c4 ((nI_leI (a := (byt v k1)) (b := 126) (by omega) (by omega)).mpr zz))
                    rw [tyR_no (fun m e _ _ _ ha => by have e9 := (nI_eq (a := m9) (b := m) (by omega) (by omega)).mp e; have := ha k1 (by omega); rw [show okC (byt v k1) = false from decide_eq_false (by omega)] at this; cases this)] at hQ
                    refine lv_iconst (v := (-1)) cx.x cx.b d_Mo_type_69 (by decide) ?_
                    rw [← hQ]
                    exact hx_reti cx.x cx.b cx.r cx.k rfl hlo (fun _ h => h) (Nat.le_of_ble_eq_true rfl) (Nat.le_of_ble_eq_true rfl) d_Mo_type_70 (⟨rfl, g.1 0, g.2 0, Mw.cg M0 rfl rfl rfl rfl rfl rfl rfl rfl rfl rfl rfl rfl rfl rfl rfl rfl rfl rfl rfl rfl rfl rfl rfl rfl rfl rfl, hx, hsz⟩)
        exact LP _ _ 0 hlo (Nat.lt_succ_self _) (Nat.zero_le _) (fun j hj => absurd hj (Nat.not_lt_zero j)) _ (lv_sub hl [0, 1, 2, 3] rfl)
      · have g3 : 480 < ((g.2 0) + m9) := Nat.not_le.mp (fun zz => g3 ((nI_leI (a := ((g.2 0) + m9)) (b := 480) (by omega) (by omega)).mpr zz))
        rw [tyR_no (fun m e h1 h2 h3 _ => by have := (nI_eq (a := m9) (b := m) (by omega) (by omega)).mp e; omega)] at hQ
        refine lv_iconst (v := (-1)) cx.x cx.b d_Mo_type_23 (by decide) ?_
        rw [← hQ]
        exact hx_reti cx.x cx.b cx.r cx.k rfl hlo (fun _ h => h) (Nat.le_of_ble_eq_true rfl) (Nat.le_of_ble_eq_true rfl) d_Mo_type_24 (⟨rfl, g.1 0, g.2 0, Mw.cg M0 rfl rfl rfl rfl rfl rfl rfl rfl rfl rfl rfl rfl rfl rfl rfl rfl rfl rfl rfl rfl rfl rfl rfl rfl rfl rfl, hx, hsz⟩)
