/-- what words leaves as it was -/
def Wfr (g g2 : MS) : Prop := (g2.1 0 = g.1 0 ∧ g2.1 1 = g.1 1 ∧ g2.1 2 = g.1 2 ∧ g2.1 3 = g.1 3 ∧ g2.1 10 = g.1 10) ∧ (∀ r, r < 216 → SameR g.1 g2.1 r) ∧ (g2.2 0 = g.2 0 ∧ g2.2 1 = g.2 1 ∧ g2.2 2 = g.2 2 ∧ g2.2 3 = g.2 3 ∧ g2.2 4 = g.2 4 ∧ g2.2 7 = g.2 7)
def WdQ (V : Nat × Nat × Nat × DV) (g g2 : MS) (r : Int32) : Prop := Wfr g g2 ∧ r = bI (decide (V.1 = 0)) ∧ (V.1 = 0 → Row g2.1 216 V.2.2.2 ∧ g2.2 9 = g.2 9) ∧ (V.1 ≠ 0 → g2.2 9 = V.1 ∧ g2.2 10 = V.2.1 - g.2 3 + 1)
theorem WdQ.no {V : Nat × Nat × Nat × DV} {g g2 : MS} {r : Int32} (h : Wfr g g2) (hr : r = 0) (h0 : V.1 ≠ 0) (h1 : g2.2 9 = V.1) (h2 : g2.2 10 = V.2.1 - g.2 3 + 1) : WdQ V g g2 r := ⟨h, by rw [decide_eq_false h0]; exact hr, fun z => absurd z h0, fun _ => ⟨h1, h2⟩⟩
set_option maxHeartbeats 4000000 in
set_option maxRecDepth 100000 in
theorem c_Mo_words_f (l : Launch) {E : hE} (hE : EnvOk E) {H : Heap} {a : Nat} {ad : Nat → Nat} {g : MS} (M : Mo E H a ad g) {txt : List Nat} (hx : Tx (g.1 0) txt) (hxc : ∀ x ∈ txt, okC x = true) (hxl : txt.length ≤ 480) (hwe : g.2 6 = g.2 3) (hfe : g.2 3 ≤ g.2 4) (hen : g.2 4 ≤ txt.length) (hfm : g.2 7 = 1 ∨ g.2 7 = 2) (haf : txt.getD (g.2 4) 0 ≠ 36) : Ct l E y_Mo_words b_Mo_words 8 (some .boolean) (rmA 4 0 0) [.ref a, .int (bI false), .int 216] H (hQi (fun r H1 => ∃ g2 : MS, Mw E H H1 a ad g2 ∧ WdQ (rdW false (g.2 7) txt (g.2 4) (wdS (txt.take (g.2 4)) (g.2 3)) (wdE (txt.take (g.2 4)) (wdS (txt.take (g.2 4)) (g.2 3)))) g g2 r)) := by
  refine hx_enter hE (by decide) (Nat.le_of_ble_eq_true rfl) ?_
  intro p e s m args below meth c ls cx hnm hl
  have hl : lv_has ls 8 [(0, .ref a), (1, .int (bI false)), (2, .int 216)] := hl
  have hlo : hLo (eB E) [] := hLo.nil
  generalize hQ : MQ below _ args s _ _ _ = Q
  have M0 : Mw E H H a ad g := ⟨M, hCh.rf, rfl⟩
  have hT := len_take hen
  generalize hV : rdW false (g.2 7) txt (g.2 4) (wdS (txt.take (g.2 4)) (g.2 3)) (wdE (txt.take (g.2 4)) (wdS (txt.take (g.2 4)) (g.2 3))) = V9 at hQ
  unfold rdW at hV
  generalize hR : rmk false txt (g.2 4) (nMarks false + 1) 0 (wdS (txt.take (g.2 4)) (g.2 3)) (wdE (txt.take (g.2 4)) (wdS (txt.take (g.2 4)) (g.2 3))) = R9 at hV
  have LP : ∀ (k : Nat) (locs : List Loc) (n9 mq S1 W1 : Nat) (H5 : Heap), hLo (eB E) locs → (n9 < k) → (mq < 2 ^ nMarks false) → (bc mq + n9 = nMarks false + 1) → (g.2 3 ≤ S1 ∧ S1 ≤ g.2 4) → ((S1 < g.2 4 → wdE (txt.take (g.2 4)) S1 = W1 ∧ txt.getD S1 0 ≠ 32) ∧ W1 ≤ g.2 4) → (Mw E H H5 a ad (g.1, up (up g.2 5 S1) 6 W1)) → (rmk false txt (g.2 4) n9 mq S1 (wdE (txt.take (g.2 4)) S1) = R9) → ∀ ls, lv_has ls 8 [(4, .int (bI (decide (S1 < g.2 4)))), (3, .int (nI mq)), (0, .ref a), (1, .int (bI false)), (2, .int 216)] → W p l e (rmA 4 0 0) s m args below meth c H5 locs 0 0 Q (F0 m 8 ls []) := by
    intro k
    induction k with
    | zero => intro locs n9 mq S1 W1 H5 hlo hk hmq hbc hS hW M5 hR; exact absurd hk (by omega)
    | succ k ih =>
      intro locs n9 mq S1 W1 H5 hlo hk hmq hbc hS hW M5 hR ls hl
      have oM1 : hOb (eD E) classes H5 a 10 [.ref (ad 0), .int (nI (g.2 0)), .ref (ad 1), .int (nI (g.2 1)), .int (nI (g.2 2)), .ref (ad 2), .ref (ad 3), .ref (ad 4), .ref (ad 5), .ref (ad 6), .ref (ad 7), .ref (ad 8), .ref (ad 9), .ref (ad 10), .int (nI (g.2 3)), .int (nI (g.2 4)), .int (nI S1), .int (nI W1), .int (nI (g.2 7)), .ref (ad 11), .int (nI (g.2 8)), .int (nI (g.2 9)), .int (nI (g.2 10)), .ref (ad 12), .int (nI (g.2 11)), .ref (ad 13)] := M5.1.1
      have hb9 := bc_le hmq
      have h64 : mq < 64 := by have : nMarks false ≤ 5 := nMarks_le false; have : 2 ^ nMarks false ≤ 2 ^ 5 := Nat.pow_le_pow_right (by decide) this; omega
      obtain ⟨n8, rfl⟩ : ∃ n8, n9 = n8 + 1 := ⟨n9 - 1, by omega⟩
      unfold rmk at hR
      by_cases c1 : S1 < g.2 4
      · rw [decide_eq_true c1] at hl
        obtain ⟨hW1, hn1⟩ := hW.1 c1
        have hb1 := wdE_le (L := (txt.take (g.2 4))) (i := S1) (by omega)
        rw [hW1] at hR hb1
        have hml := mkH_lt false (wdO txt S1 W1)
        refine lv_iload cx.x cx.b d_Mo_words_8 (lv_at hl 0 rfl) ?_
        refine lv_if_eq (tgt := 61) cx.x cx.b d_Mo_words_10 (by decide) (fun c => absurd c (by decide)) (fun _ => ?_)
        refine lv_iload_n cx.x cx.b d_Mo_words_13 rfl (lv_at hl 3 rfl) ?_
        refine lv_aload_n cx.x cx.b d_Mo_words_14 rfl (lv_at hl 2 rfl) ?_
        refine hx_calll (iv_Mo_129_Mo cx (c_Mo_word l hE M5.1 hx hxc hxl (show S1 ≤ W1 by omega) (show W1 ≤ g.2 4 by omega) c1 hen) oM1 rfl hl.1 rfl (Nat.le_of_ble_eq_true rfl) d_Mo_words_15 ⟨Nat.le_of_ble_eq_true rfl, Nat.le_of_ble_eq_true rfl⟩ ⟨Nat.le_of_ble_eq_true rfl, Nat.le_of_ble_eq_true rfl⟩) hlo (fun _ h => h) (fun r10 H9 locs hp8 hlo => ?_)
        obtain ⟨hp8, hH9⟩ := hp8
        have hH9 := hH9.symm
        subst hH9
        have hp8 : r10 = lN (wrd (wdO txt S1 W1)) := hp8
        subst hp8
        refine hx_calli (iv_Mo_133 cx (c_Mo_mark_f l hE (H := H5) (wdO_okW hxc)) rfl hl.1 rfl (Nat.le_of_ble_eq_true rfl) d_Mo_words_18 ⟨Nat.le_of_ble_eq_true rfl, Nat.le_of_ble_eq_true rfl⟩ ⟨Nat.le_of_ble_eq_true rfl, Nat.le_of_ble_eq_true rfl⟩) hlo (fun _ h => h) (fun r13 H12 locs hp11 hlo => ?_)
        obtain ⟨hp11, hH9⟩ := hp11
        have hH9 := hH9.symm
        subst hH9
        subst hp11
        refine lv_if_le (tgt := 61) cx.x cx.b d_Mo_words_21 (by decide) (fun c2 => ?_) (fun c2 => ?_)
        · have c2 : (mkH false (wdO txt S1 W1)) ≤ 0 := (nI_leI (a := (mkH false (wdO txt S1 W1))) (b := 0) (by omega) (by omega)).mp c2
          rw [if_pos (by omega)] at hR
          subst hR
          have hV : (match kdH false (wdO txt S1 W1) with | none => (3, S1, W1, default) | some k => rdW1 false (g.2 7) txt (g.2 4) mq k W1) = V9 := hV
          refine lv_iload cx.x cx.b d_Mo_words_61 (lv_at hl 0 rfl) ?_
          refine lv_if_eq (tgt := 77) cx.x cx.b d_Mo_words_63 (by decide) (fun c => absurd c (by decide)) (fun _ => ?_)
          refine lv_iload_n cx.x cx.b d_Mo_words_66 rfl (lv_at hl 3 rfl) ?_
          refine lv_aload_n cx.x cx.b d_Mo_words_67 rfl (lv_at hl 2 rfl) ?_
          refine hx_calll (iv_Mo_129_Mo cx (c_Mo_word l hE M5.1 hx hxc hxl (show S1 ≤ W1 by omega) (show W1 ≤ g.2 4 by omega) c1 hen) oM1 rfl hl.1 rfl (Nat.le_of_ble_eq_true rfl) d_Mo_words_68 ⟨Nat.le_of_ble_eq_true rfl, Nat.le_of_ble_eq_true rfl⟩ ⟨Nat.le_of_ble_eq_true rfl, Nat.le_of_ble_eq_true rfl⟩) hlo (fun _ h => h) (fun r37 H36 locs hp35 hlo => ?_)
          obtain ⟨hp35, hH9⟩ := hp35
          have hH9 := hH9.symm
          subst hH9
          have hp35 : r37 = lN (wrd (wdO txt S1 W1)) := hp35
          subst hp35
          refine hx_calli (iv_Mo_140 cx (c_Mo_kindOf_f l hE (H := H5) (wdO_okW hxc)) rfl hl.1 rfl (Nat.le_of_ble_eq_true rfl) d_Mo_words_71 ⟨Nat.le_of_ble_eq_true rfl, Nat.le_of_ble_eq_true rfl⟩ ⟨Nat.le_of_ble_eq_true rfl, Nat.le_of_ble_eq_true rfl⟩) hlo (fun _ h => h) (fun r40 H39 locs hp38 hlo => ?_)
          obtain ⟨hp38, hH9⟩ := hp38
          have hH9 := hH9.symm
          subst hH9
          subst hp38
          refine lv_goto (tgt := 78) cx.x cx.b d_Mo_words_74 (by decide) ?_
          rcases k9 : kdH false (wdO txt S1 W1) with _ | k1
          · rw [k9] at hV
            have hV : (3, S1, W1, default) = V9 := hV
            refine lv_istore (lv' := [(5, .int (-1)), (4, .int (bI true)), (3, .int (nI mq)), (0, .ref a), (1, .int (bI false)), (2, .int 216)]) cx.x cx.b d_Mo_words_78 hl (by decide) rfl (fun ls hl => ?_)
            refine lv_iload cx.x cx.b d_Mo_words_80 (lv_at hl 0 rfl) ?_
            refine lv_if_ge (tgt := 91) cx.x cx.b d_Mo_words_82 (by decide) (fun c => absurd c (by decide)) (fun _ => ?_)
            refine lv_aload_n cx.x cx.b d_Mo_words_85 rfl (lv_at hl 3 rfl) ?_
            refine lv_iconst (v := 3) cx.x cx.b d_Mo_words_86 (by decide) ?_
            refine hx_calli (iv_Mo_137_Mo cx (c_Mo_fail l hE M5.1 (x := 3) (show g.2 3 ≤ g.2 4 by omega) (show g.2 3 ≤ S1 by omega) (show g.2 4 < 1000 by omega) (show S1 < 1000 by omega)) oM1 rfl hl.1 rfl (Nat.le_of_ble_eq_true rfl) d_Mo_words_87 ⟨Nat.le_of_ble_eq_true rfl, Nat.le_of_ble_eq_true rfl⟩ ⟨Nat.le_of_ble_eq_true rfl, Nat.le_of_ble_eq_true rfl⟩) hlo (fun _ h => h) (fun r43 H42 locs hp41 hlo => ?_)
            obtain ⟨rq_M44, q_M44⟩ := hp41
            have rq_M44 : r43 = 0 := rq_M44
            have M44 : Mw E H H42 a ad (g.1, up (up (up (up g.2 5 S1) 6 W1) 9 3) 10 ((if g.2 4 ≤ S1 then g.2 4 else S1) - g.2 3 + 1)) := Mw.cg (M5.tr q_M44) rfl rfl rfl rfl rfl rfl rfl rfl rfl rfl rfl rfl rfl rfl rfl rfl rfl rfl rfl rfl rfl rfl rfl rfl rfl rfl
            have oM45 : hOb (eD E) classes H42 a 10 [.ref (ad 0), .int (nI (g.2 0)), .ref (ad 1), .int (nI (g.2 1)), .int (nI (g.2 2)), .ref (ad 2), .ref (ad 3), .ref (ad 4), .ref (ad 5), .ref (ad 6), .ref (ad 7), .ref (ad 8), .ref (ad 9), .ref (ad 10), .int (nI (g.2 3)), .int (nI (g.2 4)), .int (nI S1), .int (nI W1), .int (nI (g.2 7)), .ref (ad 11), .int (nI (g.2 8)), .int (nI 3), .int (nI ((if g.2 4 ≤ S1 then g.2 4 else S1) - g.2 3 + 1)), .ref (ad 12), .int (nI (g.2 11)), .ref (ad 13)] := M44.1.1
            have i_M44 : (if g.2 4 ≤ S1 then g.2 4 else S1) = S1 := by by_cases z : g.2 4 ≤ S1; rw [if_pos z]; omega; rw [if_neg z]
            rw [i_M44] at M44
            have oM46 : hOb (eD E) classes H42 a 10 [.ref (ad 0), .int (nI (g.2 0)), .ref (ad 1), .int (nI (g.2 1)), .int (nI (g.2 2)), .ref (ad 2), .ref (ad 3), .ref (ad 4), .ref (ad 5), .ref (ad 6), .ref (ad 7), .ref (ad 8), .ref (ad 9), .ref (ad 10), .int (nI (g.2 3)), .int (nI (g.2 4)), .int (nI S1), .int (nI W1), .int (nI (g.2 7)), .ref (ad 11), .int (nI (g.2 8)), .int (nI 3), .int (nI (S1 - g.2 3 + 1)), .ref (ad 12), .int (nI (g.2 11)), .ref (ad 13)] := M44.1.1
            subst rq_M44
            subst hV
            rw [← hQ]
            exact hx_reti cx.x cx.b cx.r cx.k rfl hlo (fun _ h => h) (Nat.le_of_ble_eq_true rfl) (Nat.le_of_ble_eq_true rfl) d_Mo_words_90 (⟨_, M44, WdQ.no ⟨⟨rfl, rfl, rfl, rfl, rfl⟩, fun r hr => ⟨rfl, rfl, rfl, rfl, fun i hi => ⟨rfl, rfl⟩⟩, ⟨rfl, rfl, rfl, rfl, rfl, rfl⟩⟩ rfl (show (3 : Nat) ≠ 0 by decide) rfl rfl⟩)
          · rw [k9] at hV
            have hV : rdW1 false (g.2 7) txt (g.2 4) mq k1 W1 = V9 := hV
            have hkl : k1 < 4 := Nat.lt_of_lt_of_le (kdH_lt k9) (by decide)
            unfold rdW1 at hV
            refine lv_istore (lv' := [(5, .int (nI k1)), (4, .int (bI true)), (3, .int (nI mq)), (0, .ref a), (1, .int (bI false)), (2, .int 216)]) cx.x cx.b d_Mo_words_78 hl (by decide) rfl (fun ls hl => ?_)
            refine lv_iload cx.x cx.b d_Mo_words_80 (lv_at hl 0 rfl) ?_
            refine lv_if_ge (tgt := 91) cx.x cx.b d_Mo_words_82 (by decide) (fun _ => ?_) (fun c => absurd ((nI_leI (a := 0) (b := k1) (by omega) (by omega)).mpr (Nat.zero_le _)) c)
            refine lv_aload_n cx.x cx.b d_Mo_words_91 rfl (lv_at hl 3 rfl) ?_
            refine gf_Mo_34_Mo cx oM1 rfl d_Mo_words_92 ?_
            refine lv_iload_n cx.x cx.b d_Mo_words_95 rfl (lv_at hl 5 rfl) ?_
            refine lv_iload cx.x cx.b d_Mo_words_96 (lv_at hl 0 rfl) ?_
            refine hx_iast cx.x cx.b cx.K 0 (M5.1.2.1 8 (by decide)) hlo (M5.1.2.2.2.1 8 (by decide)).1 rfl (show vp_in (nI 216) 217 from vp_in_nI (show 216 < 217 by omega) (by decide)) d_Mo_words_98 (fun H47 locs ha48 z_H47 o_H47 hlo => ?_)
            have M49 : Mw E H H47 a ad (up g.1 8 (updN (g.1 8) 216 k1), up (up g.2 5 S1) 6 W1) := M5.ar (up g.1 8 (updN (g.1 8) 216 k1), up (up g.2 5 S1) 6 W1) 8 (by decide) (by have h9 := ha48; rw [show (216 : Int32).toNatClampNeg = 216 from nI_clamp (n := 216) (by omega)] at h9; have h9 : hAi H47 (ad 8) (eA E 0) (arL 8) (upd (fun i => nI ((g.1 8) i)) 216 (nI k1)) := h9; rw [upd_nI] at h9; exact h9) z_H47 o_H47 rfl (fun j hj hn => arN8 hj hn rfl rfl rfl rfl rfl rfl rfl rfl rfl rfl rfl rfl rfl)
            have oM50 : hOb (eD E) classes H47 a 10 [.ref (ad 0), .int (nI (g.2 0)), .ref (ad 1), .int (nI (g.2 1)), .int (nI (g.2 2)), .ref (ad 2), .ref (ad 3), .ref (ad 4), .ref (ad 5), .ref (ad 6), .ref (ad 7), .ref (ad 8), .ref (ad 9), .ref (ad 10), .int (nI (g.2 3)), .int (nI (g.2 4)), .int (nI S1), .int (nI W1), .int (nI (g.2 7)), .ref (ad 11), .int (nI (g.2 8)), .int (nI (g.2 9)), .int (nI (g.2 10)), .ref (ad 12), .int (nI (g.2 11)), .ref (ad 13)] := M49.1.1
            refine lv_aload_n cx.x cx.b d_Mo_words_99 rfl (lv_at hl 3 rfl) ?_
            refine gf_Mo_37_Mo cx oM50 rfl d_Mo_words_100 ?_
            refine lv_iload_n cx.x cx.b d_Mo_words_103 rfl (lv_at hl 5 rfl) ?_
            refine lv_iload_n cx.x cx.b d_Mo_words_104 rfl (lv_at hl 2 rfl) ?_
            refine hx_iast cx.x cx.b cx.K 0 (M49.1.2.1 9 (by decide)) hlo (M49.1.2.2.2.1 9 (by decide)).1 rfl (show vp_in (nI 216) 217 from vp_in_nI (show 216 < 217 by omega) (by decide)) d_Mo_words_105 (fun H51 locs ha52 z_H51 o_H51 hlo => ?_)
            have M53 : Mw E H H51 a ad (up (up g.1 8 (updN (g.1 8) 216 k1)) 9 (updN (g.1 9) 216 mq), up (up g.2 5 S1) 6 W1) := M49.ar (up (up g.1 8 (updN (g.1 8) 216 k1)) 9 (updN (g.1 9) 216 mq), up (up g.2 5 S1) 6 W1) 9 (by decide) (by have h9 := ha52; rw [show (216 : Int32).toNatClampNeg = 216 from nI_clamp (n := 216) (by omega)] at h9; have h9 : hAi H51 (ad 9) (eA E 0) (arL 9) (upd (fun i => nI ((g.1 9) i)) 216 (nI mq)) := h9; rw [upd_nI] at h9; exact h9) z_H51 o_H51 rfl (fun j hj hn => arN9 hj hn rfl rfl rfl rfl rfl rfl rfl rfl rfl rfl rfl rfl rfl)
            have oM54 : hOb (eD E) classes H51 a 10 [.ref (ad 0), .int (nI (g.2 0)), .ref (ad 1), .int (nI (g.2 1)), .int (nI (g.2 2)), .ref (ad 2), .ref (ad 3), .ref (ad 4), .ref (ad 5), .ref (ad 6), .ref (ad 7), .ref (ad 8), .ref (ad 9), .ref (ad 10), .int (nI (g.2 3)), .int (nI (g.2 4)), .int (nI S1), .int (nI W1), .int (nI (g.2 7)), .ref (ad 11), .int (nI (g.2 8)), .int (nI (g.2 9)), .int (nI (g.2 10)), .ref (ad 12), .int (nI (g.2 11)), .ref (ad 13)] := M53.1.1
            refine lv_aload_n cx.x cx.b d_Mo_words_106 rfl (lv_at hl 3 rfl) ?_
            refine hx_calli (iv_Mo_125_Mo cx (c_Mo_next l hE M53.1 hx hxc hxl (show W1 ≤ g.2 4 by omega) hen) oM54 rfl hl.1 rfl (Nat.le_of_ble_eq_true rfl) d_Mo_words_107 ⟨Nat.le_of_ble_eq_true rfl, Nat.le_of_ble_eq_true rfl⟩ ⟨Nat.le_of_ble_eq_true rfl, Nat.le_of_ble_eq_true rfl⟩) hlo (fun _ h => h) (fun r57 H56 locs hp55 hlo => ?_)
            obtain ⟨rq_M58, q_M58⟩ := hp55
            have rq_M58 : r57 = bI (decide (wdS (txt.take (g.2 4)) W1 < g.2 4)) := rq_M58
            have M58 : Mw E H H56 a ad (up (up g.1 8 (updN (g.1 8) 216 k1)) 9 (updN (g.1 9) 216 mq), up (up g.2 5 (wdS (txt.take (g.2 4)) W1)) 6 (if wdS (txt.take (g.2 4)) W1 < g.2 4 then wdE (txt.take (g.2 4)) (wdS (txt.take (g.2 4)) W1) else W1)) := Mw.cg (M53.tr q_M58) rfl rfl rfl rfl rfl rfl rfl rfl rfl rfl rfl rfl rfl rfl rfl rfl rfl rfl rfl rfl rfl rfl rfl rfl rfl rfl
            have oM59 : hOb (eD E) classes H56 a 10 [.ref (ad 0), .int (nI (g.2 0)), .ref (ad 1), .int (nI (g.2 1)), .int (nI (g.2 2)), .ref (ad 2), .ref (ad 3), .ref (ad 4), .ref (ad 5), .ref (ad 6), .ref (ad 7), .ref (ad 8), .ref (ad 9), .ref (ad 10), .int (nI (g.2 3)), .int (nI (g.2 4)), .int (nI (wdS (txt.take (g.2 4)) W1)), .int (nI (if wdS (txt.take (g.2 4)) W1 < g.2 4 then wdE (txt.take (g.2 4)) (wdS (txt.take (g.2 4)) W1) else W1)), .int (nI (g.2 7)), .ref (ad 11), .int (nI (g.2 8)), .int (nI (g.2 9)), .int (nI (g.2 10)), .ref (ad 12), .int (nI (g.2 11)), .ref (ad 13)] := M58.1.1
            have a_S2 := wdS_le (L := (txt.take (g.2 4))) (i := W1) (by omega)
            have n_S2 := wdS_not (i := W1) hen (g.2 4 - W1) rfl (by omega)
            have b_S2 := wdE_le (L := (txt.take (g.2 4))) (i := wdS (txt.take (g.2 4)) W1) (by omega)
            generalize h_S2 : wdS (txt.take (g.2 4)) W1 = S2 at rq_M58 M58 a_S2 n_S2 b_S2 hV
            by_cases c_S2 : S2 < g.2 4
            · rw [if_pos c_S2] at M58
              rw [decide_eq_true c_S2] at rq_M58
              subst rq_M58
              have oM60 : hOb (eD E) classes H56 a 10 [.ref (ad 0), .int (nI (g.2 0)), .ref (ad 1), .int (nI (g.2 1)), .int (nI (g.2 2)), .ref (ad 2), .ref (ad 3), .ref (ad 4), .ref (ad 5), .ref (ad 6), .ref (ad 7), .ref (ad 8), .ref (ad 9), .ref (ad 10), .int (nI (g.2 3)), .int (nI (g.2 4)), .int (nI S2), .int (nI (wdE (txt.take (g.2 4)) S2)), .int (nI (g.2 7)), .ref (ad 11), .int (nI (g.2 8)), .int (nI (g.2 9)), .int (nI (g.2 10)), .ref (ad 12), .int (nI (g.2 11)), .ref (ad 13)] := M58.1.1
              refine lv_if_eq (tgt := 124) cx.x cx.b d_Mo_words_110 (by decide) (fun c => absurd c (by decide)) (fun _ => ?_)
              generalize h_W2 : wdE (txt.take (g.2 4)) S2 = W2 at hV b_S2 M58
              have oM68 : hOb (eD E) classes H56 a 10 [.ref (ad 0), .int (nI (g.2 0)), .ref (ad 1), .int (nI (g.2 1)), .int (nI (g.2 2)), .ref (ad 2), .ref (ad 3), .ref (ad 4), .ref (ad 5), .ref (ad 6), .ref (ad 7), .ref (ad 8), .ref (ad 9), .ref (ad 10), .int (nI (g.2 3)), .int (nI (g.2 4)), .int (nI S2), .int (nI W2), .int (nI (g.2 7)), .ref (ad 11), .int (nI (g.2 8)), .int (nI (g.2 9)), .int (nI (g.2 10)), .ref (ad 12), .int (nI (g.2 11)), .ref (ad 13)] := M58.1.1
              have be2 := bef2 hen (by omega) hW1 h_S2 c_S2
              have af2 := aft2 hen (by omega) h_W2 haf
              rw [tkN_eq hfm (by omega) (by omega) be2 af2] at hV
              refine lv_aload_n cx.x cx.b d_Mo_words_113 rfl (lv_at hl 3 rfl) ?_
              refine hx_calli (iv_Mo_143_Mo cx (c_Mo_take l hE M58.1 hx hxc hxl (show S2 ≤ W2 by omega) (show W2 ≤ txt.length by omega) hfm) oM68 rfl hl.1 rfl (Nat.le_of_ble_eq_true rfl) d_Mo_words_114 ⟨Nat.le_of_ble_eq_true rfl, Nat.le_of_ble_eq_true rfl⟩ ⟨Nat.le_of_ble_eq_true rfl, Nat.le_of_ble_eq_true rfl⟩) hlo (fun _ h => h) (fun r71 H70 locs hp69 hlo => ?_)
              obtain ⟨P_a, n_a, q_M72, r_a, z_a, w_a⟩ := hp69
              have r_a : r71 = bI (tkL (g.2 7) (wdO txt S2 W2)).isSome := r_a
              have w_a : ∀ L, tkL (g.2 7) (wdO txt S2 W2) = some L → n_a = L.length ∧ ∀ i, i < L.length → P_a i = L.getD i 0 := w_a
              have M72 : Mw E H H70 a ad (up (up (up g.1 8 (updN (g.1 8) 216 k1)) 9 (updN (g.1 9) 216 mq)) 11 P_a, up (up (up g.2 5 S2) 6 W2) 8 n_a) := Mw.cg (M58.tr q_M72) rfl rfl rfl rfl rfl rfl rfl rfl rfl rfl rfl rfl rfl rfl rfl rfl rfl rfl rfl rfl rfl rfl rfl rfl rfl rfl
              subst r_a
              rcases k_a : tkL (g.2 7) (wdO txt S2 W2) with _ | L_a
              · rw [show (none : Option (List Nat)).isSome = false from rfl]
                have oM73 : hOb (eD E) classes H70 a 10 [.ref (ad 0), .int (nI (g.2 0)), .ref (ad 1), .int (nI (g.2 1)), .int (nI (g.2 2)), .ref (ad 2), .ref (ad 3), .ref (ad 4), .ref (ad 5), .ref (ad 6), .ref (ad 7), .ref (ad 8), .ref (ad 9), .ref (ad 10), .int (nI (g.2 3)), .int (nI (g.2 4)), .int (nI S2), .int (nI W2), .int (nI (g.2 7)), .ref (ad 11), .int (nI n_a), .int (nI (g.2 9)), .int (nI (g.2 10)), .ref (ad 12), .int (nI (g.2 11)), .ref (ad 13)] := M72.1.1
                rw [tkN_none k_a] at hV
                rw [if_neg (by decide)] at hV
                refine lv_if_eq (tgt := 124) cx.x cx.b d_Mo_words_117 (by decide) (fun _ => ?_) (fun c => absurd (by decide) c)
                refine lv_iconst (v := 0) cx.x cx.b d_Mo_words_124 (by decide) ?_
                refine lv_istore (lv' := [(6, .int 0), (5, .int (nI k1)), (4, .int (bI true)), (3, .int (nI mq)), (0, .ref a), (1, .int (bI false)), (2, .int 216)]) cx.x cx.b d_Mo_words_125 hl (by decide) rfl (fun ls hl => ?_)
                refine lv_iload cx.x cx.b d_Mo_words_127 (lv_at hl 0 rfl) ?_
                refine lv_if_eq (tgt := 171) cx.x cx.b d_Mo_words_129 (by decide) (fun _ => ?_) (fun c => absurd (by decide) c)
                refine lv_aload_n cx.x cx.b d_Mo_words_171 rfl (lv_at hl 4 rfl) ?_
                refine lv_iconst (v := 4) cx.x cx.b d_Mo_words_172 (by decide) ?_
                refine hx_calli (iv_Mo_137_Mo cx (c_Mo_fail l hE M72.1 (x := 4) (show g.2 3 ≤ g.2 4 by omega) (show g.2 3 ≤ S2 by omega) (show g.2 4 < 1000 by omega) (show S2 < 1000 by omega)) oM73 rfl hl.1 rfl (Nat.le_of_ble_eq_true rfl) d_Mo_words_173 ⟨Nat.le_of_ble_eq_true rfl, Nat.le_of_ble_eq_true rfl⟩ ⟨Nat.le_of_ble_eq_true rfl, Nat.le_of_ble_eq_true rfl⟩) hlo (fun _ h => h) (fun r76 H75 locs hp74 hlo => ?_)
                obtain ⟨rq_M77, q_M77⟩ := hp74
                have rq_M77 : r76 = 0 := rq_M77
                have M77 : Mw E H H75 a ad (up (up (up g.1 8 (updN (g.1 8) 216 k1)) 9 (updN (g.1 9) 216 mq)) 11 P_a, up (up (up (up (up g.2 5 S2) 6 W2) 8 n_a) 9 4) 10 ((if g.2 4 ≤ S2 then g.2 4 else S2) - g.2 3 + 1)) := Mw.cg (M72.tr q_M77) rfl rfl rfl rfl rfl rfl rfl rfl rfl rfl rfl rfl rfl rfl rfl rfl rfl rfl rfl rfl rfl rfl rfl rfl rfl rfl
                have oM78 : hOb (eD E) classes H75 a 10 [.ref (ad 0), .int (nI (g.2 0)), .ref (ad 1), .int (nI (g.2 1)), .int (nI (g.2 2)), .ref (ad 2), .ref (ad 3), .ref (ad 4), .ref (ad 5), .ref (ad 6), .ref (ad 7), .ref (ad 8), .ref (ad 9), .ref (ad 10), .int (nI (g.2 3)), .int (nI (g.2 4)), .int (nI S2), .int (nI W2), .int (nI (g.2 7)), .ref (ad 11), .int (nI n_a), .int (nI 4), .int (nI ((if g.2 4 ≤ S2 then g.2 4 else S2) - g.2 3 + 1)), .ref (ad 12), .int (nI (g.2 11)), .ref (ad 13)] := M77.1.1
                have i_M77 : (if g.2 4 ≤ S2 then g.2 4 else S2) = S2 := by by_cases z : g.2 4 ≤ S2; rw [if_pos z]; omega; rw [if_neg z]
                rw [i_M77] at M77
                have oM79 : hOb (eD E) classes H75 a 10 [.ref (ad 0), .int (nI (g.2 0)), .ref (ad 1), .int (nI (g.2 1)), .int (nI (g.2 2)), .ref (ad 2), .ref (ad 3), .ref (ad 4), .ref (ad 5), .ref (ad 6), .ref (ad 7), .ref (ad 8), .ref (ad 9), .ref (ad 10), .int (nI (g.2 3)), .int (nI (g.2 4)), .int (nI S2), .int (nI W2), .int (nI (g.2 7)), .ref (ad 11), .int (nI n_a), .int (nI 4), .int (nI (S2 - g.2 3 + 1)), .ref (ad 12), .int (nI (g.2 11)), .ref (ad 13)] := M77.1.1
                subst rq_M77
                subst hV
                rw [← hQ]
                exact hx_reti cx.x cx.b cx.r cx.k rfl hlo (fun _ h => h) (Nat.le_of_ble_eq_true rfl) (Nat.le_of_ble_eq_true rfl) d_Mo_words_176 (⟨_, M77, WdQ.no ⟨⟨rfl, rfl, rfl, rfl, rfl⟩, fun r hr => ⟨rfl, rfl, (show (updN (g.1 8) 216 k1) r = g.1 8 r from updN_n (by omega)), (show (updN (g.1 9) 216 mq) r = g.1 9 r from updN_n (by omega)), fun i hi => ⟨rfl, rfl⟩⟩, ⟨rfl, rfl, rfl, rfl, rfl, rfl⟩⟩ rfl (show (4 : Nat) ≠ 0 by decide) rfl rfl⟩)
              · rw [show (some L_a).isSome = true from rfl]
                obtain ⟨e_a, p_a⟩ := w_a L_a k_a
                subst e_a
                have oM80 : hOb (eD E) classes H70 a 10 [.ref (ad 0), .int (nI (g.2 0)), .ref (ad 1), .int (nI (g.2 1)), .int (nI (g.2 2)), .ref (ad 2), .ref (ad 3), .ref (ad 4), .ref (ad 5), .ref (ad 6), .ref (ad 7), .ref (ad 8), .ref (ad 9), .ref (ad 10), .int (nI (g.2 3)), .int (nI (g.2 4)), .int (nI S2), .int (nI W2), .int (nI (g.2 7)), .ref (ad 11), .int (nI L_a.length), .int (nI (g.2 9)), .int (nI (g.2 10)), .ref (ad 12), .int (nI (g.2 11)), .ref (ad 13)] := M72.1.1
                obtain ⟨l_a, o_a⟩ := tkL_ok (fun c hc => (wdO_okW hxc c hc).2) k_a
                refine lv_if_eq (tgt := 124) cx.x cx.b d_Mo_words_117 (by decide) (fun c => absurd c (by decide)) (fun _ => ?_)
                refine lv_iconst (v := 1) cx.x cx.b d_Mo_words_120 (by decide) ?_
                refine lv_goto (tgt := 125) cx.x cx.b d_Mo_words_121 (by decide) ?_
                refine lv_istore (lv' := [(6, .int 1), (5, .int (nI k1)), (4, .int (bI true)), (3, .int (nI mq)), (0, .ref a), (1, .int (bI false)), (2, .int 216)]) cx.x cx.b d_Mo_words_125 hl (by decide) rfl (fun ls hl => ?_)
                refine lv_iload cx.x cx.b d_Mo_words_127 (lv_at hl 0 rfl) ?_
                refine lv_if_eq (tgt := 171) cx.x cx.b d_Mo_words_129 (by decide) (fun c => absurd c (by decide)) (fun _ => ?_)
                rw [(tk_cnR hfm (by omega) (by omega) be2 af2).1 _ k_a] at hV
                have NM : ∀ (locs : List Loc) , hLo (eB E) locs → (tkN false k1 (g.2 7) (wdO txt S2 W2) = true) → ∀ ls, lv_has ls 8 [(5, .int (nI k1)), (3, .int (nI mq)), (0, .ref a), (1, .int (bI false)), (2, .int 216)] → W p l e (rmA 4 0 0) s m args below meth c H70 locs 0 0 Q (F0 m 177 ls []) := by
                  intro locs  hlo htk ls hl
                  rw [if_pos htk] at hV
                  unfold rdW2 at hV
                  rw [if_neg (by decide)] at hV
                  refine lv_aload_n cx.x cx.b d_Mo_words_177 rfl (lv_at hl 2 rfl) ?_
                  refine gf_Mo_28_Mo cx oM80 rfl d_Mo_words_178 ?_
                  refine lv_iload_n cx.x cx.b d_Mo_words_181 rfl (lv_at hl 4 rfl) ?_
                  refine lv_aload_n cx.x cx.b d_Mo_words_182 rfl (lv_at hl 2 rfl) ?_
                  refine gf_Mo_95_Mo cx oM80 rfl d_Mo_words_183 ?_
                  refine hx_iast cx.x cx.b cx.K 0 (M72.1.2.1 6 (by decide)) hlo (M72.1.2.2.2.1 6 (by decide)).1 rfl (show vp_in (nI 216) 217 from vp_in_nI (show 216 < 217 by omega) (by decide)) d_Mo_words_186 (fun H81 locs ha82 z_H81 o_H81 hlo => ?_)
                  have M83 : Mw E H H81 a ad (up (up (up (up g.1 6 (updN (g.1 6) 216 L_a.length)) 8 (updN (g.1 8) 216 k1)) 9 (updN (g.1 9) 216 mq)) 11 P_a, up (up (up g.2 5 S2) 6 W2) 8 L_a.length) := M72.ar (up (up (up (up g.1 6 (updN (g.1 6) 216 L_a.length)) 8 (updN (g.1 8) 216 k1)) 9 (updN (g.1 9) 216 mq)) 11 P_a, up (up (up g.2 5 S2) 6 W2) 8 L_a.length) 6 (by decide) (by have h9 := ha82; rw [show (216 : Int32).toNatClampNeg = 216 from nI_clamp (n := 216) (by omega)] at h9; have h9 : hAi H81 (ad 6) (eA E 0) (arL 6) (upd (fun i => nI ((g.1 6) i)) 216 (nI L_a.length)) := h9; rw [upd_nI] at h9; exact h9) z_H81 o_H81 rfl (fun j hj hn => arN6 hj hn rfl rfl rfl rfl rfl rfl rfl rfl rfl rfl rfl rfl rfl)
                  have oM84 : hOb (eD E) classes H81 a 10 [.ref (ad 0), .int (nI (g.2 0)), .ref (ad 1), .int (nI (g.2 1)), .int (nI (g.2 2)), .ref (ad 2), .ref (ad 3), .ref (ad 4), .ref (ad 5), .ref (ad 6), .ref (ad 7), .ref (ad 8), .ref (ad 9), .ref (ad 10), .int (nI (g.2 3)), .int (nI (g.2 4)), .int (nI S2), .int (nI W2), .int (nI (g.2 7)), .ref (ad 11), .int (nI L_a.length), .int (nI (g.2 9)), .int (nI (g.2 10)), .ref (ad 12), .int (nI (g.2 11)), .ref (ad 13)] := M83.1.1
                  refine lv_iconst (v := 0) cx.x cx.b d_Mo_words_187 (by decide) ?_
                  refine lv_istore (lv' := [(7, .int 0), (5, .int (nI k1)), (3, .int (nI mq)), (0, .ref a), (1, .int (bI false)), (2, .int 216)]) cx.x cx.b d_Mo_words_188 hl (by decide) rfl (fun ls hl => ?_)
                  have CP_a : ∀ (k : Nat) (locs : List Loc) (j1 : Nat) (N9 : Nat → Nat) (H6 : Heap), hLo (eB E) locs → (L_a.length - j1 < k) → (j1 ≤ L_a.length) → (Mw E H H6 a ad (up (up (up (up (up g.1 4 N9) 6 (updN (g.1 6) 216 L_a.length)) 8 (updN (g.1 8) 216 k1)) 9 (updN (g.1 9) 216 mq)) 11 P_a, up (up (up g.2 5 S2) 6 W2) 8 L_a.length)) → (∀ i, i < 4320 → N9 i = g.1 4 i) → (∀ i, i < j1 → N9 (20 * 216 + i) = L_a.getD i 0) → ∀ ls, lv_has ls 8 [(7, .int (nI j1)), (5, .int (nI k1)), (0, .ref a), (1, .int (bI false)), (2, .int 216)] → W p l e (rmA 4 0 0) s m args below meth c H6 locs 0 0 Q (F0 m 190 ls []) := by
                    intro k
                    induction k with
                    | zero => intro locs j1 N9 H6 hlo hk hj1 M6 hN9 hC_a; exact absurd hk (by omega)
                    | succ k ih =>
                      intro locs j1 N9 H6 hlo hk hj1 M6 hN9 hC_a ls hl
                      have oM85 : hOb (eD E) classes H6 a 10 [.ref (ad 0), .int (nI (g.2 0)), .ref (ad 1), .int (nI (g.2 1)), .int (nI (g.2 2)), .ref (ad 2), .ref (ad 3), .ref (ad 4), .ref (ad 5), .ref (ad 6), .ref (ad 7), .ref (ad 8), .ref (ad 9), .ref (ad 10), .int (nI (g.2 3)), .int (nI (g.2 4)), .int (nI S2), .int (nI W2), .int (nI (g.2 7)), .ref (ad 11), .int (nI L_a.length), .int (nI (g.2 9)), .int (nI (g.2 10)), .ref (ad 12), .int (nI (g.2 11)), .ref (ad 13)] := M6.1.1
                      refine lv_iload cx.x cx.b d_Mo_words_190 (lv_at hl 0 rfl) ?_
                      refine lv_aload_n cx.x cx.b d_Mo_words_192 rfl (lv_at hl 2 rfl) ?_
                      refine gf_Mo_95_Mo cx oM85 rfl d_Mo_words_193 ?_
                      refine lv_icmp_ge (tgt := 224) cx.x cx.b d_Mo_words_196 (by decide) (fun c8 => ?_) (fun c8 => ?_)
                      · have c8 : L_a.length ≤ j1 := (nI_leI (a := L_a.length) (b := j1) (by omega) (by omega)).mp c8
                        have hC_a : ∀ i, i < L_a.length → N9 (20 * 216 + i) = L_a.getD i 0 := fun i hi => hC_a i (by omega)
                        refine lv_aload_n cx.x cx.b d_Mo_words_224 rfl (lv_at hl 2 rfl) ?_
                        refine gf_Mo_31_Mo cx oM85 rfl d_Mo_words_225 ?_
                        refine lv_iload_n cx.x cx.b d_Mo_words_228 rfl (lv_at hl 4 rfl) ?_
                        refine lv_iconst (v := 0) cx.x cx.b d_Mo_words_229 (by decide) ?_
                        refine hx_iast cx.x cx.b cx.K 0 (M6.1.2.1 7 (by decide)) hlo (M6.1.2.2.2.1 7 (by decide)).1 rfl (show vp_in (nI 216) 217 from vp_in_nI (show 216 < 217 by omega) (by decide)) d_Mo_words_230 (fun H86 locs ha87 z_H86 o_H86 hlo => ?_)
                        have M88 : Mw E H H86 a ad (up (up (up (up (up (up g.1 4 N9) 6 (updN (g.1 6) 216 L_a.length)) 7 (updN (g.1 7) 216 0)) 8 (updN (g.1 8) 216 k1)) 9 (updN (g.1 9) 216 mq)) 11 P_a, up (up (up g.2 5 S2) 6 W2) 8 L_a.length) := M6.ar (up (up (up (up (up (up g.1 4 N9) 6 (updN (g.1 6) 216 L_a.length)) 7 (updN (g.1 7) 216 0)) 8 (updN (g.1 8) 216 k1)) 9 (updN (g.1 9) 216 mq)) 11 P_a, up (up (up g.2 5 S2) 6 W2) 8 L_a.length) 7 (by decide) (by have h9 := ha87; rw [show (216 : Int32).toNatClampNeg = 216 from nI_clamp (n := 216) (by omega)] at h9; have h9 : hAi H86 (ad 7) (eA E 0) (arL 7) (upd (fun i => nI ((g.1 7) i)) 216 (nI 0)) := h9; rw [upd_nI] at h9; exact h9) z_H86 o_H86 rfl (fun j hj hn => arN7 hj hn rfl rfl rfl rfl rfl rfl rfl rfl rfl rfl rfl rfl rfl)
                        have oM89 : hOb (eD E) classes H86 a 10 [.ref (ad 0), .int (nI (g.2 0)), .ref (ad 1), .int (nI (g.2 1)), .int (nI (g.2 2)), .ref (ad 2), .ref (ad 3), .ref (ad 4), .ref (ad 5), .ref (ad 6), .ref (ad 7), .ref (ad 8), .ref (ad 9), .ref (ad 10), .int (nI (g.2 3)), .int (nI (g.2 4)), .int (nI S2), .int (nI W2), .int (nI (g.2 7)), .ref (ad 11), .int (nI L_a.length), .int (nI (g.2 9)), .int (nI (g.2 10)), .ref (ad 12), .int (nI (g.2 11)), .ref (ad 13)] := M88.1.1
                        refine lv_iload_n cx.x cx.b d_Mo_words_231 rfl (lv_at hl 3 rfl) ?_
                        refine lv_if_eq (tgt := 342) cx.x cx.b d_Mo_words_232 (by decide) (fun _ => ?_) (fun c => absurd (by decide) c)
                        refine lv_aload_n cx.x cx.b d_Mo_words_342 rfl (lv_at hl 2 rfl) ?_
                        unfold rdW3 at hV
                        refine hx_calli (iv_Mo_125_Mo cx (c_Mo_next l hE M88.1 hx hxc hxl (show W2 ≤ g.2 4 by omega) hen) oM89 rfl hl.1 rfl (Nat.le_of_ble_eq_true rfl) d_Mo_words_343 ⟨Nat.le_of_ble_eq_true rfl, Nat.le_of_ble_eq_true rfl⟩ ⟨Nat.le_of_ble_eq_true rfl, Nat.le_of_ble_eq_true rfl⟩) hlo (fun _ h => h) (fun r92 H91 locs hp90 hlo => ?_)
                        obtain ⟨rq_M93, q_M93⟩ := hp90
                        have rq_M93 : r92 = bI (decide (wdS (txt.take (g.2 4)) W2 < g.2 4)) := rq_M93
                        have M93 : Mw E H H91 a ad (up (up (up (up (up (up g.1 4 N9) 6 (updN (g.1 6) 216 L_a.length)) 7 (updN (g.1 7) 216 0)) 8 (updN (g.1 8) 216 k1)) 9 (updN (g.1 9) 216 mq)) 11 P_a, up (up (up g.2 5 (wdS (txt.take (g.2 4)) W2)) 6 (if wdS (txt.take (g.2 4)) W2 < g.2 4 then wdE (txt.take (g.2 4)) (wdS (txt.take (g.2 4)) W2) else W2)) 8 L_a.length) := Mw.cg (M88.tr q_M93) rfl rfl rfl rfl rfl rfl rfl rfl rfl rfl rfl rfl rfl rfl rfl rfl rfl rfl rfl rfl rfl rfl rfl rfl rfl rfl
                        have oM94 : hOb (eD E) classes H91 a 10 [.ref (ad 0), .int (nI (g.2 0)), .ref (ad 1), .int (nI (g.2 1)), .int (nI (g.2 2)), .ref (ad 2), .ref (ad 3), .ref (ad 4), .ref (ad 5), .ref (ad 6), .ref (ad 7), .ref (ad 8), .ref (ad 9), .ref (ad 10), .int (nI (g.2 3)), .int (nI (g.2 4)), .int (nI (wdS (txt.take (g.2 4)) W2)), .int (nI (if wdS (txt.take (g.2 4)) W2 < g.2 4 then wdE (txt.take (g.2 4)) (wdS (txt.take (g.2 4)) W2) else W2)), .int (nI (g.2 7)), .ref (ad 11), .int (nI L_a.length), .int (nI (g.2 9)), .int (nI (g.2 10)), .ref (ad 12), .int (nI (g.2 11)), .ref (ad 13)] := M93.1.1
                        have a_S4 := wdS_le (L := (txt.take (g.2 4))) (i := W2) (by omega)
                        have n_S4 := wdS_not (i := W2) hen (g.2 4 - W2) rfl (by omega)
                        have b_S4 := wdE_le (L := (txt.take (g.2 4))) (i := wdS (txt.take (g.2 4)) W2) (by omega)
                        generalize h_S4 : wdS (txt.take (g.2 4)) W2 = S4 at rq_M93 M93 a_S4 n_S4 b_S4 hV
                        by_cases c_S4 : S4 < g.2 4
                        · rw [if_pos c_S4] at M93
                          rw [decide_eq_true c_S4] at rq_M93
                          subst rq_M93
                          have oM95 : hOb (eD E) classes H91 a 10 [.ref (ad 0), .int (nI (g.2 0)), .ref (ad 1), .int (nI (g.2 1)), .int (nI (g.2 2)), .ref (ad 2), .ref (ad 3), .ref (ad 4), .ref (ad 5), .ref (ad 6), .ref (ad 7), .ref (ad 8), .ref (ad 9), .ref (ad 10), .int (nI (g.2 3)), .int (nI (g.2 4)), .int (nI S4), .int (nI (wdE (txt.take (g.2 4)) S4)), .int (nI (g.2 7)), .ref (ad 11), .int (nI L_a.length), .int (nI (g.2 9)), .int (nI (g.2 10)), .ref (ad 12), .int (nI (g.2 11)), .ref (ad 13)] := M93.1.1
                          have hg4 := wdE_gt hen c_S4 (n_S4 c_S4)
                          rw [if_pos hg4] at hV
                          refine lv_if_eq (tgt := 358) cx.x cx.b d_Mo_words_346 (by decide) (fun c => absurd c (by decide)) (fun _ => ?_)
                          refine lv_aload_n cx.x cx.b d_Mo_words_349 rfl (lv_at hl 2 rfl) ?_
                          refine lv_bipush (v := 6) cx.x cx.b d_Mo_words_350 (by decide) ?_
                          refine hx_calli (iv_Mo_137_Mo cx (c_Mo_fail l hE M93.1 (x := 6) (show g.2 3 ≤ g.2 4 by omega) (show g.2 3 ≤ S4 by omega) (show g.2 4 < 1000 by omega) (show S4 < 1000 by omega)) oM95 rfl hl.1 rfl (Nat.le_of_ble_eq_true rfl) d_Mo_words_352 ⟨Nat.le_of_ble_eq_true rfl, Nat.le_of_ble_eq_true rfl⟩ ⟨Nat.le_of_ble_eq_true rfl, Nat.le_of_ble_eq_true rfl⟩) hlo (fun _ h => h) (fun r99 H98 locs hp97 hlo => ?_)
                          obtain ⟨rq_M100, q_M100⟩ := hp97
                          have rq_M100 : r99 = 0 := rq_M100
                          have M100 : Mw E H H98 a ad (up (up (up (up (up (up g.1 4 N9) 6 (updN (g.1 6) 216 L_a.length)) 7 (updN (g.1 7) 216 0)) 8 (updN (g.1 8) 216 k1)) 9 (updN (g.1 9) 216 mq)) 11 P_a, up (up (up (up (up g.2 5 S4) 6 (wdE (txt.take (g.2 4)) S4)) 8 L_a.length) 9 6) 10 ((if g.2 4 ≤ S4 then g.2 4 else S4) - g.2 3 + 1)) := Mw.cg (M93.tr q_M100) rfl rfl rfl rfl rfl rfl rfl rfl rfl rfl rfl rfl rfl rfl rfl rfl rfl rfl rfl rfl rfl rfl rfl rfl rfl rfl
                          have oM101 : hOb (eD E) classes H98 a 10 [.ref (ad 0), .int (nI (g.2 0)), .ref (ad 1), .int (nI (g.2 1)), .int (nI (g.2 2)), .ref (ad 2), .ref (ad 3), .ref (ad 4), .ref (ad 5), .ref (ad 6), .ref (ad 7), .ref (ad 8), .ref (ad 9), .ref (ad 10), .int (nI (g.2 3)), .int (nI (g.2 4)), .int (nI S4), .int (nI (wdE (txt.take (g.2 4)) S4)), .int (nI (g.2 7)), .ref (ad 11), .int (nI L_a.length), .int (nI 6), .int (nI ((if g.2 4 ≤ S4 then g.2 4 else S4) - g.2 3 + 1)), .ref (ad 12), .int (nI (g.2 11)), .ref (ad 13)] := M100.1.1
                          have i_M100 : (if g.2 4 ≤ S4 then g.2 4 else S4) = S4 := by by_cases z : g.2 4 ≤ S4; rw [if_pos z]; omega; rw [if_neg z]
                          rw [i_M100] at M100
                          have oM102 : hOb (eD E) classes H98 a 10 [.ref (ad 0), .int (nI (g.2 0)), .ref (ad 1), .int (nI (g.2 1)), .int (nI (g.2 2)), .ref (ad 2), .ref (ad 3), .ref (ad 4), .ref (ad 5), .ref (ad 6), .ref (ad 7), .ref (ad 8), .ref (ad 9), .ref (ad 10), .int (nI (g.2 3)), .int (nI (g.2 4)), .int (nI S4), .int (nI (wdE (txt.take (g.2 4)) S4)), .int (nI (g.2 7)), .ref (ad 11), .int (nI L_a.length), .int (nI 6), .int (nI (S4 - g.2 3 + 1)), .ref (ad 12), .int (nI (g.2 11)), .ref (ad 13)] := M100.1.1
                          subst rq_M100
                          subst hV
                          refine lv_if_eq (tgt := 362) cx.x cx.b d_Mo_words_355 (by decide) (fun _ => ?_) (fun c => absurd (by decide) c)
                          refine lv_iconst (v := 0) cx.x cx.b d_Mo_words_362 (by decide) ?_
                          rw [← hQ]
                          exact hx_reti cx.x cx.b cx.r cx.k rfl hlo (fun _ h => h) (Nat.le_of_ble_eq_true rfl) (Nat.le_of_ble_eq_true rfl) d_Mo_words_363 (⟨_, M100, WdQ.no ⟨⟨rfl, rfl, rfl, rfl, rfl⟩, fun r hr => ⟨(show (updN (g.1 6) 216 L_a.length) r = g.1 6 r from updN_n (by omega)), (show (updN (g.1 7) 216 0) r = g.1 7 r from updN_n (by omega)), (show (updN (g.1 8) 216 k1) r = g.1 8 r from updN_n (by omega)), (show (updN (g.1 9) 216 mq) r = g.1 9 r from updN_n (by omega)), fun i hi => ⟨(show N9 _ = _ from hN9 _ (by omega)), rfl⟩⟩, ⟨rfl, rfl, rfl, rfl, rfl, rfl⟩⟩ rfl (show (6 : Nat) ≠ 0 by decide) rfl rfl⟩)
                        · rw [if_neg c_S4] at M93
                          rw [decide_eq_false c_S4] at rq_M93
                          subst rq_M93
                          have oM96 : hOb (eD E) classes H91 a 10 [.ref (ad 0), .int (nI (g.2 0)), .ref (ad 1), .int (nI (g.2 1)), .int (nI (g.2 2)), .ref (ad 2), .ref (ad 3), .ref (ad 4), .ref (ad 5), .ref (ad 6), .ref (ad 7), .ref (ad 8), .ref (ad 9), .ref (ad 10), .int (nI (g.2 3)), .int (nI (g.2 4)), .int (nI S4), .int (nI W2), .int (nI (g.2 7)), .ref (ad 11), .int (nI L_a.length), .int (nI (g.2 9)), .int (nI (g.2 10)), .ref (ad 12), .int (nI (g.2 11)), .ref (ad 13)] := M93.1.1
                          rw [if_neg (show ¬ S4 < wdE (txt.take (g.2 4)) S4 by rw [wdE_end (show (txt.take (g.2 4)).length ≤ S4 by omega)]; omega)] at hV
                          subst hV
                          refine lv_if_eq (tgt := 358) cx.x cx.b d_Mo_words_346 (by decide) (fun _ => ?_) (fun c => absurd (by decide) c)
                          refine lv_iconst (v := 1) cx.x cx.b d_Mo_words_358 (by decide) ?_
                          refine lv_goto (tgt := 363) cx.x cx.b d_Mo_words_359 (by decide) ?_
                          rw [← hQ]
                          exact hx_reti cx.x cx.b cx.r cx.k rfl hlo (fun _ h => h) (Nat.le_of_ble_eq_true rfl) (Nat.le_of_ble_eq_true rfl) d_Mo_words_363 (⟨_, M93, ⟨⟨rfl, rfl, rfl, rfl, rfl⟩, fun r hr => ⟨(show (updN (g.1 6) 216 L_a.length) r = g.1 6 r from updN_n (by omega)), (show (updN (g.1 7) 216 0) r = g.1 7 r from updN_n (by omega)), (show (updN (g.1 8) 216 k1) r = g.1 8 r from updN_n (by omega)), (show (updN (g.1 9) 216 mq) r = g.1 9 r from updN_n (by omega)), fun i hi => ⟨(show N9 _ = _ from hN9 _ (by omega)), rfl⟩⟩, ⟨rfl, rfl, rfl, rfl, rfl, rfl⟩⟩, rfl, fun _ => ⟨⟨⟨(show (updN (g.1 6) 216 L_a.length) 216 = L_a.length from updN_s), l_a, hC_a, o_a⟩, ⟨(show (updN (g.1 7) 216 0) 216 = 0 from updN_s), Nat.zero_le _, fun i hi => absurd hi (Nat.not_lt_zero i), fun c hc => by cases hc⟩, (show (updN (g.1 8) 216 k1) 216 = k1 from updN_s), (show (updN (g.1 9) 216 mq) 216 = mq from updN_s), (show k1 < 10 by omega), h64⟩, rfl⟩, fun z => absurd rfl z⟩)
                      · have c8 : j1 < L_a.length := Nat.not_le.mp (fun zz => c8 ((nI_leI (a := L_a.length) (b := j1) (by omega) (by omega)).mpr zz))
                        refine lv_aload_n cx.x cx.b d_Mo_words_199 rfl (lv_at hl 2 rfl) ?_
                        refine gf_Mo_22_Mo cx oM85 rfl d_Mo_words_200 ?_
                        refine lv_bipush (v := 20) cx.x cx.b d_Mo_words_203 (by decide) ?_
                        refine lv_iload_n cx.x cx.b d_Mo_words_205 rfl (lv_at hl 4 rfl) ?_
                        refine lv_imul cx.x cx.b d_Mo_words_206 ?_
                        refine lv_topi (fun x103 e_x103 => ?_)
                        have e_x103 : x103 = nI (20 * 216) := e_x103.trans (pk_mul 20 216)
                        subst e_x103
                        refine lv_iload cx.x cx.b d_Mo_words_207 (lv_at hl 0 rfl) ?_
                        refine lv_iadd cx.x cx.b d_Mo_words_209 ?_
                        refine lv_topi (fun x104 e_x104 => ?_)
                        have e_x104 : x104 = nI ((20 * 216) + j1) := e_x104.trans (nI_add (20 * 216) j1)
                        subst e_x104
                        refine lv_aload_n cx.x cx.b d_Mo_words_210 rfl (lv_at hl 2 rfl) ?_
                        refine gf_Mo_43_Mo cx oM85 rfl d_Mo_words_211 ?_
                        refine lv_iload cx.x cx.b d_Mo_words_214 (lv_at hl 0 rfl) ?_
                        refine hx_iald cx.x cx.b cx.K 0 (M6.1.2.1 11 (by decide)) rfl (show vp_in (nI j1) 20 from vp_in_nI (show j1 < 20 by omega) (by decide)) d_Mo_words_216 ?_
                        refine lv_topi (fun x105 e_x105 => ?_)
                        have e_x105 : x105 = nI (L_a.getD j1 0) := e_x105.trans (congrArg nI ((congrArg P_a (nI_clamp (n := j1) (by omega))).trans (p_a j1 (by omega))))
                        subst e_x105
                        refine hx_iast cx.x cx.b cx.K 0 (M6.1.2.1 4 (by decide)) hlo (M6.1.2.2.2.1 4 (by decide)).1 rfl (show vp_in (nI ((20 * 216) + j1)) 4340 from vp_in_nI (show ((20 * 216) + j1) < 4340 by omega) (by decide)) d_Mo_words_217 (fun H106 locs ha107 z_H106 o_H106 hlo => ?_)
                        have M108 : Mw E H H106 a ad (up (up (up (up (up g.1 4 (updN N9 ((20 * 216) + j1) (L_a.getD j1 0))) 6 (updN (g.1 6) 216 L_a.length)) 8 (updN (g.1 8) 216 k1)) 9 (updN (g.1 9) 216 mq)) 11 P_a, up (up (up g.2 5 S2) 6 W2) 8 L_a.length) := M6.ar (up (up (up (up (up g.1 4 (updN N9 ((20 * 216) + j1) (L_a.getD j1 0))) 6 (updN (g.1 6) 216 L_a.length)) 8 (updN (g.1 8) 216 k1)) 9 (updN (g.1 9) 216 mq)) 11 P_a, up (up (up g.2 5 S2) 6 W2) 8 L_a.length) 4 (by decide) (by have h9 := ha107; rw [show (nI ((20 * 216) + j1) : Int32).toNatClampNeg = ((20 * 216) + j1) from nI_clamp (n := ((20 * 216) + j1)) (by omega)] at h9; have h9 : hAi H106 (ad 4) (eA E 0) (arL 4) (upd (fun i => nI (N9 i)) ((20 * 216) + j1) (nI (L_a.getD j1 0))) := h9; rw [upd_nI] at h9; exact h9) z_H106 o_H106 rfl (fun j hj hn => arN4 hj hn rfl rfl rfl rfl rfl rfl rfl rfl rfl rfl rfl rfl rfl)
                        have oM109 : hOb (eD E) classes H106 a 10 [.ref (ad 0), .int (nI (g.2 0)), .ref (ad 1), .int (nI (g.2 1)), .int (nI (g.2 2)), .ref (ad 2), .ref (ad 3), .ref (ad 4), .ref (ad 5), .ref (ad 6), .ref (ad 7), .ref (ad 8), .ref (ad 9), .ref (ad 10), .int (nI (g.2 3)), .int (nI (g.2 4)), .int (nI S2), .int (nI W2), .int (nI (g.2 7)), .ref (ad 11), .int (nI L_a.length), .int (nI (g.2 9)), .int (nI (g.2 10)), .ref (ad 12), .int (nI (g.2 11)), .ref (ad 13)] := M108.1.1
                        obtain ⟨x110, e_x110⟩ : ∃ y : Int32, y = nI j1 + 1 := ⟨_, rfl⟩
                        refine lv_iinc (v := x110) (lv' := [(7, .int x110), (5, .int (nI k1)), (0, .ref a), (1, .int (bI false)), (2, .int 216)]) cx.x cx.b d_Mo_words_218 hl (k := 0) rfl (by rw [e_x110]; rfl) (by decide) rfl (fun ls hl => ?_)
                        have e_x110 : x110 = nI (j1 + 1) := e_x110.trans (nI_add j1 1)
                        subst e_x110
                        refine lv_goto (tgt := 190) cx.x cx.b d_Mo_words_221 (by decide) ?_
                        exact ih _ (j1 + 1) _ _ hlo (by omega) (by omega) M108 (fun i hi => (updN_n (by omega)).trans (hN9 i hi)) (fun i hi => by by_cases e : i = j1; rw [e]; exact updN_s; exact (updN_n (by omega)).trans (hC_a i (by omega))) _ (lv_sub hl [0, 1, 2, 3, 4] rfl)
                  exact CP_a _ _ 0 (g.1 4) _ hlo (Nat.lt_succ_self _) (Nat.zero_le _) (Mw.cg M83 rfl rfl rfl rfl rfl rfl rfl rfl rfl rfl rfl rfl rfl rfl rfl rfl rfl rfl rfl rfl rfl rfl rfl rfl rfl rfl) (fun i _ => rfl) (fun i hi => absurd hi (Nat.not_lt_zero i)) _ (lv_sub hl [0, 1, 3, 4, 5] rfl)
                refine lv_aload_n cx.x cx.b d_Mo_words_132 rfl (lv_at hl 4 rfl) ?_
                refine lv_iconst (v := 0) cx.x cx.b d_Mo_words_133 (by decide) ?_
                refine lv_aload_n cx.x cx.b d_Mo_words_134 rfl (lv_at hl 4 rfl) ?_
                refine gf_Mo_95_Mo cx oM80 rfl d_Mo_words_135 ?_
                refine lv_iload_n cx.x cx.b d_Mo_words_138 rfl (lv_at hl 5 rfl) ?_
                refine lv_if_eq (tgt := 146) cx.x cx.b d_Mo_words_139 (by decide) (fun _ => ?_) (fun c => absurd (by decide) c)
                refine lv_bipush (v := 46) cx.x cx.b d_Mo_words_146 (by decide) ?_
                refine hx_calli (iv_Mo_105_Mo cx (c_Mo_dotted l hE M72.1 (L := L_a) p_a rfl l_a o_a (a1 := 0) (b1 := L_a.length) (sp := 46) (Nat.zero_le _) (Nat.le_refl _) (by decide)) oM80 rfl hl.1 rfl (Nat.le_of_ble_eq_true rfl) d_Mo_words_148 ⟨Nat.le_of_ble_eq_true rfl, Nat.le_of_ble_eq_true rfl⟩ ⟨Nat.le_of_ble_eq_true rfl, Nat.le_of_ble_eq_true rfl⟩) hlo (fun _ h => h) (fun r113 H112 locs hp111 hlo => ?_)
                obtain ⟨hp111, hH9⟩ := hp111
                have hH9 := hH9.symm
                subst hH9
                subst hp111
                rw [List.take_length, List.drop_zero]
                have htn := tkN_some (mem := false) (k := k1) k_a
                have htn : tkN false k1 (g.2 7) (wdO txt S2 W2) = (dtF 46 L_a true || (false && decide (k1 = 1) && decide (L_a = strL 14))) := htn
                rcases kd9 : dtF 46 L_a true
                · refine lv_if_ne (tgt := 177) cx.x cx.b d_Mo_words_151 (by decide) (fun c => absurd (by decide) c) (fun _ => ?_)
                  rw [kd9, Bool.false_or] at htn
                  refine lv_iload_n cx.x cx.b d_Mo_words_154 rfl (lv_at hl 5 rfl) ?_
                  refine lv_if_eq (tgt := 171) cx.x cx.b d_Mo_words_155 (by decide) (fun _ => ?_) (fun c => absurd (by decide) c)
                  have htn : tkN false k1 (g.2 7) (wdO txt S2 W2) = false := by rw [htn]; rfl
                  rw [htn, if_neg (by decide)] at hV
                  refine lv_aload_n cx.x cx.b d_Mo_words_171 rfl (lv_at hl 4 rfl) ?_
                  refine lv_iconst (v := 4) cx.x cx.b d_Mo_words_172 (by decide) ?_
                  refine hx_calli (iv_Mo_137_Mo cx (c_Mo_fail l hE M72.1 (x := 4) (show g.2 3 ≤ g.2 4 by omega) (show g.2 3 ≤ S2 by omega) (show g.2 4 < 1000 by omega) (show S2 < 1000 by omega)) oM80 rfl hl.1 rfl (Nat.le_of_ble_eq_true rfl) d_Mo_words_173 ⟨Nat.le_of_ble_eq_true rfl, Nat.le_of_ble_eq_true rfl⟩ ⟨Nat.le_of_ble_eq_true rfl, Nat.le_of_ble_eq_true rfl⟩) hlo (fun _ h => h) (fun r116 H115 locs hp114 hlo => ?_)
                  obtain ⟨rq_M117, q_M117⟩ := hp114
                  have rq_M117 : r116 = 0 := rq_M117
                  have M117 : Mw E H H115 a ad (up (up (up g.1 8 (updN (g.1 8) 216 k1)) 9 (updN (g.1 9) 216 mq)) 11 P_a, up (up (up (up (up g.2 5 S2) 6 W2) 8 L_a.length) 9 4) 10 ((if g.2 4 ≤ S2 then g.2 4 else S2) - g.2 3 + 1)) := Mw.cg (M72.tr q_M117) rfl rfl rfl rfl rfl rfl rfl rfl rfl rfl rfl rfl rfl rfl rfl rfl rfl rfl rfl rfl rfl rfl rfl rfl rfl rfl
                  have oM118 : hOb (eD E) classes H115 a 10 [.ref (ad 0), .int (nI (g.2 0)), .ref (ad 1), .int (nI (g.2 1)), .int (nI (g.2 2)), .ref (ad 2), .ref (ad 3), .ref (ad 4), .ref (ad 5), .ref (ad 6), .ref (ad 7), .ref (ad 8), .ref (ad 9), .ref (ad 10), .int (nI (g.2 3)), .int (nI (g.2 4)), .int (nI S2), .int (nI W2), .int (nI (g.2 7)), .ref (ad 11), .int (nI L_a.length), .int (nI 4), .int (nI ((if g.2 4 ≤ S2 then g.2 4 else S2) - g.2 3 + 1)), .ref (ad 12), .int (nI (g.2 11)), .ref (ad 13)] := M117.1.1
                  have i_M117 : (if g.2 4 ≤ S2 then g.2 4 else S2) = S2 := by by_cases z : g.2 4 ≤ S2; rw [if_pos z]; omega; rw [if_neg z]
                  rw [i_M117] at M117
                  have oM119 : hOb (eD E) classes H115 a 10 [.ref (ad 0), .int (nI (g.2 0)), .ref (ad 1), .int (nI (g.2 1)), .int (nI (g.2 2)), .ref (ad 2), .ref (ad 3), .ref (ad 4), .ref (ad 5), .ref (ad 6), .ref (ad 7), .ref (ad 8), .ref (ad 9), .ref (ad 10), .int (nI (g.2 3)), .int (nI (g.2 4)), .int (nI S2), .int (nI W2), .int (nI (g.2 7)), .ref (ad 11), .int (nI L_a.length), .int (nI 4), .int (nI (S2 - g.2 3 + 1)), .ref (ad 12), .int (nI (g.2 11)), .ref (ad 13)] := M117.1.1
                  subst rq_M117
                  subst hV
                  rw [← hQ]
                  exact hx_reti cx.x cx.b cx.r cx.k rfl hlo (fun _ h => h) (Nat.le_of_ble_eq_true rfl) (Nat.le_of_ble_eq_true rfl) d_Mo_words_176 (⟨_, M117, WdQ.no ⟨⟨rfl, rfl, rfl, rfl, rfl⟩, fun r hr => ⟨rfl, rfl, (show (updN (g.1 8) 216 k1) r = g.1 8 r from updN_n (by omega)), (show (updN (g.1 9) 216 mq) r = g.1 9 r from updN_n (by omega)), fun i hi => ⟨rfl, rfl⟩⟩, ⟨rfl, rfl, rfl, rfl, rfl, rfl⟩⟩ rfl (show (4 : Nat) ≠ 0 by decide) rfl rfl⟩)
                · refine lv_if_ne (tgt := 177) cx.x cx.b d_Mo_words_151 (by decide) (fun _ => ?_) (fun c => absurd c (by decide))
                  rw [kd9, Bool.true_or] at htn
                  exact NM _ hlo htn _ (lv_sub hl [1, 3, 4, 5, 6] rfl)
            · rw [if_neg c_S2] at M58
              rw [decide_eq_false c_S2] at rq_M58
              subst rq_M58
              have oM61 : hOb (eD E) classes H56 a 10 [.ref (ad 0), .int (nI (g.2 0)), .ref (ad 1), .int (nI (g.2 1)), .int (nI (g.2 2)), .ref (ad 2), .ref (ad 3), .ref (ad 4), .ref (ad 5), .ref (ad 6), .ref (ad 7), .ref (ad 8), .ref (ad 9), .ref (ad 10), .int (nI (g.2 3)), .int (nI (g.2 4)), .int (nI S2), .int (nI W1), .int (nI (g.2 7)), .ref (ad 11), .int (nI (g.2 8)), .int (nI (g.2 9)), .int (nI (g.2 10)), .ref (ad 12), .int (nI (g.2 11)), .ref (ad 13)] := M58.1.1
              rw [wdE_end (show (txt.take (g.2 4)).length ≤ S2 by omega), cnR_nil, okN_nil, if_neg (by decide)] at hV
              refine lv_if_eq (tgt := 124) cx.x cx.b d_Mo_words_110 (by decide) (fun _ => ?_) (fun c => absurd (by decide) c)
              refine lv_iconst (v := 0) cx.x cx.b d_Mo_words_124 (by decide) ?_
              refine lv_istore (lv' := [(6, .int 0), (5, .int (nI k1)), (4, .int (bI true)), (3, .int (nI mq)), (0, .ref a), (1, .int (bI false)), (2, .int 216)]) cx.x cx.b d_Mo_words_125 hl (by decide) rfl (fun ls hl => ?_)
              refine lv_iload cx.x cx.b d_Mo_words_127 (lv_at hl 0 rfl) ?_
              refine lv_if_eq (tgt := 171) cx.x cx.b d_Mo_words_129 (by decide) (fun _ => ?_) (fun c => absurd (by decide) c)
              refine lv_aload_n cx.x cx.b d_Mo_words_171 rfl (lv_at hl 4 rfl) ?_
              refine lv_iconst (v := 4) cx.x cx.b d_Mo_words_172 (by decide) ?_
              refine hx_calli (iv_Mo_137_Mo cx (c_Mo_fail l hE M58.1 (x := 4) (show g.2 3 ≤ g.2 4 by omega) (show g.2 3 ≤ S2 by omega) (show g.2 4 < 1000 by omega) (show S2 < 1000 by omega)) oM61 rfl hl.1 rfl (Nat.le_of_ble_eq_true rfl) d_Mo_words_173 ⟨Nat.le_of_ble_eq_true rfl, Nat.le_of_ble_eq_true rfl⟩ ⟨Nat.le_of_ble_eq_true rfl, Nat.le_of_ble_eq_true rfl⟩) hlo (fun _ h => h) (fun r64 H63 locs hp62 hlo => ?_)
              obtain ⟨rq_M65, q_M65⟩ := hp62
              have rq_M65 : r64 = 0 := rq_M65
              have M65 : Mw E H H63 a ad (up (up g.1 8 (updN (g.1 8) 216 k1)) 9 (updN (g.1 9) 216 mq), up (up (up (up g.2 5 S2) 6 W1) 9 4) 10 ((if g.2 4 ≤ S2 then g.2 4 else S2) - g.2 3 + 1)) := Mw.cg (M58.tr q_M65) rfl rfl rfl rfl rfl rfl rfl rfl rfl rfl rfl rfl rfl rfl rfl rfl rfl rfl rfl rfl rfl rfl rfl rfl rfl rfl
              have oM66 : hOb (eD E) classes H63 a 10 [.ref (ad 0), .int (nI (g.2 0)), .ref (ad 1), .int (nI (g.2 1)), .int (nI (g.2 2)), .ref (ad 2), .ref (ad 3), .ref (ad 4), .ref (ad 5), .ref (ad 6), .ref (ad 7), .ref (ad 8), .ref (ad 9), .ref (ad 10), .int (nI (g.2 3)), .int (nI (g.2 4)), .int (nI S2), .int (nI W1), .int (nI (g.2 7)), .ref (ad 11), .int (nI (g.2 8)), .int (nI 4), .int (nI ((if g.2 4 ≤ S2 then g.2 4 else S2) - g.2 3 + 1)), .ref (ad 12), .int (nI (g.2 11)), .ref (ad 13)] := M65.1.1
              have i_M65 : (if g.2 4 ≤ S2 then g.2 4 else S2) = S2 := by by_cases z : g.2 4 ≤ S2; rw [if_pos z]; omega; rw [if_neg z]
              rw [i_M65] at M65
              have oM67 : hOb (eD E) classes H63 a 10 [.ref (ad 0), .int (nI (g.2 0)), .ref (ad 1), .int (nI (g.2 1)), .int (nI (g.2 2)), .ref (ad 2), .ref (ad 3), .ref (ad 4), .ref (ad 5), .ref (ad 6), .ref (ad 7), .ref (ad 8), .ref (ad 9), .ref (ad 10), .int (nI (g.2 3)), .int (nI (g.2 4)), .int (nI S2), .int (nI W1), .int (nI (g.2 7)), .ref (ad 11), .int (nI (g.2 8)), .int (nI 4), .int (nI (S2 - g.2 3 + 1)), .ref (ad 12), .int (nI (g.2 11)), .ref (ad 13)] := M65.1.1
              subst rq_M65
              subst hV
              rw [← hQ]
              exact hx_reti cx.x cx.b cx.r cx.k rfl hlo (fun _ h => h) (Nat.le_of_ble_eq_true rfl) (Nat.le_of_ble_eq_true rfl) d_Mo_words_176 (⟨_, M65, WdQ.no ⟨⟨rfl, rfl, rfl, rfl, rfl⟩, fun r hr => ⟨rfl, rfl, (show (updN (g.1 8) 216 k1) r = g.1 8 r from updN_n (by omega)), (show (updN (g.1 9) 216 mq) r = g.1 9 r from updN_n (by omega)), fun i hi => ⟨rfl, rfl⟩⟩, ⟨rfl, rfl, rfl, rfl, rfl, rfl⟩⟩ rfl (show (4 : Nat) ≠ 0 by decide) rfl rfl⟩)
        · have c2 : 0 < (mkH false (wdO txt S1 W1)) := Nat.not_le.mp (fun zz => c2 ((nI_leI (a := (mkH false (wdO txt S1 W1))) (b := 0) (by omega) (by omega)).mpr zz))
          rw [if_neg (by omega)] at hR
          refine lv_iload_n cx.x cx.b d_Mo_words_24 rfl (lv_at hl 3 rfl) ?_
          refine lv_aload_n cx.x cx.b d_Mo_words_25 rfl (lv_at hl 2 rfl) ?_
          refine hx_calll (iv_Mo_129_Mo cx (c_Mo_word l hE M5.1 hx hxc hxl (show S1 ≤ W1 by omega) (show W1 ≤ g.2 4 by omega) c1 hen) oM1 rfl hl.1 rfl (Nat.le_of_ble_eq_true rfl) d_Mo_words_26 ⟨Nat.le_of_ble_eq_true rfl, Nat.le_of_ble_eq_true rfl⟩ ⟨Nat.le_of_ble_eq_true rfl, Nat.le_of_ble_eq_true rfl⟩) hlo (fun _ h => h) (fun r16 H15 locs hp14 hlo => ?_)
          obtain ⟨hp14, hH9⟩ := hp14
          have hH9 := hH9.symm
          subst hH9
          have hp14 : r16 = lN (wrd (wdO txt S1 W1)) := hp14
          subst hp14
          refine hx_calli (iv_Mo_133 cx (c_Mo_mark_f l hE (H := H5) (wdO_okW hxc)) rfl hl.1 rfl (Nat.le_of_ble_eq_true rfl) d_Mo_words_29 ⟨Nat.le_of_ble_eq_true rfl, Nat.le_of_ble_eq_true rfl⟩ ⟨Nat.le_of_ble_eq_true rfl, Nat.le_of_ble_eq_true rfl⟩) hlo (fun _ h => h) (fun r19 H18 locs hp17 hlo => ?_)
          obtain ⟨hp17, hH9⟩ := hp17
          have hH9 := hH9.symm
          subst hH9
          subst hp17
          refine lv_istore (lv' := [(5, .int (nI (mkH false (wdO txt S1 W1)))), (4, .int (bI true)), (3, .int (nI mq)), (0, .ref a), (1, .int (bI false)), (2, .int 216)]) cx.x cx.b d_Mo_words_32 hl (by decide) rfl (fun ls hl => ?_)
          refine lv_iload_n cx.x cx.b d_Mo_words_34 rfl (lv_at hl 2 rfl) ?_
          refine lv_iload cx.x cx.b d_Mo_words_35 (lv_at hl 0 rfl) ?_
          refine lv_iand cx.x cx.b d_Mo_words_37 ?_
          refine lv_topi (fun x20 e_x20 => ?_)
          have e_x20 : x20 = nI (mq &&& mkH false (wdO txt S1 W1)) := e_x20.trans ((nI_and mq h64 _ hml).1)
          subst e_x20
          have ha9 := (nI_and mq h64 _ hml).2.2.1
          refine lv_if_eq (tgt := 47) cx.x cx.b d_Mo_words_38 (by decide) (fun c3 => ?_) (fun c3 => ?_)
          · have c3 : (mq &&& mkH false (wdO txt S1 W1)) = 0 := (nI_eq (a := (mq &&& mkH false (wdO txt S1 W1))) (b := 0) (by omega) (by omega)).mp c3
            rw [if_neg (fun z => z c3)] at hR
            have hg9 := mk_go hmq (show mkH false (wdO txt S1 W1) ≠ 0 by omega) c3
            refine lv_iload_n cx.x cx.b d_Mo_words_47 rfl (lv_at hl 2 rfl) ?_
            refine lv_iload cx.x cx.b d_Mo_words_48 (lv_at hl 0 rfl) ?_
            refine lv_iadd cx.x cx.b d_Mo_words_50 ?_
            refine lv_topi (fun x27 e_x27 => ?_)
            have e_x27 : x27 = nI (mq + (mkH false (wdO txt S1 W1))) := e_x27.trans (nI_add mq (mkH false (wdO txt S1 W1)))
            subst e_x27
            refine lv_istore_n (lv' := [(3, .int (nI (mq + (mkH false (wdO txt S1 W1))))), (5, .int (nI (mkH false (wdO txt S1 W1)))), (4, .int (bI true)), (0, .ref a), (1, .int (bI false)), (2, .int 216)]) cx.x cx.b d_Mo_words_51 rfl hl (by decide) rfl (fun ls hl => ?_)
            refine lv_aload_n cx.x cx.b d_Mo_words_52 rfl (lv_at hl 3 rfl) ?_
            refine hx_calli (iv_Mo_125_Mo cx (c_Mo_next l hE M5.1 hx hxc hxl (show W1 ≤ g.2 4 by omega) hen) oM1 rfl hl.1 rfl (Nat.le_of_ble_eq_true rfl) d_Mo_words_53 ⟨Nat.le_of_ble_eq_true rfl, Nat.le_of_ble_eq_true rfl⟩ ⟨Nat.le_of_ble_eq_true rfl, Nat.le_of_ble_eq_true rfl⟩) hlo (fun _ h => h) (fun r30 H29 locs hp28 hlo => ?_)
            obtain ⟨rq_M31, q_M31⟩ := hp28
            have rq_M31 : r30 = bI (decide (wdS (txt.take (g.2 4)) W1 < g.2 4)) := rq_M31
            have M31 : Mw E H H29 a ad (g.1, up (up g.2 5 (wdS (txt.take (g.2 4)) W1)) 6 (if wdS (txt.take (g.2 4)) W1 < g.2 4 then wdE (txt.take (g.2 4)) (wdS (txt.take (g.2 4)) W1) else W1)) := Mw.cg (M5.tr q_M31) rfl rfl rfl rfl rfl rfl rfl rfl rfl rfl rfl rfl rfl rfl rfl rfl rfl rfl rfl rfl rfl rfl rfl rfl rfl rfl
            have oM32 : hOb (eD E) classes H29 a 10 [.ref (ad 0), .int (nI (g.2 0)), .ref (ad 1), .int (nI (g.2 1)), .int (nI (g.2 2)), .ref (ad 2), .ref (ad 3), .ref (ad 4), .ref (ad 5), .ref (ad 6), .ref (ad 7), .ref (ad 8), .ref (ad 9), .ref (ad 10), .int (nI (g.2 3)), .int (nI (g.2 4)), .int (nI (wdS (txt.take (g.2 4)) W1)), .int (nI (if wdS (txt.take (g.2 4)) W1 < g.2 4 then wdE (txt.take (g.2 4)) (wdS (txt.take (g.2 4)) W1) else W1)), .int (nI (g.2 7)), .ref (ad 11), .int (nI (g.2 8)), .int (nI (g.2 9)), .int (nI (g.2 10)), .ref (ad 12), .int (nI (g.2 11)), .ref (ad 13)] := M31.1.1
            have a_S2 := wdS_le (L := (txt.take (g.2 4))) (i := W1) (by omega)
            have n_S2 := wdS_not (i := W1) hen (g.2 4 - W1) rfl (by omega)
            have b_S2 := wdE_le (L := (txt.take (g.2 4))) (i := wdS (txt.take (g.2 4)) W1) (by omega)
            generalize h_S2 : wdS (txt.take (g.2 4)) W1 = S2 at rq_M31 M31 a_S2 n_S2 b_S2 hR
            by_cases c_S2 : S2 < g.2 4
            · rw [if_pos c_S2] at M31
              rw [decide_eq_true c_S2] at rq_M31
              subst rq_M31
              have oM33 : hOb (eD E) classes H29 a 10 [.ref (ad 0), .int (nI (g.2 0)), .ref (ad 1), .int (nI (g.2 1)), .int (nI (g.2 2)), .ref (ad 2), .ref (ad 3), .ref (ad 4), .ref (ad 5), .ref (ad 6), .ref (ad 7), .ref (ad 8), .ref (ad 9), .ref (ad 10), .int (nI (g.2 3)), .int (nI (g.2 4)), .int (nI S2), .int (nI (wdE (txt.take (g.2 4)) S2)), .int (nI (g.2 7)), .ref (ad 11), .int (nI (g.2 8)), .int (nI (g.2 9)), .int (nI (g.2 10)), .ref (ad 12), .int (nI (g.2 11)), .ref (ad 13)] := M31.1.1
              refine lv_istore (lv' := [(4, .int (bI true)), (3, .int (nI (mq + (mkH false (wdO txt S1 W1))))), (5, .int (nI (mkH false (wdO txt S1 W1)))), (0, .ref a), (1, .int (bI false)), (2, .int 216)]) cx.x cx.b d_Mo_words_56 hl (by decide) rfl (fun ls hl => ?_)
              refine lv_goto (tgt := 8) cx.x cx.b d_Mo_words_58 (by decide) ?_
              rw [show (mq + mkH false (wdO txt S1 W1)) = (mq ||| mkH false (wdO txt S1 W1)) from hg9.2.1.symm] at hl
              have hl2 : lv_has ls 8 [(4, .int (bI (decide (S2 < g.2 4)))), (3, .int (nI (mq ||| mkH false (wdO txt S1 W1)))), (0, .ref a), (1, .int (bI false)), (2, .int 216)] := by rw [decide_eq_true c_S2]; exact lv_sub hl [0, 1, 3, 4, 5] rfl
              exact ih _ n8 (mq ||| mkH false (wdO txt S1 W1)) S2 (wdE (txt.take (g.2 4)) S2) _ hlo (by omega) hg9.2.2 (by omega) ⟨by omega, by omega⟩ ⟨fun _ => ⟨rfl, n_S2 c_S2⟩, by omega⟩ M31 hR _ hl2
            · rw [if_neg c_S2] at M31
              rw [decide_eq_false c_S2] at rq_M31
              subst rq_M31
              have oM34 : hOb (eD E) classes H29 a 10 [.ref (ad 0), .int (nI (g.2 0)), .ref (ad 1), .int (nI (g.2 1)), .int (nI (g.2 2)), .ref (ad 2), .ref (ad 3), .ref (ad 4), .ref (ad 5), .ref (ad 6), .ref (ad 7), .ref (ad 8), .ref (ad 9), .ref (ad 10), .int (nI (g.2 3)), .int (nI (g.2 4)), .int (nI S2), .int (nI W1), .int (nI (g.2 7)), .ref (ad 11), .int (nI (g.2 8)), .int (nI (g.2 9)), .int (nI (g.2 10)), .ref (ad 12), .int (nI (g.2 11)), .ref (ad 13)] := M31.1.1
              refine lv_istore (lv' := [(4, .int (bI false)), (3, .int (nI (mq + (mkH false (wdO txt S1 W1))))), (5, .int (nI (mkH false (wdO txt S1 W1)))), (0, .ref a), (1, .int (bI false)), (2, .int 216)]) cx.x cx.b d_Mo_words_56 hl (by decide) rfl (fun ls hl => ?_)
              refine lv_goto (tgt := 8) cx.x cx.b d_Mo_words_58 (by decide) ?_
              rw [show (mq + mkH false (wdO txt S1 W1)) = (mq ||| mkH false (wdO txt S1 W1)) from hg9.2.1.symm] at hl
              have hl2 : lv_has ls 8 [(4, .int (bI (decide (S2 < g.2 4)))), (3, .int (nI (mq ||| mkH false (wdO txt S1 W1)))), (0, .ref a), (1, .int (bI false)), (2, .int 216)] := by rw [decide_eq_false c_S2]; exact lv_sub hl [0, 1, 3, 4, 5] rfl
              exact ih _ n8 (mq ||| mkH false (wdO txt S1 W1)) S2 W1 _ hlo (by omega) hg9.2.2 (by omega) ⟨by omega, by omega⟩ ⟨fun z => absurd z c_S2, by omega⟩ M31 hR _ hl2
          · have c3 : (mq &&& mkH false (wdO txt S1 W1)) ≠ 0 := fun zz => c3 ((nI_eq (a := (mq &&& mkH false (wdO txt S1 W1))) (b := 0) (by omega) (by omega)).mpr zz)
            rw [if_pos c3] at hR
            subst hR
            have hV : (2, S1, W1, default) = V9 := hV
            refine lv_aload_n cx.x cx.b d_Mo_words_41 rfl (lv_at hl 3 rfl) ?_
            refine lv_iconst (v := 2) cx.x cx.b d_Mo_words_42 (by decide) ?_
            refine hx_calli (iv_Mo_137_Mo cx (c_Mo_fail l hE M5.1 (x := 2) (show g.2 3 ≤ g.2 4 by omega) (show g.2 3 ≤ S1 by omega) (show g.2 4 < 1000 by omega) (show S1 < 1000 by omega)) oM1 rfl hl.1 rfl (Nat.le_of_ble_eq_true rfl) d_Mo_words_43 ⟨Nat.le_of_ble_eq_true rfl, Nat.le_of_ble_eq_true rfl⟩ ⟨Nat.le_of_ble_eq_true rfl, Nat.le_of_ble_eq_true rfl⟩) hlo (fun _ h => h) (fun r23 H22 locs hp21 hlo => ?_)
            obtain ⟨rq_M24, q_M24⟩ := hp21
            have rq_M24 : r23 = 0 := rq_M24
            have M24 : Mw E H H22 a ad (g.1, up (up (up (up g.2 5 S1) 6 W1) 9 2) 10 ((if g.2 4 ≤ S1 then g.2 4 else S1) - g.2 3 + 1)) := Mw.cg (M5.tr q_M24) rfl rfl rfl rfl rfl rfl rfl rfl rfl rfl rfl rfl rfl rfl rfl rfl rfl rfl rfl rfl rfl rfl rfl rfl rfl rfl
            have oM25 : hOb (eD E) classes H22 a 10 [.ref (ad 0), .int (nI (g.2 0)), .ref (ad 1), .int (nI (g.2 1)), .int (nI (g.2 2)), .ref (ad 2), .ref (ad 3), .ref (ad 4), .ref (ad 5), .ref (ad 6), .ref (ad 7), .ref (ad 8), .ref (ad 9), .ref (ad 10), .int (nI (g.2 3)), .int (nI (g.2 4)), .int (nI S1), .int (nI W1), .int (nI (g.2 7)), .ref (ad 11), .int (nI (g.2 8)), .int (nI 2), .int (nI ((if g.2 4 ≤ S1 then g.2 4 else S1) - g.2 3 + 1)), .ref (ad 12), .int (nI (g.2 11)), .ref (ad 13)] := M24.1.1
            have i_M24 : (if g.2 4 ≤ S1 then g.2 4 else S1) = S1 := by by_cases z : g.2 4 ≤ S1; rw [if_pos z]; omega; rw [if_neg z]
            rw [i_M24] at M24
            have oM26 : hOb (eD E) classes H22 a 10 [.ref (ad 0), .int (nI (g.2 0)), .ref (ad 1), .int (nI (g.2 1)), .int (nI (g.2 2)), .ref (ad 2), .ref (ad 3), .ref (ad 4), .ref (ad 5), .ref (ad 6), .ref (ad 7), .ref (ad 8), .ref (ad 9), .ref (ad 10), .int (nI (g.2 3)), .int (nI (g.2 4)), .int (nI S1), .int (nI W1), .int (nI (g.2 7)), .ref (ad 11), .int (nI (g.2 8)), .int (nI 2), .int (nI (S1 - g.2 3 + 1)), .ref (ad 12), .int (nI (g.2 11)), .ref (ad 13)] := M24.1.1
            subst rq_M24
            subst hV
            rw [← hQ]
            exact hx_reti cx.x cx.b cx.r cx.k rfl hlo (fun _ h => h) (Nat.le_of_ble_eq_true rfl) (Nat.le_of_ble_eq_true rfl) d_Mo_words_46 (⟨_, M24, WdQ.no ⟨⟨rfl, rfl, rfl, rfl, rfl⟩, fun r hr => ⟨rfl, rfl, rfl, rfl, fun i hi => ⟨rfl, rfl⟩⟩, ⟨rfl, rfl, rfl, rfl, rfl, rfl⟩⟩ rfl (show (2 : Nat) ≠ 0 by decide) rfl rfl⟩)
      · rw [decide_eq_false c1] at hl
        rw [wdE_end (show (txt.take (g.2 4)).length ≤ S1 by omega), wdO_self, mkH_nil, if_pos rfl] at hR
        subst hR
        have hV : (match kdH false (wdO txt S1 S1) with | none => (3, S1, S1, default) | some k => rdW1 false (g.2 7) txt (g.2 4) mq k S1) = V9 := hV
        rw [wdO_self, kdH_nil] at hV
        have hV : (3, S1, S1, default) = V9 := hV
        refine lv_iload cx.x cx.b d_Mo_words_8 (lv_at hl 0 rfl) ?_
        refine lv_if_eq (tgt := 61) cx.x cx.b d_Mo_words_10 (by decide) (fun _ => ?_) (fun c => absurd (by decide) c)
        refine lv_iload cx.x cx.b d_Mo_words_61 (lv_at hl 0 rfl) ?_
        refine lv_if_eq (tgt := 77) cx.x cx.b d_Mo_words_63 (by decide) (fun _ => ?_) (fun c => absurd (by decide) c)
        refine lv_iconst (v := (-1)) cx.x cx.b d_Mo_words_77 (by decide) ?_
        refine lv_istore (lv' := [(5, .int (-1)), (4, .int (bI false)), (3, .int (nI mq)), (0, .ref a), (1, .int (bI false)), (2, .int 216)]) cx.x cx.b d_Mo_words_78 hl (by decide) rfl (fun ls hl => ?_)
        refine lv_iload cx.x cx.b d_Mo_words_80 (lv_at hl 0 rfl) ?_
        refine lv_if_ge (tgt := 91) cx.x cx.b d_Mo_words_82 (by decide) (fun c => absurd c (by decide)) (fun _ => ?_)
        refine lv_aload_n cx.x cx.b d_Mo_words_85 rfl (lv_at hl 3 rfl) ?_
        refine lv_iconst (v := 3) cx.x cx.b d_Mo_words_86 (by decide) ?_
        refine hx_calli (iv_Mo_137_Mo cx (c_Mo_fail l hE M5.1 (x := 3) (show g.2 3 ≤ g.2 4 by omega) (show g.2 3 ≤ S1 by omega) (show g.2 4 < 1000 by omega) (show S1 < 1000 by omega)) oM1 rfl hl.1 rfl (Nat.le_of_ble_eq_true rfl) d_Mo_words_87 ⟨Nat.le_of_ble_eq_true rfl, Nat.le_of_ble_eq_true rfl⟩ ⟨Nat.le_of_ble_eq_true rfl, Nat.le_of_ble_eq_true rfl⟩) hlo (fun _ h => h) (fun r4 H3 locs hp2 hlo => ?_)
        obtain ⟨rq_M5, q_M5⟩ := hp2
        have rq_M5 : r4 = 0 := rq_M5
        have M5 : Mw E H H3 a ad (g.1, up (up (up (up g.2 5 S1) 6 W1) 9 3) 10 ((if g.2 4 ≤ S1 then g.2 4 else S1) - g.2 3 + 1)) := Mw.cg (M5.tr q_M5) rfl rfl rfl rfl rfl rfl rfl rfl rfl rfl rfl rfl rfl rfl rfl rfl rfl rfl rfl rfl rfl rfl rfl rfl rfl rfl
        have oM6 : hOb (eD E) classes H3 a 10 [.ref (ad 0), .int (nI (g.2 0)), .ref (ad 1), .int (nI (g.2 1)), .int (nI (g.2 2)), .ref (ad 2), .ref (ad 3), .ref (ad 4), .ref (ad 5), .ref (ad 6), .ref (ad 7), .ref (ad 8), .ref (ad 9), .ref (ad 10), .int (nI (g.2 3)), .int (nI (g.2 4)), .int (nI S1), .int (nI W1), .int (nI (g.2 7)), .ref (ad 11), .int (nI (g.2 8)), .int (nI 3), .int (nI ((if g.2 4 ≤ S1 then g.2 4 else S1) - g.2 3 + 1)), .ref (ad 12), .int (nI (g.2 11)), .ref (ad 13)] := M5.1.1
        have i_M5 : (if g.2 4 ≤ S1 then g.2 4 else S1) = S1 := by by_cases z : g.2 4 ≤ S1; rw [if_pos z]; omega; rw [if_neg z]
        rw [i_M5] at M5
        have oM7 : hOb (eD E) classes H3 a 10 [.ref (ad 0), .int (nI (g.2 0)), .ref (ad 1), .int (nI (g.2 1)), .int (nI (g.2 2)), .ref (ad 2), .ref (ad 3), .ref (ad 4), .ref (ad 5), .ref (ad 6), .ref (ad 7), .ref (ad 8), .ref (ad 9), .ref (ad 10), .int (nI (g.2 3)), .int (nI (g.2 4)), .int (nI S1), .int (nI W1), .int (nI (g.2 7)), .ref (ad 11), .int (nI (g.2 8)), .int (nI 3), .int (nI (S1 - g.2 3 + 1)), .ref (ad 12), .int (nI (g.2 11)), .ref (ad 13)] := M5.1.1
        subst rq_M5
        subst hV
        rw [← hQ]
        exact hx_reti cx.x cx.b cx.r cx.k rfl hlo (fun _ h => h) (Nat.le_of_ble_eq_true rfl) (Nat.le_of_ble_eq_true rfl) d_Mo_words_90 (⟨_, M5, WdQ.no ⟨⟨rfl, rfl, rfl, rfl, rfl⟩, fun r hr => ⟨rfl, rfl, rfl, rfl, fun i hi => ⟨rfl, rfl⟩⟩, ⟨rfl, rfl, rfl, rfl, rfl, rfl⟩⟩ rfl (show (3 : Nat) ≠ 0 by decide) rfl rfl⟩)
  refine lv_iconst (v := 0) cx.x cx.b d_Mo_words_0 (by decide) ?_
  refine lv_istore_n (lv' := [(3, .int 0), (0, .ref a), (1, .int (bI false)), (2, .int 216)]) cx.x cx.b d_Mo_words_1 rfl hl (by decide) rfl (fun ls hl => ?_)
  refine lv_aload_n cx.x cx.b d_Mo_words_2 rfl (lv_at hl 1 rfl) ?_
  refine hx_calli (iv_Mo_125_Mo cx (c_Mo_next l hE M0.1 hx hxc hxl (show g.2 6 ≤ g.2 4 by omega) hen) M0.1.1 rfl hl.1 rfl (Nat.le_of_ble_eq_true rfl) d_Mo_words_3 ⟨Nat.le_of_ble_eq_true rfl, Nat.le_of_ble_eq_true rfl⟩ ⟨Nat.le_of_ble_eq_true rfl, Nat.le_of_ble_eq_true rfl⟩) hlo (fun _ h => h) (fun r122 H121 locs hp120 hlo => ?_)
  obtain ⟨rq_M123, q_M123⟩ := hp120
  have rq_M123 : r122 = bI (decide (wdS (txt.take (g.2 4)) (g.2 6) < g.2 4)) := rq_M123
  have M123 : Mw E H H121 a ad (g.1, up (up g.2 5 (wdS (txt.take (g.2 4)) (g.2 6))) 6 (if wdS (txt.take (g.2 4)) (g.2 6) < g.2 4 then wdE (txt.take (g.2 4)) (wdS (txt.take (g.2 4)) (g.2 6)) else g.2 6)) := Mw.cg (M0.tr q_M123) rfl rfl rfl rfl rfl rfl rfl rfl rfl rfl rfl rfl rfl rfl rfl rfl rfl rfl rfl rfl rfl rfl rfl rfl rfl rfl
  have oM124 : hOb (eD E) classes H121 a 10 [.ref (ad 0), .int (nI (g.2 0)), .ref (ad 1), .int (nI (g.2 1)), .int (nI (g.2 2)), .ref (ad 2), .ref (ad 3), .ref (ad 4), .ref (ad 5), .ref (ad 6), .ref (ad 7), .ref (ad 8), .ref (ad 9), .ref (ad 10), .int (nI (g.2 3)), .int (nI (g.2 4)), .int (nI (wdS (txt.take (g.2 4)) (g.2 6))), .int (nI (if wdS (txt.take (g.2 4)) (g.2 6) < g.2 4 then wdE (txt.take (g.2 4)) (wdS (txt.take (g.2 4)) (g.2 6)) else g.2 6)), .int (nI (g.2 7)), .ref (ad 11), .int (nI (g.2 8)), .int (nI (g.2 9)), .int (nI (g.2 10)), .ref (ad 12), .int (nI (g.2 11)), .ref (ad 13)] := M123.1.1
  rw [hwe] at rq_M123 M123
  have a_S0 := wdS_le (L := (txt.take (g.2 4))) (i := g.2 3) (by omega)
  have n_S0 := wdS_not (i := g.2 3) hen (g.2 4 - (g.2 3)) rfl (by omega)
  have b_S0 := wdE_le (L := (txt.take (g.2 4))) (i := wdS (txt.take (g.2 4)) (g.2 3)) (by omega)
  generalize h_S0 : wdS (txt.take (g.2 4)) (g.2 3) = S0 at rq_M123 M123 a_S0 n_S0 b_S0 hR
  by_cases c_S0 : S0 < g.2 4
  · rw [if_pos c_S0] at M123
    rw [decide_eq_true c_S0] at rq_M123
    subst rq_M123
    have oM125 : hOb (eD E) classes H121 a 10 [.ref (ad 0), .int (nI (g.2 0)), .ref (ad 1), .int (nI (g.2 1)), .int (nI (g.2 2)), .ref (ad 2), .ref (ad 3), .ref (ad 4), .ref (ad 5), .ref (ad 6), .ref (ad 7), .ref (ad 8), .ref (ad 9), .ref (ad 10), .int (nI (g.2 3)), .int (nI (g.2 4)), .int (nI S0), .int (nI (wdE (txt.take (g.2 4)) S0)), .int (nI (g.2 7)), .ref (ad 11), .int (nI (g.2 8)), .int (nI (g.2 9)), .int (nI (g.2 10)), .ref (ad 12), .int (nI (g.2 11)), .ref (ad 13)] := M123.1.1
    refine lv_istore (lv' := [(4, .int (bI true)), (3, .int 0), (0, .ref a), (1, .int (bI false)), (2, .int 216)]) cx.x cx.b d_Mo_words_6 hl (by decide) rfl (fun ls hl => ?_)
    have hl2 : lv_has ls 8 [(4, .int (bI (decide (S0 < g.2 4)))), (3, .int (nI 0)), (0, .ref a), (1, .int (bI false)), (2, .int 216)] := by rw [decide_eq_true c_S0]; exact lv_sub hl [0, 1, 2, 3, 4] rfl
    exact LP _ _ (nMarks false + 1) 0 S0 (wdE (txt.take (g.2 4)) S0) _ hlo (Nat.lt_succ_self _) (Nat.pow_pos (by decide)) rfl ⟨by omega, by omega⟩ ⟨fun _ => ⟨rfl, n_S0 c_S0⟩, by omega⟩ M123 hR _ hl2
  · rw [if_neg c_S0] at M123
    rw [decide_eq_false c_S0] at rq_M123
    subst rq_M123
    have oM126 : hOb (eD E) classes H121 a 10 [.ref (ad 0), .int (nI (g.2 0)), .ref (ad 1), .int (nI (g.2 1)), .int (nI (g.2 2)), .ref (ad 2), .ref (ad 3), .ref (ad 4), .ref (ad 5), .ref (ad 6), .ref (ad 7), .ref (ad 8), .ref (ad 9), .ref (ad 10), .int (nI (g.2 3)), .int (nI (g.2 4)), .int (nI S0), .int (nI (g.2 3)), .int (nI (g.2 7)), .ref (ad 11), .int (nI (g.2 8)), .int (nI (g.2 9)), .int (nI (g.2 10)), .ref (ad 12), .int (nI (g.2 11)), .ref (ad 13)] := M123.1.1
    refine lv_istore (lv' := [(4, .int (bI false)), (3, .int 0), (0, .ref a), (1, .int (bI false)), (2, .int 216)]) cx.x cx.b d_Mo_words_6 hl (by decide) rfl (fun ls hl => ?_)
    have hl2 : lv_has ls 8 [(4, .int (bI (decide (S0 < g.2 4)))), (3, .int (nI 0)), (0, .ref a), (1, .int (bI false)), (2, .int 216)] := by rw [decide_eq_false c_S0]; exact lv_sub hl [0, 1, 2, 3, 4] rfl
    exact LP _ _ (nMarks false + 1) 0 S0 (g.2 3) _ hlo (Nat.lt_succ_self _) (Nat.pow_pos (by decide)) rfl ⟨by omega, by omega⟩ ⟨fun z => absurd z c_S0, by omega⟩ M123 hR _ hl2

set_option maxHeartbeats 4000000 in
set_option maxRecDepth 100000 in
theorem c_Mo_words_t (l : Launch) {E : hE} (hE : EnvOk E) {H : Heap} {a : Nat} {ad : Nat → Nat} {g : MS} (M : Mo E H a ad g) {txt : List Nat} (hx : Tx (g.1 0) txt) (hxc : ∀ x ∈ txt, okC x = true) (hxl : txt.length ≤ 480) (hwe : g.2 6 = g.2 3) (hfe : g.2 3 ≤ g.2 4) (hen : g.2 4 ≤ txt.length) (hfm : g.2 7 = 1 ∨ g.2 7 = 2) (haf : txt.getD (g.2 4) 0 ≠ 36) : Ct l E y_Mo_words b_Mo_words 8 (some .boolean) (rmA 4 0 0) [.ref a, .int (bI true), .int 216] H (hQi (fun r H1 => ∃ g2 : MS, Mw E H H1 a ad g2 ∧ WdQ (rdW true (g.2 7) txt (g.2 4) (wdS (txt.take (g.2 4)) (g.2 3)) (wdE (txt.take (g.2 4)) (wdS (txt.take (g.2 4)) (g.2 3)))) g g2 r)) := by
  refine hx_enter hE (by decide) (Nat.le_of_ble_eq_true rfl) ?_
  intro p e s m args below meth c ls cx hnm hl
  have hl : lv_has ls 8 [(0, .ref a), (1, .int (bI true)), (2, .int 216)] := hl
  have hlo : hLo (eB E) [] := hLo.nil
  generalize hQ : MQ below _ args s _ _ _ = Q
  have M0 : Mw E H H a ad g := ⟨M, hCh.rf, rfl⟩
  have hT := len_take hen
  generalize hV : rdW true (g.2 7) txt (g.2 4) (wdS (txt.take (g.2 4)) (g.2 3)) (wdE (txt.take (g.2 4)) (wdS (txt.take (g.2 4)) (g.2 3))) = V9 at hQ
  unfold rdW at hV
  generalize hR : rmk true txt (g.2 4) (nMarks true + 1) 0 (wdS (txt.take (g.2 4)) (g.2 3)) (wdE (txt.take (g.2 4)) (wdS (txt.take (g.2 4)) (g.2 3))) = R9 at hV
  have LP : ∀ (k : Nat) (locs : List Loc) (n9 mq S1 W1 : Nat) (H5 : Heap), hLo (eB E) locs → (n9 < k) → (mq < 2 ^ nMarks true) → (bc mq + n9 = nMarks true + 1) → (g.2 3 ≤ S1 ∧ S1 ≤ g.2 4) → ((S1 < g.2 4 → wdE (txt.take (g.2 4)) S1 = W1 ∧ txt.getD S1 0 ≠ 32) ∧ W1 ≤ g.2 4) → (Mw E H H5 a ad (g.1, up (up g.2 5 S1) 6 W1)) → (rmk true txt (g.2 4) n9 mq S1 (wdE (txt.take (g.2 4)) S1) = R9) → ∀ ls, lv_has ls 8 [(4, .int (bI (decide (S1 < g.2 4)))), (3, .int (nI mq)), (0, .ref a), (1, .int (bI true)), (2, .int 216)] → W p l e (rmA 4 0 0) s m args below meth c H5 locs 0 0 Q (F0 m 8 ls []) := by
    intro k
    induction k with
    | zero => intro locs n9 mq S1 W1 H5 hlo hk hmq hbc hS hW M5 hR; exact absurd hk (by omega)
    | succ k ih =>
      intro locs n9 mq S1 W1 H5 hlo hk hmq hbc hS hW M5 hR ls hl
      have oM127 : hOb (eD E) classes H5 a 10 [.ref (ad 0), .int (nI (g.2 0)), .ref (ad 1), .int (nI (g.2 1)), .int (nI (g.2 2)), .ref (ad 2), .ref (ad 3), .ref (ad 4), .ref (ad 5), .ref (ad 6), .ref (ad 7), .ref (ad 8), .ref (ad 9), .ref (ad 10), .int (nI (g.2 3)), .int (nI (g.2 4)), .int (nI S1), .int (nI W1), .int (nI (g.2 7)), .ref (ad 11), .int (nI (g.2 8)), .int (nI (g.2 9)), .int (nI (g.2 10)), .ref (ad 12), .int (nI (g.2 11)), .ref (ad 13)] := M5.1.1
      have hb9 := bc_le hmq
      have h64 : mq < 64 := by have : nMarks true ≤ 5 := nMarks_le true; have : 2 ^ nMarks true ≤ 2 ^ 5 := Nat.pow_le_pow_right (by decide) this; omega
      obtain ⟨n8, rfl⟩ : ∃ n8, n9 = n8 + 1 := ⟨n9 - 1, by omega⟩
      unfold rmk at hR
      by_cases c1 : S1 < g.2 4
      · rw [decide_eq_true c1] at hl
        obtain ⟨hW1, hn1⟩ := hW.1 c1
        have hb1 := wdE_le (L := (txt.take (g.2 4))) (i := S1) (by omega)
        rw [hW1] at hR hb1
        have hml := mkH_lt true (wdO txt S1 W1)
        refine lv_iload cx.x cx.b d_Mo_words_8 (lv_at hl 0 rfl) ?_
        refine lv_if_eq (tgt := 61) cx.x cx.b d_Mo_words_10 (by decide) (fun c => absurd c (by decide)) (fun _ => ?_)
        refine lv_iload_n cx.x cx.b d_Mo_words_13 rfl (lv_at hl 3 rfl) ?_
        refine lv_aload_n cx.x cx.b d_Mo_words_14 rfl (lv_at hl 2 rfl) ?_
        refine hx_calll (iv_Mo_129_Mo cx (c_Mo_word l hE M5.1 hx hxc hxl (show S1 ≤ W1 by omega) (show W1 ≤ g.2 4 by omega) c1 hen) oM127 rfl hl.1 rfl (Nat.le_of_ble_eq_true rfl) d_Mo_words_15 ⟨Nat.le_of_ble_eq_true rfl, Nat.le_of_ble_eq_true rfl⟩ ⟨Nat.le_of_ble_eq_true rfl, Nat.le_of_ble_eq_true rfl⟩) hlo (fun _ h => h) (fun r136 H135 locs hp134 hlo => ?_)
        obtain ⟨hp134, hH9⟩ := hp134
        have hH9 := hH9.symm
        subst hH9
        have hp134 : r136 = lN (wrd (wdO txt S1 W1)) := hp134
        subst hp134
        refine hx_calli (iv_Mo_133 cx (c_Mo_mark_t l hE (H := H5) (wdO_okW hxc)) rfl hl.1 rfl (Nat.le_of_ble_eq_true rfl) d_Mo_words_18 ⟨Nat.le_of_ble_eq_true rfl, Nat.le_of_ble_eq_true rfl⟩ ⟨Nat.le_of_ble_eq_true rfl, Nat.le_of_ble_eq_true rfl⟩) hlo (fun _ h => h) (fun r139 H138 locs hp137 hlo => ?_)
        obtain ⟨hp137, hH9⟩ := hp137
        have hH9 := hH9.symm
        subst hH9
        subst hp137
        refine lv_if_le (tgt := 61) cx.x cx.b d_Mo_words_21 (by decide) (fun c2 => ?_) (fun c2 => ?_)
        · have c2 : (mkH true (wdO txt S1 W1)) ≤ 0 := (nI_leI (a := (mkH true (wdO txt S1 W1))) (b := 0) (by omega) (by omega)).mp c2
          rw [if_pos (by omega)] at hR
          subst hR
          have hV : (match kdH true (wdO txt S1 W1) with | none => (3, S1, W1, default) | some k => rdW1 true (g.2 7) txt (g.2 4) mq k W1) = V9 := hV
          refine lv_iload cx.x cx.b d_Mo_words_61 (lv_at hl 0 rfl) ?_
          refine lv_if_eq (tgt := 77) cx.x cx.b d_Mo_words_63 (by decide) (fun c => absurd c (by decide)) (fun _ => ?_)
          refine lv_iload_n cx.x cx.b d_Mo_words_66 rfl (lv_at hl 3 rfl) ?_
          refine lv_aload_n cx.x cx.b d_Mo_words_67 rfl (lv_at hl 2 rfl) ?_
          refine hx_calll (iv_Mo_129_Mo cx (c_Mo_word l hE M5.1 hx hxc hxl (show S1 ≤ W1 by omega) (show W1 ≤ g.2 4 by omega) c1 hen) oM127 rfl hl.1 rfl (Nat.le_of_ble_eq_true rfl) d_Mo_words_68 ⟨Nat.le_of_ble_eq_true rfl, Nat.le_of_ble_eq_true rfl⟩ ⟨Nat.le_of_ble_eq_true rfl, Nat.le_of_ble_eq_true rfl⟩) hlo (fun _ h => h) (fun r163 H162 locs hp161 hlo => ?_)
          obtain ⟨hp161, hH9⟩ := hp161
          have hH9 := hH9.symm
          subst hH9
          have hp161 : r163 = lN (wrd (wdO txt S1 W1)) := hp161
          subst hp161
          refine hx_calli (iv_Mo_140 cx (c_Mo_kindOf_t l hE (H := H5) (wdO_okW hxc)) rfl hl.1 rfl (Nat.le_of_ble_eq_true rfl) d_Mo_words_71 ⟨Nat.le_of_ble_eq_true rfl, Nat.le_of_ble_eq_true rfl⟩ ⟨Nat.le_of_ble_eq_true rfl, Nat.le_of_ble_eq_true rfl⟩) hlo (fun _ h => h) (fun r166 H165 locs hp164 hlo => ?_)
          obtain ⟨hp164, hH9⟩ := hp164
          have hH9 := hH9.symm
          subst hH9
          subst hp164
          refine lv_goto (tgt := 78) cx.x cx.b d_Mo_words_74 (by decide) ?_
          rcases k9 : kdH true (wdO txt S1 W1) with _ | k1
          · rw [k9] at hV
            have hV : (3, S1, W1, default) = V9 := hV
            refine lv_istore (lv' := [(5, .int (-1)), (4, .int (bI true)), (3, .int (nI mq)), (0, .ref a), (1, .int (bI true)), (2, .int 216)]) cx.x cx.b d_Mo_words_78 hl (by decide) rfl (fun ls hl => ?_)
            refine lv_iload cx.x cx.b d_Mo_words_80 (lv_at hl 0 rfl) ?_
            refine lv_if_ge (tgt := 91) cx.x cx.b d_Mo_words_82 (by decide) (fun c => absurd c (by decide)) (fun _ => ?_)
            refine lv_aload_n cx.x cx.b d_Mo_words_85 rfl (lv_at hl 3 rfl) ?_
            refine lv_iconst (v := 3) cx.x cx.b d_Mo_words_86 (by decide) ?_
            refine hx_calli (iv_Mo_137_Mo cx (c_Mo_fail l hE M5.1 (x := 3) (show g.2 3 ≤ g.2 4 by omega) (show g.2 3 ≤ S1 by omega) (show g.2 4 < 1000 by omega) (show S1 < 1000 by omega)) oM127 rfl hl.1 rfl (Nat.le_of_ble_eq_true rfl) d_Mo_words_87 ⟨Nat.le_of_ble_eq_true rfl, Nat.le_of_ble_eq_true rfl⟩ ⟨Nat.le_of_ble_eq_true rfl, Nat.le_of_ble_eq_true rfl⟩) hlo (fun _ h => h) (fun r169 H168 locs hp167 hlo => ?_)
            obtain ⟨rq_M170, q_M170⟩ := hp167
            have rq_M170 : r169 = 0 := rq_M170
            have M170 : Mw E H H168 a ad (g.1, up (up (up (up g.2 5 S1) 6 W1) 9 3) 10 ((if g.2 4 ≤ S1 then g.2 4 else S1) - g.2 3 + 1)) := Mw.cg (M5.tr q_M170) rfl rfl rfl rfl rfl rfl rfl rfl rfl rfl rfl rfl rfl rfl rfl rfl rfl rfl rfl rfl rfl rfl rfl rfl rfl rfl
            have oM171 : hOb (eD E) classes H168 a 10 [.ref (ad 0), .int (nI (g.2 0)), .ref (ad 1), .int (nI (g.2 1)), .int (nI (g.2 2)), .ref (ad 2), .ref (ad 3), .ref (ad 4), .ref (ad 5), .ref (ad 6), .ref (ad 7), .ref (ad 8), .ref (ad 9), .ref (ad 10), .int (nI (g.2 3)), .int (nI (g.2 4)), .int (nI S1), .int (nI W1), .int (nI (g.2 7)), .ref (ad 11), .int (nI (g.2 8)), .int (nI 3), .int (nI ((if g.2 4 ≤ S1 then g.2 4 else S1) - g.2 3 + 1)), .ref (ad 12), .int (nI (g.2 11)), .ref (ad 13)] := M170.1.1
            have i_M170 : (if g.2 4 ≤ S1 then g.2 4 else S1) = S1 := by by_cases z : g.2 4 ≤ S1; rw [if_pos z]; omega; rw [if_neg z]
            rw [i_M170] at M170
            have oM172 : hOb (eD E) classes H168 a 10 [.ref (ad 0), .int (nI (g.2 0)), .ref (ad 1), .int (nI (g.2 1)), .int (nI (g.2 2)), .ref (ad 2), .ref (ad 3), .ref (ad 4), .ref (ad 5), .ref (ad 6), .ref (ad 7), .ref (ad 8), .ref (ad 9), .ref (ad 10), .int (nI (g.2 3)), .int (nI (g.2 4)), .int (nI S1), .int (nI W1), .int (nI (g.2 7)), .ref (ad 11), .int (nI (g.2 8)), .int (nI 3), .int (nI (S1 - g.2 3 + 1)), .ref (ad 12), .int (nI (g.2 11)), .ref (ad 13)] := M170.1.1
            subst rq_M170
            subst hV
            rw [← hQ]
            exact hx_reti cx.x cx.b cx.r cx.k rfl hlo (fun _ h => h) (Nat.le_of_ble_eq_true rfl) (Nat.le_of_ble_eq_true rfl) d_Mo_words_90 (⟨_, M170, WdQ.no ⟨⟨rfl, rfl, rfl, rfl, rfl⟩, fun r hr => ⟨rfl, rfl, rfl, rfl, fun i hi => ⟨rfl, rfl⟩⟩, ⟨rfl, rfl, rfl, rfl, rfl, rfl⟩⟩ rfl (show (3 : Nat) ≠ 0 by decide) rfl rfl⟩)
          · rw [k9] at hV
            have hV : rdW1 true (g.2 7) txt (g.2 4) mq k1 W1 = V9 := hV
            have hkl : k1 < 4 := Nat.lt_of_lt_of_le (kdH_lt k9) (by decide)
            unfold rdW1 at hV
            refine lv_istore (lv' := [(5, .int (nI k1)), (4, .int (bI true)), (3, .int (nI mq)), (0, .ref a), (1, .int (bI true)), (2, .int 216)]) cx.x cx.b d_Mo_words_78 hl (by decide) rfl (fun ls hl => ?_)
            refine lv_iload cx.x cx.b d_Mo_words_80 (lv_at hl 0 rfl) ?_
            refine lv_if_ge (tgt := 91) cx.x cx.b d_Mo_words_82 (by decide) (fun _ => ?_) (fun c => absurd ((nI_leI (a := 0) (b := k1) (by omega) (by omega)).mpr (Nat.zero_le _)) c)
            refine lv_aload_n cx.x cx.b d_Mo_words_91 rfl (lv_at hl 3 rfl) ?_
            refine gf_Mo_34_Mo cx oM127 rfl d_Mo_words_92 ?_
            refine lv_iload_n cx.x cx.b d_Mo_words_95 rfl (lv_at hl 5 rfl) ?_
            refine lv_iload cx.x cx.b d_Mo_words_96 (lv_at hl 0 rfl) ?_
            refine hx_iast cx.x cx.b cx.K 0 (M5.1.2.1 8 (by decide)) hlo (M5.1.2.2.2.1 8 (by decide)).1 rfl (show vp_in (nI 216) 217 from vp_in_nI (show 216 < 217 by omega) (by decide)) d_Mo_words_98 (fun H173 locs ha174 z_H173 o_H173 hlo => ?_)
            have M175 : Mw E H H173 a ad (up g.1 8 (updN (g.1 8) 216 k1), up (up g.2 5 S1) 6 W1) := M5.ar (up g.1 8 (updN (g.1 8) 216 k1), up (up g.2 5 S1) 6 W1) 8 (by decide) (by have h9 := ha174; rw [show (216 : Int32).toNatClampNeg = 216 from nI_clamp (n := 216) (by omega)] at h9; have h9 : hAi H173 (ad 8) (eA E 0) (arL 8) (upd (fun i => nI ((g.1 8) i)) 216 (nI k1)) := h9; rw [upd_nI] at h9; exact h9) z_H173 o_H173 rfl (fun j hj hn => arN8 hj hn rfl rfl rfl rfl rfl rfl rfl rfl rfl rfl rfl rfl rfl)
            have oM176 : hOb (eD E) classes H173 a 10 [.ref (ad 0), .int (nI (g.2 0)), .ref (ad 1), .int (nI (g.2 1)), .int (nI (g.2 2)), .ref (ad 2), .ref (ad 3), .ref (ad 4), .ref (ad 5), .ref (ad 6), .ref (ad 7), .ref (ad 8), .ref (ad 9), .ref (ad 10), .int (nI (g.2 3)), .int (nI (g.2 4)), .int (nI S1), .int (nI W1), .int (nI (g.2 7)), .ref (ad 11), .int (nI (g.2 8)), .int (nI (g.2 9)), .int (nI (g.2 10)), .ref (ad 12), .int (nI (g.2 11)), .ref (ad 13)] := M175.1.1
            refine lv_aload_n cx.x cx.b d_Mo_words_99 rfl (lv_at hl 3 rfl) ?_
            refine gf_Mo_37_Mo cx oM176 rfl d_Mo_words_100 ?_
            refine lv_iload_n cx.x cx.b d_Mo_words_103 rfl (lv_at hl 5 rfl) ?_
            refine lv_iload_n cx.x cx.b d_Mo_words_104 rfl (lv_at hl 2 rfl) ?_
            refine hx_iast cx.x cx.b cx.K 0 (M175.1.2.1 9 (by decide)) hlo (M175.1.2.2.2.1 9 (by decide)).1 rfl (show vp_in (nI 216) 217 from vp_in_nI (show 216 < 217 by omega) (by decide)) d_Mo_words_105 (fun H177 locs ha178 z_H177 o_H177 hlo => ?_)
            have M179 : Mw E H H177 a ad (up (up g.1 8 (updN (g.1 8) 216 k1)) 9 (updN (g.1 9) 216 mq), up (up g.2 5 S1) 6 W1) := M175.ar (up (up g.1 8 (updN (g.1 8) 216 k1)) 9 (updN (g.1 9) 216 mq), up (up g.2 5 S1) 6 W1) 9 (by decide) (by have h9 := ha178; rw [show (216 : Int32).toNatClampNeg = 216 from nI_clamp (n := 216) (by omega)] at h9; have h9 : hAi H177 (ad 9) (eA E 0) (arL 9) (upd (fun i => nI ((g.1 9) i)) 216 (nI mq)) := h9; rw [upd_nI] at h9; exact h9) z_H177 o_H177 rfl (fun j hj hn => arN9 hj hn rfl rfl rfl rfl rfl rfl rfl rfl rfl rfl rfl rfl rfl)
            have oM180 : hOb (eD E) classes H177 a 10 [.ref (ad 0), .int (nI (g.2 0)), .ref (ad 1), .int (nI (g.2 1)), .int (nI (g.2 2)), .ref (ad 2), .ref (ad 3), .ref (ad 4), .ref (ad 5), .ref (ad 6), .ref (ad 7), .ref (ad 8), .ref (ad 9), .ref (ad 10), .int (nI (g.2 3)), .int (nI (g.2 4)), .int (nI S1), .int (nI W1), .int (nI (g.2 7)), .ref (ad 11), .int (nI (g.2 8)), .int (nI (g.2 9)), .int (nI (g.2 10)), .ref (ad 12), .int (nI (g.2 11)), .ref (ad 13)] := M179.1.1
            refine lv_aload_n cx.x cx.b d_Mo_words_106 rfl (lv_at hl 3 rfl) ?_
            refine hx_calli (iv_Mo_125_Mo cx (c_Mo_next l hE M179.1 hx hxc hxl (show W1 ≤ g.2 4 by omega) hen) oM180 rfl hl.1 rfl (Nat.le_of_ble_eq_true rfl) d_Mo_words_107 ⟨Nat.le_of_ble_eq_true rfl, Nat.le_of_ble_eq_true rfl⟩ ⟨Nat.le_of_ble_eq_true rfl, Nat.le_of_ble_eq_true rfl⟩) hlo (fun _ h => h) (fun r183 H182 locs hp181 hlo => ?_)
            obtain ⟨rq_M184, q_M184⟩ := hp181
            have rq_M184 : r183 = bI (decide (wdS (txt.take (g.2 4)) W1 < g.2 4)) := rq_M184
            have M184 : Mw E H H182 a ad (up (up g.1 8 (updN (g.1 8) 216 k1)) 9 (updN (g.1 9) 216 mq), up (up g.2 5 (wdS (txt.take (g.2 4)) W1)) 6 (if wdS (txt.take (g.2 4)) W1 < g.2 4 then wdE (txt.take (g.2 4)) (wdS (txt.take (g.2 4)) W1) else W1)) := Mw.cg (M179.tr q_M184) rfl rfl rfl rfl rfl rfl rfl rfl rfl rfl rfl rfl rfl rfl rfl rfl rfl rfl rfl rfl rfl rfl rfl rfl rfl rfl
            have oM185 : hOb (eD E) classes H182 a 10 [.ref (ad 0), .int (nI (g.2 0)), .ref (ad 1), .int (nI (g.2 1)), .int (nI (g.2 2)), .ref (ad 2), .ref (ad 3), .ref (ad 4), .ref (ad 5), .ref (ad 6), .ref (ad 7), .ref (ad 8), .ref (ad 9), .ref (ad 10), .int (nI (g.2 3)), .int (nI (g.2 4)), .int (nI (wdS (txt.take (g.2 4)) W1)), .int (nI (if wdS (txt.take (g.2 4)) W1 < g.2 4 then wdE (txt.take (g.2 4)) (wdS (txt.take (g.2 4)) W1) else W1)), .int (nI (g.2 7)), .ref (ad 11), .int (nI (g.2 8)), .int (nI (g.2 9)), .int (nI (g.2 10)), .ref (ad 12), .int (nI (g.2 11)), .ref (ad 13)] := M184.1.1
            have a_S2 := wdS_le (L := (txt.take (g.2 4))) (i := W1) (by omega)
            have n_S2 := wdS_not (i := W1) hen (g.2 4 - W1) rfl (by omega)
            have b_S2 := wdE_le (L := (txt.take (g.2 4))) (i := wdS (txt.take (g.2 4)) W1) (by omega)
            generalize h_S2 : wdS (txt.take (g.2 4)) W1 = S2 at rq_M184 M184 a_S2 n_S2 b_S2 hV
            by_cases c_S2 : S2 < g.2 4
            · rw [if_pos c_S2] at M184
              rw [decide_eq_true c_S2] at rq_M184
              subst rq_M184
              have oM186 : hOb (eD E) classes H182 a 10 [.ref (ad 0), .int (nI (g.2 0)), .ref (ad 1), .int (nI (g.2 1)), .int (nI (g.2 2)), .ref (ad 2), .ref (ad 3), .ref (ad 4), .ref (ad 5), .ref (ad 6), .ref (ad 7), .ref (ad 8), .ref (ad 9), .ref (ad 10), .int (nI (g.2 3)), .int (nI (g.2 4)), .int (nI S2), .int (nI (wdE (txt.take (g.2 4)) S2)), .int (nI (g.2 7)), .ref (ad 11), .int (nI (g.2 8)), .int (nI (g.2 9)), .int (nI (g.2 10)), .ref (ad 12), .int (nI (g.2 11)), .ref (ad 13)] := M184.1.1
              refine lv_if_eq (tgt := 124) cx.x cx.b d_Mo_words_110 (by decide) (fun c => absurd c (by decide)) (fun _ => ?_)
              generalize h_W2 : wdE (txt.take (g.2 4)) S2 = W2 at hV b_S2 M184
              have oM194 : hOb (eD E) classes H182 a 10 [.ref (ad 0), .int (nI (g.2 0)), .ref (ad 1), .int (nI (g.2 1)), .int (nI (g.2 2)), .ref (ad 2), .ref (ad 3), .ref (ad 4), .ref (ad 5), .ref (ad 6), .ref (ad 7), .ref (ad 8), .ref (ad 9), .ref (ad 10), .int (nI (g.2 3)), .int (nI (g.2 4)), .int (nI S2), .int (nI W2), .int (nI (g.2 7)), .ref (ad 11), .int (nI (g.2 8)), .int (nI (g.2 9)), .int (nI (g.2 10)), .ref (ad 12), .int (nI (g.2 11)), .ref (ad 13)] := M184.1.1
              have be2 := bef2 hen (by omega) hW1 h_S2 c_S2
              have af2 := aft2 hen (by omega) h_W2 haf
              rw [tkN_eq hfm (by omega) (by omega) be2 af2] at hV
              refine lv_aload_n cx.x cx.b d_Mo_words_113 rfl (lv_at hl 3 rfl) ?_
              refine hx_calli (iv_Mo_143_Mo cx (c_Mo_take l hE M184.1 hx hxc hxl (show S2 ≤ W2 by omega) (show W2 ≤ txt.length by omega) hfm) oM194 rfl hl.1 rfl (Nat.le_of_ble_eq_true rfl) d_Mo_words_114 ⟨Nat.le_of_ble_eq_true rfl, Nat.le_of_ble_eq_true rfl⟩ ⟨Nat.le_of_ble_eq_true rfl, Nat.le_of_ble_eq_true rfl⟩) hlo (fun _ h => h) (fun r197 H196 locs hp195 hlo => ?_)
              obtain ⟨P_a, n_a, q_M198, r_a, z_a, w_a⟩ := hp195
              have r_a : r197 = bI (tkL (g.2 7) (wdO txt S2 W2)).isSome := r_a
              have w_a : ∀ L, tkL (g.2 7) (wdO txt S2 W2) = some L → n_a = L.length ∧ ∀ i, i < L.length → P_a i = L.getD i 0 := w_a
              have M198 : Mw E H H196 a ad (up (up (up g.1 8 (updN (g.1 8) 216 k1)) 9 (updN (g.1 9) 216 mq)) 11 P_a, up (up (up g.2 5 S2) 6 W2) 8 n_a) := Mw.cg (M184.tr q_M198) rfl rfl rfl rfl rfl rfl rfl rfl rfl rfl rfl rfl rfl rfl rfl rfl rfl rfl rfl rfl rfl rfl rfl rfl rfl rfl
              subst r_a
              rcases k_a : tkL (g.2 7) (wdO txt S2 W2) with _ | L_a
              · rw [show (none : Option (List Nat)).isSome = false from rfl]
                have oM199 : hOb (eD E) classes H196 a 10 [.ref (ad 0), .int (nI (g.2 0)), .ref (ad 1), .int (nI (g.2 1)), .int (nI (g.2 2)), .ref (ad 2), .ref (ad 3), .ref (ad 4), .ref (ad 5), .ref (ad 6), .ref (ad 7), .ref (ad 8), .ref (ad 9), .ref (ad 10), .int (nI (g.2 3)), .int (nI (g.2 4)), .int (nI S2), .int (nI W2), .int (nI (g.2 7)), .ref (ad 11), .int (nI n_a), .int (nI (g.2 9)), .int (nI (g.2 10)), .ref (ad 12), .int (nI (g.2 11)), .ref (ad 13)] := M198.1.1
                rw [tkN_none k_a] at hV
                rw [if_neg (by decide)] at hV
                refine lv_if_eq (tgt := 124) cx.x cx.b d_Mo_words_117 (by decide) (fun _ => ?_) (fun c => absurd (by decide) c)
                refine lv_iconst (v := 0) cx.x cx.b d_Mo_words_124 (by decide) ?_
                refine lv_istore (lv' := [(6, .int 0), (5, .int (nI k1)), (4, .int (bI true)), (3, .int (nI mq)), (0, .ref a), (1, .int (bI true)), (2, .int 216)]) cx.x cx.b d_Mo_words_125 hl (by decide) rfl (fun ls hl => ?_)
                refine lv_iload cx.x cx.b d_Mo_words_127 (lv_at hl 0 rfl) ?_
                refine lv_if_eq (tgt := 171) cx.x cx.b d_Mo_words_129 (by decide) (fun _ => ?_) (fun c => absurd (by decide) c)
                refine lv_aload_n cx.x cx.b d_Mo_words_171 rfl (lv_at hl 4 rfl) ?_
                refine lv_iconst (v := 4) cx.x cx.b d_Mo_words_172 (by decide) ?_
                refine hx_calli (iv_Mo_137_Mo cx (c_Mo_fail l hE M198.1 (x := 4) (show g.2 3 ≤ g.2 4 by omega) (show g.2 3 ≤ S2 by omega) (show g.2 4 < 1000 by omega) (show S2 < 1000 by omega)) oM199 rfl hl.1 rfl (Nat.le_of_ble_eq_true rfl) d_Mo_words_173 ⟨Nat.le_of_ble_eq_true rfl, Nat.le_of_ble_eq_true rfl⟩ ⟨Nat.le_of_ble_eq_true rfl, Nat.le_of_ble_eq_true rfl⟩) hlo (fun _ h => h) (fun r202 H201 locs hp200 hlo => ?_)
                obtain ⟨rq_M203, q_M203⟩ := hp200
                have rq_M203 : r202 = 0 := rq_M203
                have M203 : Mw E H H201 a ad (up (up (up g.1 8 (updN (g.1 8) 216 k1)) 9 (updN (g.1 9) 216 mq)) 11 P_a, up (up (up (up (up g.2 5 S2) 6 W2) 8 n_a) 9 4) 10 ((if g.2 4 ≤ S2 then g.2 4 else S2) - g.2 3 + 1)) := Mw.cg (M198.tr q_M203) rfl rfl rfl rfl rfl rfl rfl rfl rfl rfl rfl rfl rfl rfl rfl rfl rfl rfl rfl rfl rfl rfl rfl rfl rfl rfl
                have oM204 : hOb (eD E) classes H201 a 10 [.ref (ad 0), .int (nI (g.2 0)), .ref (ad 1), .int (nI (g.2 1)), .int (nI (g.2 2)), .ref (ad 2), .ref (ad 3), .ref (ad 4), .ref (ad 5), .ref (ad 6), .ref (ad 7), .ref (ad 8), .ref (ad 9), .ref (ad 10), .int (nI (g.2 3)), .int (nI (g.2 4)), .int (nI S2), .int (nI W2), .int (nI (g.2 7)), .ref (ad 11), .int (nI n_a), .int (nI 4), .int (nI ((if g.2 4 ≤ S2 then g.2 4 else S2) - g.2 3 + 1)), .ref (ad 12), .int (nI (g.2 11)), .ref (ad 13)] := M203.1.1
                have i_M203 : (if g.2 4 ≤ S2 then g.2 4 else S2) = S2 := by by_cases z : g.2 4 ≤ S2; rw [if_pos z]; omega; rw [if_neg z]
                rw [i_M203] at M203
                have oM205 : hOb (eD E) classes H201 a 10 [.ref (ad 0), .int (nI (g.2 0)), .ref (ad 1), .int (nI (g.2 1)), .int (nI (g.2 2)), .ref (ad 2), .ref (ad 3), .ref (ad 4), .ref (ad 5), .ref (ad 6), .ref (ad 7), .ref (ad 8), .ref (ad 9), .ref (ad 10), .int (nI (g.2 3)), .int (nI (g.2 4)), .int (nI S2), .int (nI W2), .int (nI (g.2 7)), .ref (ad 11), .int (nI n_a), .int (nI 4), .int (nI (S2 - g.2 3 + 1)), .ref (ad 12), .int (nI (g.2 11)), .ref (ad 13)] := M203.1.1
                subst rq_M203
                subst hV
                rw [← hQ]
                exact hx_reti cx.x cx.b cx.r cx.k rfl hlo (fun _ h => h) (Nat.le_of_ble_eq_true rfl) (Nat.le_of_ble_eq_true rfl) d_Mo_words_176 (⟨_, M203, WdQ.no ⟨⟨rfl, rfl, rfl, rfl, rfl⟩, fun r hr => ⟨rfl, rfl, (show (updN (g.1 8) 216 k1) r = g.1 8 r from updN_n (by omega)), (show (updN (g.1 9) 216 mq) r = g.1 9 r from updN_n (by omega)), fun i hi => ⟨rfl, rfl⟩⟩, ⟨rfl, rfl, rfl, rfl, rfl, rfl⟩⟩ rfl (show (4 : Nat) ≠ 0 by decide) rfl rfl⟩)
              · rw [show (some L_a).isSome = true from rfl]
                obtain ⟨e_a, p_a⟩ := w_a L_a k_a
                subst e_a
                have oM206 : hOb (eD E) classes H196 a 10 [.ref (ad 0), .int (nI (g.2 0)), .ref (ad 1), .int (nI (g.2 1)), .int (nI (g.2 2)), .ref (ad 2), .ref (ad 3), .ref (ad 4), .ref (ad 5), .ref (ad 6), .ref (ad 7), .ref (ad 8), .ref (ad 9), .ref (ad 10), .int (nI (g.2 3)), .int (nI (g.2 4)), .int (nI S2), .int (nI W2), .int (nI (g.2 7)), .ref (ad 11), .int (nI L_a.length), .int (nI (g.2 9)), .int (nI (g.2 10)), .ref (ad 12), .int (nI (g.2 11)), .ref (ad 13)] := M198.1.1
                obtain ⟨l_a, o_a⟩ := tkL_ok (fun c hc => (wdO_okW hxc c hc).2) k_a
                refine lv_if_eq (tgt := 124) cx.x cx.b d_Mo_words_117 (by decide) (fun c => absurd c (by decide)) (fun _ => ?_)
                refine lv_iconst (v := 1) cx.x cx.b d_Mo_words_120 (by decide) ?_
                refine lv_goto (tgt := 125) cx.x cx.b d_Mo_words_121 (by decide) ?_
                refine lv_istore (lv' := [(6, .int 1), (5, .int (nI k1)), (4, .int (bI true)), (3, .int (nI mq)), (0, .ref a), (1, .int (bI true)), (2, .int 216)]) cx.x cx.b d_Mo_words_125 hl (by decide) rfl (fun ls hl => ?_)
                refine lv_iload cx.x cx.b d_Mo_words_127 (lv_at hl 0 rfl) ?_
                refine lv_if_eq (tgt := 171) cx.x cx.b d_Mo_words_129 (by decide) (fun c => absurd c (by decide)) (fun _ => ?_)
                rw [(tk_cnR hfm (by omega) (by omega) be2 af2).1 _ k_a] at hV
                have NM : ∀ (locs : List Loc) , hLo (eB E) locs → (tkN true k1 (g.2 7) (wdO txt S2 W2) = true) → ∀ ls, lv_has ls 8 [(5, .int (nI k1)), (3, .int (nI mq)), (0, .ref a), (1, .int (bI true)), (2, .int 216)] → W p l e (rmA 4 0 0) s m args below meth c H196 locs 0 0 Q (F0 m 177 ls []) := by
                  intro locs  hlo htk ls hl
                  rw [if_pos htk] at hV
                  unfold rdW2 at hV
                  rw [if_pos rfl] at hV
                  refine lv_aload_n cx.x cx.b d_Mo_words_177 rfl (lv_at hl 2 rfl) ?_
                  refine gf_Mo_28_Mo cx oM206 rfl d_Mo_words_178 ?_
                  refine lv_iload_n cx.x cx.b d_Mo_words_181 rfl (lv_at hl 4 rfl) ?_
                  refine lv_aload_n cx.x cx.b d_Mo_words_182 rfl (lv_at hl 2 rfl) ?_
                  refine gf_Mo_95_Mo cx oM206 rfl d_Mo_words_183 ?_
                  refine hx_iast cx.x cx.b cx.K 0 (M198.1.2.1 6 (by decide)) hlo (M198.1.2.2.2.1 6 (by decide)).1 rfl (show vp_in (nI 216) 217 from vp_in_nI (show 216 < 217 by omega) (by decide)) d_Mo_words_186 (fun H207 locs ha208 z_H207 o_H207 hlo => ?_)
                  have M209 : Mw E H H207 a ad (up (up (up (up g.1 6 (updN (g.1 6) 216 L_a.length)) 8 (updN (g.1 8) 216 k1)) 9 (updN (g.1 9) 216 mq)) 11 P_a, up (up (up g.2 5 S2) 6 W2) 8 L_a.length) := M198.ar (up (up (up (up g.1 6 (updN (g.1 6) 216 L_a.length)) 8 (updN (g.1 8) 216 k1)) 9 (updN (g.1 9) 216 mq)) 11 P_a, up (up (up g.2 5 S2) 6 W2) 8 L_a.length) 6 (by decide) (by have h9 := ha208; rw [show (216 : Int32).toNatClampNeg = 216 from nI_clamp (n := 216) (by omega)] at h9; have h9 : hAi H207 (ad 6) (eA E 0) (arL 6) (upd (fun i => nI ((g.1 6) i)) 216 (nI L_a.length)) := h9; rw [upd_nI] at h9; exact h9) z_H207 o_H207 rfl (fun j hj hn => arN6 hj hn rfl rfl rfl rfl rfl rfl rfl rfl rfl rfl rfl rfl rfl)
                  have oM210 : hOb (eD E) classes H207 a 10 [.ref (ad 0), .int (nI (g.2 0)), .ref (ad 1), .int (nI (g.2 1)), .int (nI (g.2 2)), .ref (ad 2), .ref (ad 3), .ref (ad 4), .ref (ad 5), .ref (ad 6), .ref (ad 7), .ref (ad 8), .ref (ad 9), .ref (ad 10), .int (nI (g.2 3)), .int (nI (g.2 4)), .int (nI S2), .int (nI W2), .int (nI (g.2 7)), .ref (ad 11), .int (nI L_a.length), .int (nI (g.2 9)), .int (nI (g.2 10)), .ref (ad 12), .int (nI (g.2 11)), .ref (ad 13)] := M209.1.1
                  refine lv_iconst (v := 0) cx.x cx.b d_Mo_words_187 (by decide) ?_
                  refine lv_istore (lv' := [(7, .int 0), (5, .int (nI k1)), (3, .int (nI mq)), (0, .ref a), (1, .int (bI true)), (2, .int 216)]) cx.x cx.b d_Mo_words_188 hl (by decide) rfl (fun ls hl => ?_)
                  have CP_a : ∀ (k : Nat) (locs : List Loc) (j1 : Nat) (N9 : Nat → Nat) (H6 : Heap), hLo (eB E) locs → (L_a.length - j1 < k) → (j1 ≤ L_a.length) → (Mw E H H6 a ad (up (up (up (up (up g.1 4 N9) 6 (updN (g.1 6) 216 L_a.length)) 8 (updN (g.1 8) 216 k1)) 9 (updN (g.1 9) 216 mq)) 11 P_a, up (up (up g.2 5 S2) 6 W2) 8 L_a.length)) → (∀ i, i < 4320 → N9 i = g.1 4 i) → (∀ i, i < j1 → N9 (20 * 216 + i) = L_a.getD i 0) → ∀ ls, lv_has ls 8 [(7, .int (nI j1)), (5, .int (nI k1)), (0, .ref a), (1, .int (bI true)), (2, .int 216)] → W p l e (rmA 4 0 0) s m args below meth c H6 locs 0 0 Q (F0 m 190 ls []) := by
                    intro k
                    induction k with
                    | zero => intro locs j1 N9 H6 hlo hk hj1 M6 hN9 hC_a; exact absurd hk (by omega)
                    | succ k ih =>
                      intro locs j1 N9 H6 hlo hk hj1 M6 hN9 hC_a ls hl
                      have oM211 : hOb (eD E) classes H6 a 10 [.ref (ad 0), .int (nI (g.2 0)), .ref (ad 1), .int (nI (g.2 1)), .int (nI (g.2 2)), .ref (ad 2), .ref (ad 3), .ref (ad 4), .ref (ad 5), .ref (ad 6), .ref (ad 7), .ref (ad 8), .ref (ad 9), .ref (ad 10), .int (nI (g.2 3)), .int (nI (g.2 4)), .int (nI S2), .int (nI W2), .int (nI (g.2 7)), .ref (ad 11), .int (nI L_a.length), .int (nI (g.2 9)), .int (nI (g.2 10)), .ref (ad 12), .int (nI (g.2 11)), .ref (ad 13)] := M6.1.1
                      refine lv_iload cx.x cx.b d_Mo_words_190 (lv_at hl 0 rfl) ?_
                      refine lv_aload_n cx.x cx.b d_Mo_words_192 rfl (lv_at hl 2 rfl) ?_
                      refine gf_Mo_95_Mo cx oM211 rfl d_Mo_words_193 ?_
                      refine lv_icmp_ge (tgt := 224) cx.x cx.b d_Mo_words_196 (by decide) (fun c8 => ?_) (fun c8 => ?_)
                      · have c8 : L_a.length ≤ j1 := (nI_leI (a := L_a.length) (b := j1) (by omega) (by omega)).mp c8
                        have hC_a : ∀ i, i < L_a.length → N9 (20 * 216 + i) = L_a.getD i 0 := fun i hi => hC_a i (by omega)
                        refine lv_aload_n cx.x cx.b d_Mo_words_224 rfl (lv_at hl 2 rfl) ?_
                        refine gf_Mo_31_Mo cx oM211 rfl d_Mo_words_225 ?_
                        refine lv_iload_n cx.x cx.b d_Mo_words_228 rfl (lv_at hl 4 rfl) ?_
                        refine lv_iconst (v := 0) cx.x cx.b d_Mo_words_229 (by decide) ?_
                        refine hx_iast cx.x cx.b cx.K 0 (M6.1.2.1 7 (by decide)) hlo (M6.1.2.2.2.1 7 (by decide)).1 rfl (show vp_in (nI 216) 217 from vp_in_nI (show 216 < 217 by omega) (by decide)) d_Mo_words_230 (fun H212 locs ha213 z_H212 o_H212 hlo => ?_)
                        have M214 : Mw E H H212 a ad (up (up (up (up (up (up g.1 4 N9) 6 (updN (g.1 6) 216 L_a.length)) 7 (updN (g.1 7) 216 0)) 8 (updN (g.1 8) 216 k1)) 9 (updN (g.1 9) 216 mq)) 11 P_a, up (up (up g.2 5 S2) 6 W2) 8 L_a.length) := M6.ar (up (up (up (up (up (up g.1 4 N9) 6 (updN (g.1 6) 216 L_a.length)) 7 (updN (g.1 7) 216 0)) 8 (updN (g.1 8) 216 k1)) 9 (updN (g.1 9) 216 mq)) 11 P_a, up (up (up g.2 5 S2) 6 W2) 8 L_a.length) 7 (by decide) (by have h9 := ha213; rw [show (216 : Int32).toNatClampNeg = 216 from nI_clamp (n := 216) (by omega)] at h9; have h9 : hAi H212 (ad 7) (eA E 0) (arL 7) (upd (fun i => nI ((g.1 7) i)) 216 (nI 0)) := h9; rw [upd_nI] at h9; exact h9) z_H212 o_H212 rfl (fun j hj hn => arN7 hj hn rfl rfl rfl rfl rfl rfl rfl rfl rfl rfl rfl rfl rfl)
                        have oM215 : hOb (eD E) classes H212 a 10 [.ref (ad 0), .int (nI (g.2 0)), .ref (ad 1), .int (nI (g.2 1)), .int (nI (g.2 2)), .ref (ad 2), .ref (ad 3), .ref (ad 4), .ref (ad 5), .ref (ad 6), .ref (ad 7), .ref (ad 8), .ref (ad 9), .ref (ad 10), .int (nI (g.2 3)), .int (nI (g.2 4)), .int (nI S2), .int (nI W2), .int (nI (g.2 7)), .ref (ad 11), .int (nI L_a.length), .int (nI (g.2 9)), .int (nI (g.2 10)), .ref (ad 12), .int (nI (g.2 11)), .ref (ad 13)] := M214.1.1
                        refine lv_iload_n cx.x cx.b d_Mo_words_231 rfl (lv_at hl 3 rfl) ?_
                        refine lv_if_eq (tgt := 342) cx.x cx.b d_Mo_words_232 (by decide) (fun c => absurd c (by decide)) (fun _ => ?_)
                        refine lv_aload_n cx.x cx.b d_Mo_words_235 rfl (lv_at hl 2 rfl) ?_
                        refine hx_calli (iv_Mo_125_Mo cx (c_Mo_next l hE M214.1 hx hxc hxl (show W2 ≤ g.2 4 by omega) hen) oM215 rfl hl.1 rfl (Nat.le_of_ble_eq_true rfl) d_Mo_words_236 ⟨Nat.le_of_ble_eq_true rfl, Nat.le_of_ble_eq_true rfl⟩ ⟨Nat.le_of_ble_eq_true rfl, Nat.le_of_ble_eq_true rfl⟩) hlo (fun _ h => h) (fun r218 H217 locs hp216 hlo => ?_)
                        obtain ⟨rq_M219, q_M219⟩ := hp216
                        have rq_M219 : r218 = bI (decide (wdS (txt.take (g.2 4)) W2 < g.2 4)) := rq_M219
                        have M219 : Mw E H H217 a ad (up (up (up (up (up (up g.1 4 N9) 6 (updN (g.1 6) 216 L_a.length)) 7 (updN (g.1 7) 216 0)) 8 (updN (g.1 8) 216 k1)) 9 (updN (g.1 9) 216 mq)) 11 P_a, up (up (up g.2 5 (wdS (txt.take (g.2 4)) W2)) 6 (if wdS (txt.take (g.2 4)) W2 < g.2 4 then wdE (txt.take (g.2 4)) (wdS (txt.take (g.2 4)) W2) else W2)) 8 L_a.length) := Mw.cg (M214.tr q_M219) rfl rfl rfl rfl rfl rfl rfl rfl rfl rfl rfl rfl rfl rfl rfl rfl rfl rfl rfl rfl rfl rfl rfl rfl rfl rfl
                        have oM220 : hOb (eD E) classes H217 a 10 [.ref (ad 0), .int (nI (g.2 0)), .ref (ad 1), .int (nI (g.2 1)), .int (nI (g.2 2)), .ref (ad 2), .ref (ad 3), .ref (ad 4), .ref (ad 5), .ref (ad 6), .ref (ad 7), .ref (ad 8), .ref (ad 9), .ref (ad 10), .int (nI (g.2 3)), .int (nI (g.2 4)), .int (nI (wdS (txt.take (g.2 4)) W2)), .int (nI (if wdS (txt.take (g.2 4)) W2 < g.2 4 then wdE (txt.take (g.2 4)) (wdS (txt.take (g.2 4)) W2) else W2)), .int (nI (g.2 7)), .ref (ad 11), .int (nI L_a.length), .int (nI (g.2 9)), .int (nI (g.2 10)), .ref (ad 12), .int (nI (g.2 11)), .ref (ad 13)] := M219.1.1
                        have a_S3 := wdS_le (L := (txt.take (g.2 4))) (i := W2) (by omega)
                        have n_S3 := wdS_not (i := W2) hen (g.2 4 - W2) rfl (by omega)
                        have b_S3 := wdE_le (L := (txt.take (g.2 4))) (i := wdS (txt.take (g.2 4)) W2) (by omega)
                        generalize h_S3 : wdS (txt.take (g.2 4)) W2 = S3 at rq_M219 M219 a_S3 n_S3 b_S3 hV
                        by_cases c_S3 : S3 < g.2 4
                        · rw [if_pos c_S3] at M219
                          rw [decide_eq_true c_S3] at rq_M219
                          subst rq_M219
                          have oM221 : hOb (eD E) classes H217 a 10 [.ref (ad 0), .int (nI (g.2 0)), .ref (ad 1), .int (nI (g.2 1)), .int (nI (g.2 2)), .ref (ad 2), .ref (ad 3), .ref (ad 4), .ref (ad 5), .ref (ad 6), .ref (ad 7), .ref (ad 8), .ref (ad 9), .ref (ad 10), .int (nI (g.2 3)), .int (nI (g.2 4)), .int (nI S3), .int (nI (wdE (txt.take (g.2 4)) S3)), .int (nI (g.2 7)), .ref (ad 11), .int (nI L_a.length), .int (nI (g.2 9)), .int (nI (g.2 10)), .ref (ad 12), .int (nI (g.2 11)), .ref (ad 13)] := M219.1.1
                          refine lv_if_eq (tgt := 253) cx.x cx.b d_Mo_words_239 (by decide) (fun c => absurd c (by decide)) (fun _ => ?_)
                          generalize h_W3 : wdE (txt.take (g.2 4)) S3 = W3 at hV b_S3 M219
                          have oM229 : hOb (eD E) classes H217 a 10 [.ref (ad 0), .int (nI (g.2 0)), .ref (ad 1), .int (nI (g.2 1)), .int (nI (g.2 2)), .ref (ad 2), .ref (ad 3), .ref (ad 4), .ref (ad 5), .ref (ad 6), .ref (ad 7), .ref (ad 8), .ref (ad 9), .ref (ad 10), .int (nI (g.2 3)), .int (nI (g.2 4)), .int (nI S3), .int (nI W3), .int (nI (g.2 7)), .ref (ad 11), .int (nI L_a.length), .int (nI (g.2 9)), .int (nI (g.2 10)), .ref (ad 12), .int (nI (g.2 11)), .ref (ad 13)] := M219.1.1
                          have be3 := bef2 hen (by omega) h_W2 h_S3 c_S3
                          have af3 := aft2 hen (by omega) h_W3 haf
                          rw [tkD_eq hfm (by omega) (by omega) be3 af3] at hV
                          refine lv_aload_n cx.x cx.b d_Mo_words_242 rfl (lv_at hl 2 rfl) ?_
                          refine hx_calli (iv_Mo_143_Mo cx (c_Mo_take l hE M219.1 hx hxc hxl (show S3 ≤ W3 by omega) (show W3 ≤ txt.length by omega) hfm) oM229 rfl hl.1 rfl (Nat.le_of_ble_eq_true rfl) d_Mo_words_243 ⟨Nat.le_of_ble_eq_true rfl, Nat.le_of_ble_eq_true rfl⟩ ⟨Nat.le_of_ble_eq_true rfl, Nat.le_of_ble_eq_true rfl⟩) hlo (fun _ h => h) (fun r232 H231 locs hp230 hlo => ?_)
                          obtain ⟨P_b, n_b, q_M233, r_b, z_b, w_b⟩ := hp230
                          have r_b : r232 = bI (tkL (g.2 7) (wdO txt S3 W3)).isSome := r_b
                          have w_b : ∀ L, tkL (g.2 7) (wdO txt S3 W3) = some L → n_b = L.length ∧ ∀ i, i < L.length → P_b i = L.getD i 0 := w_b
                          have M233 : Mw E H H231 a ad (up (up (up (up (up (up g.1 4 N9) 6 (updN (g.1 6) 216 L_a.length)) 7 (updN (g.1 7) 216 0)) 8 (updN (g.1 8) 216 k1)) 9 (updN (g.1 9) 216 mq)) 11 P_b, up (up (up g.2 5 S3) 6 W3) 8 n_b) := Mw.cg (M219.tr q_M233) rfl rfl rfl rfl rfl rfl rfl rfl rfl rfl rfl rfl rfl rfl rfl rfl rfl rfl rfl rfl rfl rfl rfl rfl rfl rfl
                          subst r_b
                          rcases k_b : tkL (g.2 7) (wdO txt S3 W3) with _ | L_b
                          · rw [show (none : Option (List Nat)).isSome = false from rfl]
                            have oM234 : hOb (eD E) classes H231 a 10 [.ref (ad 0), .int (nI (g.2 0)), .ref (ad 1), .int (nI (g.2 1)), .int (nI (g.2 2)), .ref (ad 2), .ref (ad 3), .ref (ad 4), .ref (ad 5), .ref (ad 6), .ref (ad 7), .ref (ad 8), .ref (ad 9), .ref (ad 10), .int (nI (g.2 3)), .int (nI (g.2 4)), .int (nI S3), .int (nI W3), .int (nI (g.2 7)), .ref (ad 11), .int (nI n_b), .int (nI (g.2 9)), .int (nI (g.2 10)), .ref (ad 12), .int (nI (g.2 11)), .ref (ad 13)] := M233.1.1
                            rw [tkD_none k_b, if_neg (by decide)] at hV
                            refine lv_if_eq (tgt := 253) cx.x cx.b d_Mo_words_246 (by decide) (fun _ => ?_) (fun c => absurd (by decide) c)
                            refine lv_iconst (v := 0) cx.x cx.b d_Mo_words_253 (by decide) ?_
                            refine lv_istore (lv' := [(6, .int 0), (7, .int (nI j1)), (5, .int (nI k1)), (0, .ref a), (1, .int (bI true)), (2, .int 216)]) cx.x cx.b d_Mo_words_254 hl (by decide) rfl (fun ls hl => ?_)
                            refine lv_iload cx.x cx.b d_Mo_words_256 (lv_at hl 0 rfl) ?_
                            refine lv_if_eq (tgt := 289) cx.x cx.b d_Mo_words_258 (by decide) (fun _ => ?_) (fun c => absurd (by decide) c)
                            refine lv_aload_n cx.x cx.b d_Mo_words_289 rfl (lv_at hl 3 rfl) ?_
                            refine lv_iconst (v := 5) cx.x cx.b d_Mo_words_290 (by decide) ?_
                            refine hx_calli (iv_Mo_137_Mo cx (c_Mo_fail l hE M233.1 (x := 5) (show g.2 3 ≤ g.2 4 by omega) (show g.2 3 ≤ S3 by omega) (show g.2 4 < 1000 by omega) (show S3 < 1000 by omega)) oM234 rfl hl.1 rfl (Nat.le_of_ble_eq_true rfl) d_Mo_words_291 ⟨Nat.le_of_ble_eq_true rfl, Nat.le_of_ble_eq_true rfl⟩ ⟨Nat.le_of_ble_eq_true rfl, Nat.le_of_ble_eq_true rfl⟩) hlo (fun _ h => h) (fun r237 H236 locs hp235 hlo => ?_)
                            obtain ⟨rq_M238, q_M238⟩ := hp235
                            have rq_M238 : r237 = 0 := rq_M238
                            have M238 : Mw E H H236 a ad (up (up (up (up (up (up g.1 4 N9) 6 (updN (g.1 6) 216 L_a.length)) 7 (updN (g.1 7) 216 0)) 8 (updN (g.1 8) 216 k1)) 9 (updN (g.1 9) 216 mq)) 11 P_b, up (up (up (up (up g.2 5 S3) 6 W3) 8 n_b) 9 5) 10 ((if g.2 4 ≤ S3 then g.2 4 else S3) - g.2 3 + 1)) := Mw.cg (M233.tr q_M238) rfl rfl rfl rfl rfl rfl rfl rfl rfl rfl rfl rfl rfl rfl rfl rfl rfl rfl rfl rfl rfl rfl rfl rfl rfl rfl
                            have oM239 : hOb (eD E) classes H236 a 10 [.ref (ad 0), .int (nI (g.2 0)), .ref (ad 1), .int (nI (g.2 1)), .int (nI (g.2 2)), .ref (ad 2), .ref (ad 3), .ref (ad 4), .ref (ad 5), .ref (ad 6), .ref (ad 7), .ref (ad 8), .ref (ad 9), .ref (ad 10), .int (nI (g.2 3)), .int (nI (g.2 4)), .int (nI S3), .int (nI W3), .int (nI (g.2 7)), .ref (ad 11), .int (nI n_b), .int (nI 5), .int (nI ((if g.2 4 ≤ S3 then g.2 4 else S3) - g.2 3 + 1)), .ref (ad 12), .int (nI (g.2 11)), .ref (ad 13)] := M238.1.1
                            have i_M238 : (if g.2 4 ≤ S3 then g.2 4 else S3) = S3 := by by_cases z : g.2 4 ≤ S3; rw [if_pos z]; omega; rw [if_neg z]
                            rw [i_M238] at M238
                            have oM240 : hOb (eD E) classes H236 a 10 [.ref (ad 0), .int (nI (g.2 0)), .ref (ad 1), .int (nI (g.2 1)), .int (nI (g.2 2)), .ref (ad 2), .ref (ad 3), .ref (ad 4), .ref (ad 5), .ref (ad 6), .ref (ad 7), .ref (ad 8), .ref (ad 9), .ref (ad 10), .int (nI (g.2 3)), .int (nI (g.2 4)), .int (nI S3), .int (nI W3), .int (nI (g.2 7)), .ref (ad 11), .int (nI n_b), .int (nI 5), .int (nI (S3 - g.2 3 + 1)), .ref (ad 12), .int (nI (g.2 11)), .ref (ad 13)] := M238.1.1
                            subst rq_M238
                            subst hV
                            rw [← hQ]
                            exact hx_reti cx.x cx.b cx.r cx.k rfl hlo (fun _ h => h) (Nat.le_of_ble_eq_true rfl) (Nat.le_of_ble_eq_true rfl) d_Mo_words_294 (⟨_, M238, WdQ.no ⟨⟨rfl, rfl, rfl, rfl, rfl⟩, fun r hr => ⟨(show (updN (g.1 6) 216 L_a.length) r = g.1 6 r from updN_n (by omega)), (show (updN (g.1 7) 216 0) r = g.1 7 r from updN_n (by omega)), (show (updN (g.1 8) 216 k1) r = g.1 8 r from updN_n (by omega)), (show (updN (g.1 9) 216 mq) r = g.1 9 r from updN_n (by omega)), fun i hi => ⟨(show N9 _ = _ from hN9 _ (by omega)), rfl⟩⟩, ⟨rfl, rfl, rfl, rfl, rfl, rfl⟩⟩ rfl (show (5 : Nat) ≠ 0 by decide) rfl rfl⟩)
                          · rw [show (some L_b).isSome = true from rfl]
                            obtain ⟨e_b, p_b⟩ := w_b L_b k_b
                            subst e_b
                            have oM241 : hOb (eD E) classes H231 a 10 [.ref (ad 0), .int (nI (g.2 0)), .ref (ad 1), .int (nI (g.2 1)), .int (nI (g.2 2)), .ref (ad 2), .ref (ad 3), .ref (ad 4), .ref (ad 5), .ref (ad 6), .ref (ad 7), .ref (ad 8), .ref (ad 9), .ref (ad 10), .int (nI (g.2 3)), .int (nI (g.2 4)), .int (nI S3), .int (nI W3), .int (nI (g.2 7)), .ref (ad 11), .int (nI L_b.length), .int (nI (g.2 9)), .int (nI (g.2 10)), .ref (ad 12), .int (nI (g.2 11)), .ref (ad 13)] := M233.1.1
                            obtain ⟨l_b, o_b⟩ := tkL_ok (fun c hc => (wdO_okW hxc c hc).2) k_b
                            refine lv_if_eq (tgt := 253) cx.x cx.b d_Mo_words_246 (by decide) (fun c => absurd c (by decide)) (fun _ => ?_)
                            refine lv_iconst (v := 1) cx.x cx.b d_Mo_words_249 (by decide) ?_
                            refine lv_goto (tgt := 254) cx.x cx.b d_Mo_words_250 (by decide) ?_
                            refine lv_istore (lv' := [(6, .int 1), (7, .int (nI j1)), (5, .int (nI k1)), (0, .ref a), (1, .int (bI true)), (2, .int 216)]) cx.x cx.b d_Mo_words_254 hl (by decide) rfl (fun ls hl => ?_)
                            refine lv_iload cx.x cx.b d_Mo_words_256 (lv_at hl 0 rfl) ?_
                            refine lv_if_eq (tgt := 289) cx.x cx.b d_Mo_words_258 (by decide) (fun c => absurd c (by decide)) (fun _ => ?_)
                            rw [(tk_cnR hfm (by omega) (by omega) be3 af3).1 _ k_b] at hV
                            have htd := tkD_some (k := k1) k_b
                            have DS : ∀ (locs : List Loc) , hLo (eB E) locs → (tkD k1 (g.2 7) (wdO txt S3 W3) = true) → ∀ ls, lv_has ls 8 [(0, .ref a), (1, .int (bI true)), (2, .int 216)] → W p l e (rmA 4 0 0) s m args below meth c H231 locs 0 0 Q (F0 m 295 ls []) := by
                              intro locs  hlo htk2 ls hl
                              rw [if_pos htk2] at hV
                              refine lv_aload_n cx.x cx.b d_Mo_words_295 rfl (lv_at hl 0 rfl) ?_
                              refine gf_Mo_31_Mo cx oM241 rfl d_Mo_words_296 ?_
                              refine lv_iload_n cx.x cx.b d_Mo_words_299 rfl (lv_at hl 2 rfl) ?_
                              refine lv_aload_n cx.x cx.b d_Mo_words_300 rfl (lv_at hl 0 rfl) ?_
                              refine gf_Mo_95_Mo cx oM241 rfl d_Mo_words_301 ?_
                              refine hx_iast cx.x cx.b cx.K 0 (M233.1.2.1 7 (by decide)) hlo (M233.1.2.2.2.1 7 (by decide)).1 rfl (show vp_in (nI 216) 217 from vp_in_nI (show 216 < 217 by omega) (by decide)) d_Mo_words_304 (fun H242 locs ha243 z_H242 o_H242 hlo => ?_)
                              have M244 : Mw E H H242 a ad (up (up (up (up (up (up g.1 4 N9) 6 (updN (g.1 6) 216 L_a.length)) 7 (updN (updN (g.1 7) 216 0) 216 L_b.length)) 8 (updN (g.1 8) 216 k1)) 9 (updN (g.1 9) 216 mq)) 11 P_b, up (up (up g.2 5 S3) 6 W3) 8 L_b.length) := M233.ar (up (up (up (up (up (up g.1 4 N9) 6 (updN (g.1 6) 216 L_a.length)) 7 (updN (updN (g.1 7) 216 0) 216 L_b.length)) 8 (updN (g.1 8) 216 k1)) 9 (updN (g.1 9) 216 mq)) 11 P_b, up (up (up g.2 5 S3) 6 W3) 8 L_b.length) 7 (by decide) (by have h9 := ha243; rw [show (216 : Int32).toNatClampNeg = 216 from nI_clamp (n := 216) (by omega)] at h9; have h9 : hAi H242 (ad 7) (eA E 0) (arL 7) (upd (fun i => nI ((updN (g.1 7) 216 0) i)) 216 (nI L_b.length)) := h9; rw [upd_nI] at h9; exact h9) z_H242 o_H242 rfl (fun j hj hn => arN7 hj hn rfl rfl rfl rfl rfl rfl rfl rfl rfl rfl rfl rfl rfl)
                              have oM245 : hOb (eD E) classes H242 a 10 [.ref (ad 0), .int (nI (g.2 0)), .ref (ad 1), .int (nI (g.2 1)), .int (nI (g.2 2)), .ref (ad 2), .ref (ad 3), .ref (ad 4), .ref (ad 5), .ref (ad 6), .ref (ad 7), .ref (ad 8), .ref (ad 9), .ref (ad 10), .int (nI (g.2 3)), .int (nI (g.2 4)), .int (nI S3), .int (nI W3), .int (nI (g.2 7)), .ref (ad 11), .int (nI L_b.length), .int (nI (g.2 9)), .int (nI (g.2 10)), .ref (ad 12), .int (nI (g.2 11)), .ref (ad 13)] := M244.1.1
                              refine lv_iconst (v := 0) cx.x cx.b d_Mo_words_305 (by decide) ?_
                              refine lv_istore (lv' := [(7, .int 0), (0, .ref a), (1, .int (bI true)), (2, .int 216)]) cx.x cx.b d_Mo_words_306 hl (by decide) rfl (fun ls hl => ?_)
                              have CP_b : ∀ (k : Nat) (locs : List Loc) (j1 : Nat) (D9 : Nat → Nat) (H6 : Heap), hLo (eB E) locs → (L_b.length - j1 < k) → (j1 ≤ L_b.length) → (Mw E H H6 a ad (up (up (up (up (up (up (up g.1 4 N9) 5 D9) 6 (updN (g.1 6) 216 L_a.length)) 7 (updN (updN (g.1 7) 216 0) 216 L_b.length)) 8 (updN (g.1 8) 216 k1)) 9 (updN (g.1 9) 216 mq)) 11 P_b, up (up (up g.2 5 S3) 6 W3) 8 L_b.length)) → (∀ i, i < 4320 → D9 i = g.1 5 i) → (∀ i, i < j1 → D9 (20 * 216 + i) = L_b.getD i 0) → ∀ ls, lv_has ls 8 [(7, .int (nI j1)), (0, .ref a), (1, .int (bI true)), (2, .int 216)] → W p l e (rmA 4 0 0) s m args below meth c H6 locs 0 0 Q (F0 m 308 ls []) := by
                                intro k
                                induction k with
                                | zero => intro locs j1 D9 H6 hlo hk hj1 M6 hD9 hC_b; exact absurd hk (by omega)
                                | succ k ih =>
                                  intro locs j1 D9 H6 hlo hk hj1 M6 hD9 hC_b ls hl
                                  have oM246 : hOb (eD E) classes H6 a 10 [.ref (ad 0), .int (nI (g.2 0)), .ref (ad 1), .int (nI (g.2 1)), .int (nI (g.2 2)), .ref (ad 2), .ref (ad 3), .ref (ad 4), .ref (ad 5), .ref (ad 6), .ref (ad 7), .ref (ad 8), .ref (ad 9), .ref (ad 10), .int (nI (g.2 3)), .int (nI (g.2 4)), .int (nI S3), .int (nI W3), .int (nI (g.2 7)), .ref (ad 11), .int (nI L_b.length), .int (nI (g.2 9)), .int (nI (g.2 10)), .ref (ad 12), .int (nI (g.2 11)), .ref (ad 13)] := M6.1.1
                                  refine lv_iload cx.x cx.b d_Mo_words_308 (lv_at hl 0 rfl) ?_
                                  refine lv_aload_n cx.x cx.b d_Mo_words_310 rfl (lv_at hl 1 rfl) ?_
                                  refine gf_Mo_95_Mo cx oM246 rfl d_Mo_words_311 ?_
                                  refine lv_icmp_ge (tgt := 342) cx.x cx.b d_Mo_words_314 (by decide) (fun c8 => ?_) (fun c8 => ?_)
                                  · have c8 : L_b.length ≤ j1 := (nI_leI (a := L_b.length) (b := j1) (by omega) (by omega)).mp c8
                                    have hC_b : ∀ i, i < L_b.length → D9 (20 * 216 + i) = L_b.getD i 0 := fun i hi => hC_b i (by omega)
                                    refine lv_aload_n cx.x cx.b d_Mo_words_342 rfl (lv_at hl 1 rfl) ?_
                                    unfold rdW3 at hV
                                    refine hx_calli (iv_Mo_125_Mo cx (c_Mo_next l hE M6.1 hx hxc hxl (show W3 ≤ g.2 4 by omega) hen) oM246 rfl hl.1 rfl (Nat.le_of_ble_eq_true rfl) d_Mo_words_343 ⟨Nat.le_of_ble_eq_true rfl, Nat.le_of_ble_eq_true rfl⟩ ⟨Nat.le_of_ble_eq_true rfl, Nat.le_of_ble_eq_true rfl⟩) hlo (fun _ h => h) (fun r249 H248 locs hp247 hlo => ?_)
                                    obtain ⟨rq_M250, q_M250⟩ := hp247
                                    have rq_M250 : r249 = bI (decide (wdS (txt.take (g.2 4)) W3 < g.2 4)) := rq_M250
                                    have M250 : Mw E H H248 a ad (up (up (up (up (up (up (up g.1 4 N9) 5 D9) 6 (updN (g.1 6) 216 L_a.length)) 7 (updN (updN (g.1 7) 216 0) 216 L_b.length)) 8 (updN (g.1 8) 216 k1)) 9 (updN (g.1 9) 216 mq)) 11 P_b, up (up (up g.2 5 (wdS (txt.take (g.2 4)) W3)) 6 (if wdS (txt.take (g.2 4)) W3 < g.2 4 then wdE (txt.take (g.2 4)) (wdS (txt.take (g.2 4)) W3) else W3)) 8 L_b.length) := Mw.cg (M6.tr q_M250) rfl rfl rfl rfl rfl rfl rfl rfl rfl rfl rfl rfl rfl rfl rfl rfl rfl rfl rfl rfl rfl rfl rfl rfl rfl rfl
                                    have oM251 : hOb (eD E) classes H248 a 10 [.ref (ad 0), .int (nI (g.2 0)), .ref (ad 1), .int (nI (g.2 1)), .int (nI (g.2 2)), .ref (ad 2), .ref (ad 3), .ref (ad 4), .ref (ad 5), .ref (ad 6), .ref (ad 7), .ref (ad 8), .ref (ad 9), .ref (ad 10), .int (nI (g.2 3)), .int (nI (g.2 4)), .int (nI (wdS (txt.take (g.2 4)) W3)), .int (nI (if wdS (txt.take (g.2 4)) W3 < g.2 4 then wdE (txt.take (g.2 4)) (wdS (txt.take (g.2 4)) W3) else W3)), .int (nI (g.2 7)), .ref (ad 11), .int (nI L_b.length), .int (nI (g.2 9)), .int (nI (g.2 10)), .ref (ad 12), .int (nI (g.2 11)), .ref (ad 13)] := M250.1.1
                                    have a_S4 := wdS_le (L := (txt.take (g.2 4))) (i := W3) (by omega)
                                    have n_S4 := wdS_not (i := W3) hen (g.2 4 - W3) rfl (by omega)
                                    have b_S4 := wdE_le (L := (txt.take (g.2 4))) (i := wdS (txt.take (g.2 4)) W3) (by omega)
                                    generalize h_S4 : wdS (txt.take (g.2 4)) W3 = S4 at rq_M250 M250 a_S4 n_S4 b_S4 hV
                                    by_cases c_S4 : S4 < g.2 4
                                    · rw [if_pos c_S4] at M250
                                      rw [decide_eq_true c_S4] at rq_M250
                                      subst rq_M250
                                      have oM252 : hOb (eD E) classes H248 a 10 [.ref (ad 0), .int (nI (g.2 0)), .ref (ad 1), .int (nI (g.2 1)), .int (nI (g.2 2)), .ref (ad 2), .ref (ad 3), .ref (ad 4), .ref (ad 5), .ref (ad 6), .ref (ad 7), .ref (ad 8), .ref (ad 9), .ref (ad 10), .int (nI (g.2 3)), .int (nI (g.2 4)), .int (nI S4), .int (nI (wdE (txt.take (g.2 4)) S4)), .int (nI (g.2 7)), .ref (ad 11), .int (nI L_b.length), .int (nI (g.2 9)), .int (nI (g.2 10)), .ref (ad 12), .int (nI (g.2 11)), .ref (ad 13)] := M250.1.1
                                      have hg4 := wdE_gt hen c_S4 (n_S4 c_S4)
                                      rw [if_pos hg4] at hV
                                      refine lv_if_eq (tgt := 358) cx.x cx.b d_Mo_words_346 (by decide) (fun c => absurd c (by decide)) (fun _ => ?_)
                                      refine lv_aload_n cx.x cx.b d_Mo_words_349 rfl (lv_at hl 1 rfl) ?_
                                      refine lv_bipush (v := 6) cx.x cx.b d_Mo_words_350 (by decide) ?_
                                      refine hx_calli (iv_Mo_137_Mo cx (c_Mo_fail l hE M250.1 (x := 6) (show g.2 3 ≤ g.2 4 by omega) (show g.2 3 ≤ S4 by omega) (show g.2 4 < 1000 by omega) (show S4 < 1000 by omega)) oM252 rfl hl.1 rfl (Nat.le_of_ble_eq_true rfl) d_Mo_words_352 ⟨Nat.le_of_ble_eq_true rfl, Nat.le_of_ble_eq_true rfl⟩ ⟨Nat.le_of_ble_eq_true rfl, Nat.le_of_ble_eq_true rfl⟩) hlo (fun _ h => h) (fun r256 H255 locs hp254 hlo => ?_)
                                      obtain ⟨rq_M257, q_M257⟩ := hp254
                                      have rq_M257 : r256 = 0 := rq_M257
                                      have M257 : Mw E H H255 a ad (up (up (up (up (up (up (up g.1 4 N9) 5 D9) 6 (updN (g.1 6) 216 L_a.length)) 7 (updN (updN (g.1 7) 216 0) 216 L_b.length)) 8 (updN (g.1 8) 216 k1)) 9 (updN (g.1 9) 216 mq)) 11 P_b, up (up (up (up (up g.2 5 S4) 6 (wdE (txt.take (g.2 4)) S4)) 8 L_b.length) 9 6) 10 ((if g.2 4 ≤ S4 then g.2 4 else S4) - g.2 3 + 1)) := Mw.cg (M250.tr q_M257) rfl rfl rfl rfl rfl rfl rfl rfl rfl rfl rfl rfl rfl rfl rfl rfl rfl rfl rfl rfl rfl rfl rfl rfl rfl rfl
                                      have oM258 : hOb (eD E) classes H255 a 10 [.ref (ad 0), .int (nI (g.2 0)), .ref (ad 1), .int (nI (g.2 1)), .int (nI (g.2 2)), .ref (ad 2), .ref (ad 3), .ref (ad 4), .ref (ad 5), .ref (ad 6), .ref (ad 7), .ref (ad 8), .ref (ad 9), .ref (ad 10), .int (nI (g.2 3)), .int (nI (g.2 4)), .int (nI S4), .int (nI (wdE (txt.take (g.2 4)) S4)), .int (nI (g.2 7)), .ref (ad 11), .int (nI L_b.length), .int (nI 6), .int (nI ((if g.2 4 ≤ S4 then g.2 4 else S4) - g.2 3 + 1)), .ref (ad 12), .int (nI (g.2 11)), .ref (ad 13)] := M257.1.1
                                      have i_M257 : (if g.2 4 ≤ S4 then g.2 4 else S4) = S4 := by by_cases z : g.2 4 ≤ S4; rw [if_pos z]; omega; rw [if_neg z]
                                      rw [i_M257] at M257
                                      have oM259 : hOb (eD E) classes H255 a 10 [.ref (ad 0), .int (nI (g.2 0)), .ref (ad 1), .int (nI (g.2 1)), .int (nI (g.2 2)), .ref (ad 2), .ref (ad 3), .ref (ad 4), .ref (ad 5), .ref (ad 6), .ref (ad 7), .ref (ad 8), .ref (ad 9), .ref (ad 10), .int (nI (g.2 3)), .int (nI (g.2 4)), .int (nI S4), .int (nI (wdE (txt.take (g.2 4)) S4)), .int (nI (g.2 7)), .ref (ad 11), .int (nI L_b.length), .int (nI 6), .int (nI (S4 - g.2 3 + 1)), .ref (ad 12), .int (nI (g.2 11)), .ref (ad 13)] := M257.1.1
                                      subst rq_M257
                                      subst hV
                                      refine lv_if_eq (tgt := 362) cx.x cx.b d_Mo_words_355 (by decide) (fun _ => ?_) (fun c => absurd (by decide) c)
                                      refine lv_iconst (v := 0) cx.x cx.b d_Mo_words_362 (by decide) ?_
                                      rw [← hQ]
                                      exact hx_reti cx.x cx.b cx.r cx.k rfl hlo (fun _ h => h) (Nat.le_of_ble_eq_true rfl) (Nat.le_of_ble_eq_true rfl) d_Mo_words_363 (⟨_, M257, WdQ.no ⟨⟨rfl, rfl, rfl, rfl, rfl⟩, fun r hr => ⟨(show (updN (g.1 6) 216 L_a.length) r = g.1 6 r from updN_n (by omega)), (show (updN (updN (g.1 7) 216 0) 216 L_b.length) r = g.1 7 r from (updN_n (by omega)).trans (updN_n (by omega))), (show (updN (g.1 8) 216 k1) r = g.1 8 r from updN_n (by omega)), (show (updN (g.1 9) 216 mq) r = g.1 9 r from updN_n (by omega)), fun i hi => ⟨(show N9 _ = _ from hN9 _ (by omega)), (show D9 _ = _ from hD9 _ (by omega))⟩⟩, ⟨rfl, rfl, rfl, rfl, rfl, rfl⟩⟩ rfl (show (6 : Nat) ≠ 0 by decide) rfl rfl⟩)
                                    · rw [if_neg c_S4] at M250
                                      rw [decide_eq_false c_S4] at rq_M250
                                      subst rq_M250
                                      have oM253 : hOb (eD E) classes H248 a 10 [.ref (ad 0), .int (nI (g.2 0)), .ref (ad 1), .int (nI (g.2 1)), .int (nI (g.2 2)), .ref (ad 2), .ref (ad 3), .ref (ad 4), .ref (ad 5), .ref (ad 6), .ref (ad 7), .ref (ad 8), .ref (ad 9), .ref (ad 10), .int (nI (g.2 3)), .int (nI (g.2 4)), .int (nI S4), .int (nI W3), .int (nI (g.2 7)), .ref (ad 11), .int (nI L_b.length), .int (nI (g.2 9)), .int (nI (g.2 10)), .ref (ad 12), .int (nI (g.2 11)), .ref (ad 13)] := M250.1.1
                                      rw [if_neg (show ¬ S4 < wdE (txt.take (g.2 4)) S4 by rw [wdE_end (show (txt.take (g.2 4)).length ≤ S4 by omega)]; omega)] at hV
                                      subst hV
                                      refine lv_if_eq (tgt := 358) cx.x cx.b d_Mo_words_346 (by decide) (fun _ => ?_) (fun c => absurd (by decide) c)
                                      refine lv_iconst (v := 1) cx.x cx.b d_Mo_words_358 (by decide) ?_
                                      refine lv_goto (tgt := 363) cx.x cx.b d_Mo_words_359 (by decide) ?_
                                      rw [← hQ]
                                      exact hx_reti cx.x cx.b cx.r cx.k rfl hlo (fun _ h => h) (Nat.le_of_ble_eq_true rfl) (Nat.le_of_ble_eq_true rfl) d_Mo_words_363 (⟨_, M250, ⟨⟨rfl, rfl, rfl, rfl, rfl⟩, fun r hr => ⟨(show (updN (g.1 6) 216 L_a.length) r = g.1 6 r from updN_n (by omega)), (show (updN (updN (g.1 7) 216 0) 216 L_b.length) r = g.1 7 r from (updN_n (by omega)).trans (updN_n (by omega))), (show (updN (g.1 8) 216 k1) r = g.1 8 r from updN_n (by omega)), (show (updN (g.1 9) 216 mq) r = g.1 9 r from updN_n (by omega)), fun i hi => ⟨(show N9 _ = _ from hN9 _ (by omega)), (show D9 _ = _ from hD9 _ (by omega))⟩⟩, ⟨rfl, rfl, rfl, rfl, rfl, rfl⟩⟩, rfl, fun _ => ⟨⟨⟨(show (updN (g.1 6) 216 L_a.length) 216 = L_a.length from updN_s), l_a, hC_a, o_a⟩, ⟨(show (updN (updN (g.1 7) 216 0) 216 L_b.length) 216 = L_b.length from updN_s), l_b, hC_b, o_b⟩, (show (updN (g.1 8) 216 k1) 216 = k1 from updN_s), (show (updN (g.1 9) 216 mq) 216 = mq from updN_s), (show k1 < 10 by omega), h64⟩, rfl⟩, fun z => absurd rfl z⟩)
                                  · have c8 : j1 < L_b.length := Nat.not_le.mp (fun zz => c8 ((nI_leI (a := L_b.length) (b := j1) (by omega) (by omega)).mpr zz))
                                    refine lv_aload_n cx.x cx.b d_Mo_words_317 rfl (lv_at hl 1 rfl) ?_
                                    refine gf_Mo_25_Mo cx oM246 rfl d_Mo_words_318 ?_
                                    refine lv_bipush (v := 20) cx.x cx.b d_Mo_words_321 (by decide) ?_
                                    refine lv_iload_n cx.x cx.b d_Mo_words_323 rfl (lv_at hl 3 rfl) ?_
                                    refine lv_imul cx.x cx.b d_Mo_words_324 ?_
                                    refine lv_topi (fun x260 e_x260 => ?_)
                                    have e_x260 : x260 = nI (20 * 216) := e_x260.trans (pk_mul 20 216)
                                    subst e_x260
                                    refine lv_iload cx.x cx.b d_Mo_words_325 (lv_at hl 0 rfl) ?_
                                    refine lv_iadd cx.x cx.b d_Mo_words_327 ?_
                                    refine lv_topi (fun x261 e_x261 => ?_)
                                    have e_x261 : x261 = nI ((20 * 216) + j1) := e_x261.trans (nI_add (20 * 216) j1)
                                    subst e_x261
                                    refine lv_aload_n cx.x cx.b d_Mo_words_328 rfl (lv_at hl 1 rfl) ?_
                                    refine gf_Mo_43_Mo cx oM246 rfl d_Mo_words_329 ?_
                                    refine lv_iload cx.x cx.b d_Mo_words_332 (lv_at hl 0 rfl) ?_
                                    refine hx_iald cx.x cx.b cx.K 0 (M6.1.2.1 11 (by decide)) rfl (show vp_in (nI j1) 20 from vp_in_nI (show j1 < 20 by omega) (by decide)) d_Mo_words_334 ?_
                                    refine lv_topi (fun x262 e_x262 => ?_)
                                    have e_x262 : x262 = nI (L_b.getD j1 0) := e_x262.trans (congrArg nI ((congrArg P_b (nI_clamp (n := j1) (by omega))).trans (p_b j1 (by omega))))
                                    subst e_x262
                                    refine hx_iast cx.x cx.b cx.K 0 (M6.1.2.1 5 (by decide)) hlo (M6.1.2.2.2.1 5 (by decide)).1 rfl (show vp_in (nI ((20 * 216) + j1)) 4340 from vp_in_nI (show ((20 * 216) + j1) < 4340 by omega) (by decide)) d_Mo_words_335 (fun H263 locs ha264 z_H263 o_H263 hlo => ?_)
                                    have M265 : Mw E H H263 a ad (up (up (up (up (up (up (up g.1 4 N9) 5 (updN D9 ((20 * 216) + j1) (L_b.getD j1 0))) 6 (updN (g.1 6) 216 L_a.length)) 7 (updN (updN (g.1 7) 216 0) 216 L_b.length)) 8 (updN (g.1 8) 216 k1)) 9 (updN (g.1 9) 216 mq)) 11 P_b, up (up (up g.2 5 S3) 6 W3) 8 L_b.length) := M6.ar (up (up (up (up (up (up (up g.1 4 N9) 5 (updN D9 ((20 * 216) + j1) (L_b.getD j1 0))) 6 (updN (g.1 6) 216 L_a.length)) 7 (updN (updN (g.1 7) 216 0) 216 L_b.length)) 8 (updN (g.1 8) 216 k1)) 9 (updN (g.1 9) 216 mq)) 11 P_b, up (up (up g.2 5 S3) 6 W3) 8 L_b.length) 5 (by decide) (by have h9 := ha264; rw [show (nI ((20 * 216) + j1) : Int32).toNatClampNeg = ((20 * 216) + j1) from nI_clamp (n := ((20 * 216) + j1)) (by omega)] at h9; have h9 : hAi H263 (ad 5) (eA E 0) (arL 5) (upd (fun i => nI (D9 i)) ((20 * 216) + j1) (nI (L_b.getD j1 0))) := h9; rw [upd_nI] at h9; exact h9) z_H263 o_H263 rfl (fun j hj hn => arN5 hj hn rfl rfl rfl rfl rfl rfl rfl rfl rfl rfl rfl rfl rfl)
                                    have oM266 : hOb (eD E) classes H263 a 10 [.ref (ad 0), .int (nI (g.2 0)), .ref (ad 1), .int (nI (g.2 1)), .int (nI (g.2 2)), .ref (ad 2), .ref (ad 3), .ref (ad 4), .ref (ad 5), .ref (ad 6), .ref (ad 7), .ref (ad 8), .ref (ad 9), .ref (ad 10), .int (nI (g.2 3)), .int (nI (g.2 4)), .int (nI S3), .int (nI W3), .int (nI (g.2 7)), .ref (ad 11), .int (nI L_b.length), .int (nI (g.2 9)), .int (nI (g.2 10)), .ref (ad 12), .int (nI (g.2 11)), .ref (ad 13)] := M265.1.1
                                    obtain ⟨x267, e_x267⟩ : ∃ y : Int32, y = nI j1 + 1 := ⟨_, rfl⟩
                                    refine lv_iinc (v := x267) (lv' := [(7, .int x267), (0, .ref a), (1, .int (bI true)), (2, .int 216)]) cx.x cx.b d_Mo_words_336 hl (k := 0) rfl (by rw [e_x267]; rfl) (by decide) rfl (fun ls hl => ?_)
                                    have e_x267 : x267 = nI (j1 + 1) := e_x267.trans (nI_add j1 1)
                                    subst e_x267
                                    refine lv_goto (tgt := 308) cx.x cx.b d_Mo_words_339 (by decide) ?_
                                    exact ih _ (j1 + 1) _ _ hlo (by omega) (by omega) M265 (fun i hi => (updN_n (by omega)).trans (hD9 i hi)) (fun i hi => by by_cases e : i = j1; rw [e]; exact updN_s; exact (updN_n (by omega)).trans (hC_b i (by omega))) _ (lv_sub hl [0, 1, 2, 3] rfl)
                              exact CP_b _ _ 0 (g.1 5) _ hlo (Nat.lt_succ_self _) (Nat.zero_le _) (Mw.cg M244 rfl rfl rfl rfl rfl rfl rfl rfl rfl rfl rfl rfl rfl rfl rfl rfl rfl rfl rfl rfl rfl rfl rfl rfl rfl rfl) (fun i _ => rfl) (fun i hi => absurd hi (Nat.not_lt_zero i)) _ (lv_sub hl [0, 1, 2, 3] rfl)
                            refine lv_iload cx.x cx.b d_Mo_words_261 (lv_at hl 2 rfl) ?_
                            refine lv_iconst (v := 1) cx.x cx.b d_Mo_words_263 (by decide) ?_
                            refine lv_icmp_ne (tgt := 277) cx.x cx.b d_Mo_words_264 (by decide) (fun c6 => ?_) (fun c6 => ?_)
                            · have c6 : k1 ≠ 1 := fun zz => c6 ((nI_eq (a := k1) (b := 1) (by omega) (by omega)).mpr zz)
                              rw [if_neg c6] at htd
                              refine lv_aload_n cx.x cx.b d_Mo_words_277 rfl (lv_at hl 3 rfl) ?_
                              refine lv_iconst (v := 0) cx.x cx.b d_Mo_words_278 (by decide) ?_
                              refine hx_calli (iv_Mo_109_Mo cx (c_Mo_field l hE M233.1 (L := L_b) p_b rfl l_b o_b (k1 := 0) (Nat.zero_le _)) oM241 rfl hl.1 rfl (Nat.le_of_ble_eq_true rfl) d_Mo_words_279 ⟨Nat.le_of_ble_eq_true rfl, Nat.le_of_ble_eq_true rfl⟩ ⟨Nat.le_of_ble_eq_true rfl, Nat.le_of_ble_eq_true rfl⟩) hlo (fun _ h => h) (fun r279 H278 locs hp277 hlo => ?_)
                              obtain ⟨hp277, hH9⟩ := hp277
                              have hH9 := hH9.symm
                              subst hH9
                              subst hp277
                              refine lv_aload_n cx.x cx.b d_Mo_words_282 rfl (lv_at hl 3 rfl) ?_
                              refine gf_Mo_95_Mo cx oM241 rfl d_Mo_words_283 ?_
                              refine lv_icmp_eq (tgt := 295) cx.x cx.b d_Mo_words_286 (by decide) (fun c7 => ?_) (fun c7 => ?_)
                              · have c7 : fieldE L_b 0 = some L_b.length := (oI_eq (fun q hq => by have := fieldE_le (Nat.zero_le _) hq; omega) (by omega)).mp c7
                                rw [show isFD L_b = true from decide_eq_true c7] at htd
                                exact DS _ hlo htd _ (lv_sub hl [3, 4, 5] rfl)
                              · have c7 : ¬ fieldE L_b 0 = some L_b.length := fun z => c7 ((oI_eq (fun q hq => by have := fieldE_le (Nat.zero_le _) hq; omega) (by omega)).mpr z)
                                rw [show isFD L_b = false from decide_eq_false c7] at htd
                                rw [htd, if_neg (by decide)] at hV
                                refine lv_aload_n cx.x cx.b d_Mo_words_289 rfl (lv_at hl 3 rfl) ?_
                                refine lv_iconst (v := 5) cx.x cx.b d_Mo_words_290 (by decide) ?_
                                refine hx_calli (iv_Mo_137_Mo cx (c_Mo_fail l hE M233.1 (x := 5) (show g.2 3 ≤ g.2 4 by omega) (show g.2 3 ≤ S3 by omega) (show g.2 4 < 1000 by omega) (show S3 < 1000 by omega)) oM241 rfl hl.1 rfl (Nat.le_of_ble_eq_true rfl) d_Mo_words_291 ⟨Nat.le_of_ble_eq_true rfl, Nat.le_of_ble_eq_true rfl⟩ ⟨Nat.le_of_ble_eq_true rfl, Nat.le_of_ble_eq_true rfl⟩) hlo (fun _ h => h) (fun r282 H281 locs hp280 hlo => ?_)
                                obtain ⟨rq_M283, q_M283⟩ := hp280
                                have rq_M283 : r282 = 0 := rq_M283
                                have M283 : Mw E H H281 a ad (up (up (up (up (up (up g.1 4 N9) 6 (updN (g.1 6) 216 L_a.length)) 7 (updN (g.1 7) 216 0)) 8 (updN (g.1 8) 216 k1)) 9 (updN (g.1 9) 216 mq)) 11 P_b, up (up (up (up (up g.2 5 S3) 6 W3) 8 L_b.length) 9 5) 10 ((if g.2 4 ≤ S3 then g.2 4 else S3) - g.2 3 + 1)) := Mw.cg (M233.tr q_M283) rfl rfl rfl rfl rfl rfl rfl rfl rfl rfl rfl rfl rfl rfl rfl rfl rfl rfl rfl rfl rfl rfl rfl rfl rfl rfl
                                have oM284 : hOb (eD E) classes H281 a 10 [.ref (ad 0), .int (nI (g.2 0)), .ref (ad 1), .int (nI (g.2 1)), .int (nI (g.2 2)), .ref (ad 2), .ref (ad 3), .ref (ad 4), .ref (ad 5), .ref (ad 6), .ref (ad 7), .ref (ad 8), .ref (ad 9), .ref (ad 10), .int (nI (g.2 3)), .int (nI (g.2 4)), .int (nI S3), .int (nI W3), .int (nI (g.2 7)), .ref (ad 11), .int (nI L_b.length), .int (nI 5), .int (nI ((if g.2 4 ≤ S3 then g.2 4 else S3) - g.2 3 + 1)), .ref (ad 12), .int (nI (g.2 11)), .ref (ad 13)] := M283.1.1
                                have i_M283 : (if g.2 4 ≤ S3 then g.2 4 else S3) = S3 := by by_cases z : g.2 4 ≤ S3; rw [if_pos z]; omega; rw [if_neg z]
                                rw [i_M283] at M283
                                have oM285 : hOb (eD E) classes H281 a 10 [.ref (ad 0), .int (nI (g.2 0)), .ref (ad 1), .int (nI (g.2 1)), .int (nI (g.2 2)), .ref (ad 2), .ref (ad 3), .ref (ad 4), .ref (ad 5), .ref (ad 6), .ref (ad 7), .ref (ad 8), .ref (ad 9), .ref (ad 10), .int (nI (g.2 3)), .int (nI (g.2 4)), .int (nI S3), .int (nI W3), .int (nI (g.2 7)), .ref (ad 11), .int (nI L_b.length), .int (nI 5), .int (nI (S3 - g.2 3 + 1)), .ref (ad 12), .int (nI (g.2 11)), .ref (ad 13)] := M283.1.1
                                subst rq_M283
                                subst hV
                                rw [← hQ]
                                exact hx_reti cx.x cx.b cx.r cx.k rfl hlo (fun _ h => h) (Nat.le_of_ble_eq_true rfl) (Nat.le_of_ble_eq_true rfl) d_Mo_words_294 (⟨_, M283, WdQ.no ⟨⟨rfl, rfl, rfl, rfl, rfl⟩, fun r hr => ⟨(show (updN (g.1 6) 216 L_a.length) r = g.1 6 r from updN_n (by omega)), (show (updN (g.1 7) 216 0) r = g.1 7 r from updN_n (by omega)), (show (updN (g.1 8) 216 k1) r = g.1 8 r from updN_n (by omega)), (show (updN (g.1 9) 216 mq) r = g.1 9 r from updN_n (by omega)), fun i hi => ⟨(show N9 _ = _ from hN9 _ (by omega)), rfl⟩⟩, ⟨rfl, rfl, rfl, rfl, rfl, rfl⟩⟩ rfl (show (5 : Nat) ≠ 0 by decide) rfl rfl⟩)
                            · have c6 : k1 = 1 := (nI_eq (a := k1) (b := 1) (by omega) (by omega)).mp c6
                              rw [if_pos c6] at htd
                              refine lv_aload_n cx.x cx.b d_Mo_words_267 rfl (lv_at hl 3 rfl) ?_
                              refine hx_calli (iv_Mo_149_Mo cx (c_Mo_method l hE M233.1 (L := L_b) p_b rfl l_b o_b) oM241 rfl hl.1 rfl (Nat.le_of_ble_eq_true rfl) d_Mo_words_268 ⟨Nat.le_of_ble_eq_true rfl, Nat.le_of_ble_eq_true rfl⟩ ⟨Nat.le_of_ble_eq_true rfl, Nat.le_of_ble_eq_true rfl⟩) hlo (fun _ h => h) (fun r270 H269 locs hp268 hlo => ?_)
                              obtain ⟨hp268, hH9⟩ := hp268
                              have hH9 := hH9.symm
                              subst hH9
                              subst hp268
                              rcases kd8 : isMD L_b
                              · rw [kd8] at htd
                                refine lv_if_eq (tgt := 289) cx.x cx.b d_Mo_words_271 (by decide) (fun _ => ?_) (fun c => absurd (by decide) c)
                                rw [htd, if_neg (by decide)] at hV
                                refine lv_aload_n cx.x cx.b d_Mo_words_289 rfl (lv_at hl 3 rfl) ?_
                                refine lv_iconst (v := 5) cx.x cx.b d_Mo_words_290 (by decide) ?_
                                refine hx_calli (iv_Mo_137_Mo cx (c_Mo_fail l hE M233.1 (x := 5) (show g.2 3 ≤ g.2 4 by omega) (show g.2 3 ≤ S3 by omega) (show g.2 4 < 1000 by omega) (show S3 < 1000 by omega)) oM241 rfl hl.1 rfl (Nat.le_of_ble_eq_true rfl) d_Mo_words_291 ⟨Nat.le_of_ble_eq_true rfl, Nat.le_of_ble_eq_true rfl⟩ ⟨Nat.le_of_ble_eq_true rfl, Nat.le_of_ble_eq_true rfl⟩) hlo (fun _ h => h) (fun r273 H272 locs hp271 hlo => ?_)
                                obtain ⟨rq_M274, q_M274⟩ := hp271
                                have rq_M274 : r273 = 0 := rq_M274
                                have M274 : Mw E H H272 a ad (up (up (up (up (up (up g.1 4 N9) 6 (updN (g.1 6) 216 L_a.length)) 7 (updN (g.1 7) 216 0)) 8 (updN (g.1 8) 216 k1)) 9 (updN (g.1 9) 216 mq)) 11 P_b, up (up (up (up (up g.2 5 S3) 6 W3) 8 L_b.length) 9 5) 10 ((if g.2 4 ≤ S3 then g.2 4 else S3) - g.2 3 + 1)) := Mw.cg (M233.tr q_M274) rfl rfl rfl rfl rfl rfl rfl rfl rfl rfl rfl rfl rfl rfl rfl rfl rfl rfl rfl rfl rfl rfl rfl rfl rfl rfl
                                have oM275 : hOb (eD E) classes H272 a 10 [.ref (ad 0), .int (nI (g.2 0)), .ref (ad 1), .int (nI (g.2 1)), .int (nI (g.2 2)), .ref (ad 2), .ref (ad 3), .ref (ad 4), .ref (ad 5), .ref (ad 6), .ref (ad 7), .ref (ad 8), .ref (ad 9), .ref (ad 10), .int (nI (g.2 3)), .int (nI (g.2 4)), .int (nI S3), .int (nI W3), .int (nI (g.2 7)), .ref (ad 11), .int (nI L_b.length), .int (nI 5), .int (nI ((if g.2 4 ≤ S3 then g.2 4 else S3) - g.2 3 + 1)), .ref (ad 12), .int (nI (g.2 11)), .ref (ad 13)] := M274.1.1
                                have i_M274 : (if g.2 4 ≤ S3 then g.2 4 else S3) = S3 := by by_cases z : g.2 4 ≤ S3; rw [if_pos z]; omega; rw [if_neg z]
                                rw [i_M274] at M274
                                have oM276 : hOb (eD E) classes H272 a 10 [.ref (ad 0), .int (nI (g.2 0)), .ref (ad 1), .int (nI (g.2 1)), .int (nI (g.2 2)), .ref (ad 2), .ref (ad 3), .ref (ad 4), .ref (ad 5), .ref (ad 6), .ref (ad 7), .ref (ad 8), .ref (ad 9), .ref (ad 10), .int (nI (g.2 3)), .int (nI (g.2 4)), .int (nI S3), .int (nI W3), .int (nI (g.2 7)), .ref (ad 11), .int (nI L_b.length), .int (nI 5), .int (nI (S3 - g.2 3 + 1)), .ref (ad 12), .int (nI (g.2 11)), .ref (ad 13)] := M274.1.1
                                subst rq_M274
                                subst hV
                                rw [← hQ]
                                exact hx_reti cx.x cx.b cx.r cx.k rfl hlo (fun _ h => h) (Nat.le_of_ble_eq_true rfl) (Nat.le_of_ble_eq_true rfl) d_Mo_words_294 (⟨_, M274, WdQ.no ⟨⟨rfl, rfl, rfl, rfl, rfl⟩, fun r hr => ⟨(show (updN (g.1 6) 216 L_a.length) r = g.1 6 r from updN_n (by omega)), (show (updN (g.1 7) 216 0) r = g.1 7 r from updN_n (by omega)), (show (updN (g.1 8) 216 k1) r = g.1 8 r from updN_n (by omega)), (show (updN (g.1 9) 216 mq) r = g.1 9 r from updN_n (by omega)), fun i hi => ⟨(show N9 _ = _ from hN9 _ (by omega)), rfl⟩⟩, ⟨rfl, rfl, rfl, rfl, rfl, rfl⟩⟩ rfl (show (5 : Nat) ≠ 0 by decide) rfl rfl⟩)
                              · rw [kd8] at htd
                                refine lv_if_eq (tgt := 289) cx.x cx.b d_Mo_words_271 (by decide) (fun c => absurd c (by decide)) (fun _ => ?_)
                                refine lv_goto (tgt := 295) cx.x cx.b d_Mo_words_274 (by decide) ?_
                                exact DS _ hlo htd _ (lv_sub hl [3, 4, 5] rfl)
                        · rw [if_neg c_S3] at M219
                          rw [decide_eq_false c_S3] at rq_M219
                          subst rq_M219
                          have oM222 : hOb (eD E) classes H217 a 10 [.ref (ad 0), .int (nI (g.2 0)), .ref (ad 1), .int (nI (g.2 1)), .int (nI (g.2 2)), .ref (ad 2), .ref (ad 3), .ref (ad 4), .ref (ad 5), .ref (ad 6), .ref (ad 7), .ref (ad 8), .ref (ad 9), .ref (ad 10), .int (nI (g.2 3)), .int (nI (g.2 4)), .int (nI S3), .int (nI W2), .int (nI (g.2 7)), .ref (ad 11), .int (nI L_a.length), .int (nI (g.2 9)), .int (nI (g.2 10)), .ref (ad 12), .int (nI (g.2 11)), .ref (ad 13)] := M219.1.1
                          rw [wdE_end (show (txt.take (g.2 4)).length ≤ S3 by omega), cnR_nil, okD_nil, if_neg (by decide)] at hV
                          refine lv_if_eq (tgt := 253) cx.x cx.b d_Mo_words_239 (by decide) (fun _ => ?_) (fun c => absurd (by decide) c)
                          refine lv_iconst (v := 0) cx.x cx.b d_Mo_words_253 (by decide) ?_
                          refine lv_istore (lv' := [(6, .int 0), (7, .int (nI j1)), (5, .int (nI k1)), (0, .ref a), (1, .int (bI true)), (2, .int 216)]) cx.x cx.b d_Mo_words_254 hl (by decide) rfl (fun ls hl => ?_)
                          refine lv_iload cx.x cx.b d_Mo_words_256 (lv_at hl 0 rfl) ?_
                          refine lv_if_eq (tgt := 289) cx.x cx.b d_Mo_words_258 (by decide) (fun _ => ?_) (fun c => absurd (by decide) c)
                          refine lv_aload_n cx.x cx.b d_Mo_words_289 rfl (lv_at hl 3 rfl) ?_
                          refine lv_iconst (v := 5) cx.x cx.b d_Mo_words_290 (by decide) ?_
                          refine hx_calli (iv_Mo_137_Mo cx (c_Mo_fail l hE M219.1 (x := 5) (show g.2 3 ≤ g.2 4 by omega) (show g.2 3 ≤ S3 by omega) (show g.2 4 < 1000 by omega) (show S3 < 1000 by omega)) oM222 rfl hl.1 rfl (Nat.le_of_ble_eq_true rfl) d_Mo_words_291 ⟨Nat.le_of_ble_eq_true rfl, Nat.le_of_ble_eq_true rfl⟩ ⟨Nat.le_of_ble_eq_true rfl, Nat.le_of_ble_eq_true rfl⟩) hlo (fun _ h => h) (fun r225 H224 locs hp223 hlo => ?_)
                          obtain ⟨rq_M226, q_M226⟩ := hp223
                          have rq_M226 : r225 = 0 := rq_M226
                          have M226 : Mw E H H224 a ad (up (up (up (up (up (up g.1 4 N9) 6 (updN (g.1 6) 216 L_a.length)) 7 (updN (g.1 7) 216 0)) 8 (updN (g.1 8) 216 k1)) 9 (updN (g.1 9) 216 mq)) 11 P_a, up (up (up (up (up g.2 5 S3) 6 W2) 8 L_a.length) 9 5) 10 ((if g.2 4 ≤ S3 then g.2 4 else S3) - g.2 3 + 1)) := Mw.cg (M219.tr q_M226) rfl rfl rfl rfl rfl rfl rfl rfl rfl rfl rfl rfl rfl rfl rfl rfl rfl rfl rfl rfl rfl rfl rfl rfl rfl rfl
                          have oM227 : hOb (eD E) classes H224 a 10 [.ref (ad 0), .int (nI (g.2 0)), .ref (ad 1), .int (nI (g.2 1)), .int (nI (g.2 2)), .ref (ad 2), .ref (ad 3), .ref (ad 4), .ref (ad 5), .ref (ad 6), .ref (ad 7), .ref (ad 8), .ref (ad 9), .ref (ad 10), .int (nI (g.2 3)), .int (nI (g.2 4)), .int (nI S3), .int (nI W2), .int (nI (g.2 7)), .ref (ad 11), .int (nI L_a.length), .int (nI 5), .int (nI ((if g.2 4 ≤ S3 then g.2 4 else S3) - g.2 3 + 1)), .ref (ad 12), .int (nI (g.2 11)), .ref (ad 13)] := M226.1.1
                          have i_M226 : (if g.2 4 ≤ S3 then g.2 4 else S3) = S3 := by by_cases z : g.2 4 ≤ S3; rw [if_pos z]; omega; rw [if_neg z]
                          rw [i_M226] at M226
                          have oM228 : hOb (eD E) classes H224 a 10 [.ref (ad 0), .int (nI (g.2 0)), .ref (ad 1), .int (nI (g.2 1)), .int (nI (g.2 2)), .ref (ad 2), .ref (ad 3), .ref (ad 4), .ref (ad 5), .ref (ad 6), .ref (ad 7), .ref (ad 8), .ref (ad 9), .ref (ad 10), .int (nI (g.2 3)), .int (nI (g.2 4)), .int (nI S3), .int (nI W2), .int (nI (g.2 7)), .ref (ad 11), .int (nI L_a.length), .int (nI 5), .int (nI (S3 - g.2 3 + 1)), .ref (ad 12), .int (nI (g.2 11)), .ref (ad 13)] := M226.1.1
                          subst rq_M226
                          subst hV
                          rw [← hQ]
                          exact hx_reti cx.x cx.b cx.r cx.k rfl hlo (fun _ h => h) (Nat.le_of_ble_eq_true rfl) (Nat.le_of_ble_eq_true rfl) d_Mo_words_294 (⟨_, M226, WdQ.no ⟨⟨rfl, rfl, rfl, rfl, rfl⟩, fun r hr => ⟨(show (updN (g.1 6) 216 L_a.length) r = g.1 6 r from updN_n (by omega)), (show (updN (g.1 7) 216 0) r = g.1 7 r from updN_n (by omega)), (show (updN (g.1 8) 216 k1) r = g.1 8 r from updN_n (by omega)), (show (updN (g.1 9) 216 mq) r = g.1 9 r from updN_n (by omega)), fun i hi => ⟨(show N9 _ = _ from hN9 _ (by omega)), rfl⟩⟩, ⟨rfl, rfl, rfl, rfl, rfl, rfl⟩⟩ rfl (show (5 : Nat) ≠ 0 by decide) rfl rfl⟩)
                      · have c8 : j1 < L_a.length := Nat.not_le.mp (fun zz => c8 ((nI_leI (a := L_a.length) (b := j1) (by omega) (by omega)).mpr zz))
                        refine lv_aload_n cx.x cx.b d_Mo_words_199 rfl (lv_at hl 2 rfl) ?_
                        refine gf_Mo_22_Mo cx oM211 rfl d_Mo_words_200 ?_
                        refine lv_bipush (v := 20) cx.x cx.b d_Mo_words_203 (by decide) ?_
                        refine lv_iload_n cx.x cx.b d_Mo_words_205 rfl (lv_at hl 4 rfl) ?_
                        refine lv_imul cx.x cx.b d_Mo_words_206 ?_
                        refine lv_topi (fun x286 e_x286 => ?_)
                        have e_x286 : x286 = nI (20 * 216) := e_x286.trans (pk_mul 20 216)
                        subst e_x286
                        refine lv_iload cx.x cx.b d_Mo_words_207 (lv_at hl 0 rfl) ?_
                        refine lv_iadd cx.x cx.b d_Mo_words_209 ?_
                        refine lv_topi (fun x287 e_x287 => ?_)
                        have e_x287 : x287 = nI ((20 * 216) + j1) := e_x287.trans (nI_add (20 * 216) j1)
                        subst e_x287
                        refine lv_aload_n cx.x cx.b d_Mo_words_210 rfl (lv_at hl 2 rfl) ?_
                        refine gf_Mo_43_Mo cx oM211 rfl d_Mo_words_211 ?_
                        refine lv_iload cx.x cx.b d_Mo_words_214 (lv_at hl 0 rfl) ?_
                        refine hx_iald cx.x cx.b cx.K 0 (M6.1.2.1 11 (by decide)) rfl (show vp_in (nI j1) 20 from vp_in_nI (show j1 < 20 by omega) (by decide)) d_Mo_words_216 ?_
                        refine lv_topi (fun x288 e_x288 => ?_)
                        have e_x288 : x288 = nI (L_a.getD j1 0) := e_x288.trans (congrArg nI ((congrArg P_a (nI_clamp (n := j1) (by omega))).trans (p_a j1 (by omega))))
                        subst e_x288
                        refine hx_iast cx.x cx.b cx.K 0 (M6.1.2.1 4 (by decide)) hlo (M6.1.2.2.2.1 4 (by decide)).1 rfl (show vp_in (nI ((20 * 216) + j1)) 4340 from vp_in_nI (show ((20 * 216) + j1) < 4340 by omega) (by decide)) d_Mo_words_217 (fun H289 locs ha290 z_H289 o_H289 hlo => ?_)
                        have M291 : Mw E H H289 a ad (up (up (up (up (up g.1 4 (updN N9 ((20 * 216) + j1) (L_a.getD j1 0))) 6 (updN (g.1 6) 216 L_a.length)) 8 (updN (g.1 8) 216 k1)) 9 (updN (g.1 9) 216 mq)) 11 P_a, up (up (up g.2 5 S2) 6 W2) 8 L_a.length) := M6.ar (up (up (up (up (up g.1 4 (updN N9 ((20 * 216) + j1) (L_a.getD j1 0))) 6 (updN (g.1 6) 216 L_a.length)) 8 (updN (g.1 8) 216 k1)) 9 (updN (g.1 9) 216 mq)) 11 P_a, up (up (up g.2 5 S2) 6 W2) 8 L_a.length) 4 (by decide) (by have h9 := ha290; rw [show (nI ((20 * 216) + j1) : Int32).toNatClampNeg = ((20 * 216) + j1) from nI_clamp (n := ((20 * 216) + j1)) (by omega)] at h9; have h9 : hAi H289 (ad 4) (eA E 0) (arL 4) (upd (fun i => nI (N9 i)) ((20 * 216) + j1) (nI (L_a.getD j1 0))) := h9; rw [upd_nI] at h9; exact h9) z_H289 o_H289 rfl (fun j hj hn => arN4 hj hn rfl rfl rfl rfl rfl rfl rfl rfl rfl rfl rfl rfl rfl)
                        have oM292 : hOb (eD E) classes H289 a 10 [.ref (ad 0), .int (nI (g.2 0)), .ref (ad 1), .int (nI (g.2 1)), .int (nI (g.2 2)), .ref (ad 2), .ref (ad 3), .ref (ad 4), .ref (ad 5), .ref (ad 6), .ref (ad 7), .ref (ad 8), .ref (ad 9), .ref (ad 10), .int (nI (g.2 3)), .int (nI (g.2 4)), .int (nI S2), .int (nI W2), .int (nI (g.2 7)), .ref (ad 11), .int (nI L_a.length), .int (nI (g.2 9)), .int (nI (g.2 10)), .ref (ad 12), .int (nI (g.2 11)), .ref (ad 13)] := M291.1.1
                        obtain ⟨x293, e_x293⟩ : ∃ y : Int32, y = nI j1 + 1 := ⟨_, rfl⟩
                        refine lv_iinc (v := x293) (lv' := [(7, .int x293), (5, .int (nI k1)), (0, .ref a), (1, .int (bI true)), (2, .int 216)]) cx.x cx.b d_Mo_words_218 hl (k := 0) rfl (by rw [e_x293]; rfl) (by decide) rfl (fun ls hl => ?_)
                        have e_x293 : x293 = nI (j1 + 1) := e_x293.trans (nI_add j1 1)
                        subst e_x293
                        refine lv_goto (tgt := 190) cx.x cx.b d_Mo_words_221 (by decide) ?_
                        exact ih _ (j1 + 1) _ _ hlo (by omega) (by omega) M291 (fun i hi => (updN_n (by omega)).trans (hN9 i hi)) (fun i hi => by by_cases e : i = j1; rw [e]; exact updN_s; exact (updN_n (by omega)).trans (hC_a i (by omega))) _ (lv_sub hl [0, 1, 2, 3, 4] rfl)
                  exact CP_a _ _ 0 (g.1 4) _ hlo (Nat.lt_succ_self _) (Nat.zero_le _) (Mw.cg M209 rfl rfl rfl rfl rfl rfl rfl rfl rfl rfl rfl rfl rfl rfl rfl rfl rfl rfl rfl rfl rfl rfl rfl rfl rfl rfl) (fun i _ => rfl) (fun i hi => absurd hi (Nat.not_lt_zero i)) _ (lv_sub hl [0, 1, 3, 4, 5] rfl)
                refine lv_aload_n cx.x cx.b d_Mo_words_132 rfl (lv_at hl 4 rfl) ?_
                refine lv_iconst (v := 0) cx.x cx.b d_Mo_words_133 (by decide) ?_
                refine lv_aload_n cx.x cx.b d_Mo_words_134 rfl (lv_at hl 4 rfl) ?_
                refine gf_Mo_95_Mo cx oM206 rfl d_Mo_words_135 ?_
                refine lv_iload_n cx.x cx.b d_Mo_words_138 rfl (lv_at hl 5 rfl) ?_
                refine lv_if_eq (tgt := 146) cx.x cx.b d_Mo_words_139 (by decide) (fun c => absurd c (by decide)) (fun _ => ?_)
                refine lv_iconst (v := 0) cx.x cx.b d_Mo_words_142 (by decide) ?_
                refine lv_goto (tgt := 148) cx.x cx.b d_Mo_words_143 (by decide) ?_
                refine hx_calli (iv_Mo_105_Mo cx (c_Mo_dotted l hE M198.1 (L := L_a) p_a rfl l_a o_a (a1 := 0) (b1 := L_a.length) (sp := 0) (Nat.zero_le _) (Nat.le_refl _) (by decide)) oM206 rfl hl.1 rfl (Nat.le_of_ble_eq_true rfl) d_Mo_words_148 ⟨Nat.le_of_ble_eq_true rfl, Nat.le_of_ble_eq_true rfl⟩ ⟨Nat.le_of_ble_eq_true rfl, Nat.le_of_ble_eq_true rfl⟩) hlo (fun _ h => h) (fun r296 H295 locs hp294 hlo => ?_)
                obtain ⟨hp294, hH9⟩ := hp294
                have hH9 := hH9.symm
                subst hH9
                subst hp294
                rw [List.take_length, List.drop_zero]
                have htn := tkN_some (mem := true) (k := k1) k_a
                have htn : tkN true k1 (g.2 7) (wdO txt S2 W2) = (dtF 0 L_a true || (true && decide (k1 = 1) && decide (L_a = strL 14))) := htn
                rcases kd9 : dtF 0 L_a true
                · refine lv_if_ne (tgt := 177) cx.x cx.b d_Mo_words_151 (by decide) (fun c => absurd (by decide) c) (fun _ => ?_)
                  rw [kd9, Bool.false_or] at htn
                  refine lv_iload_n cx.x cx.b d_Mo_words_154 rfl (lv_at hl 5 rfl) ?_
                  refine lv_if_eq (tgt := 171) cx.x cx.b d_Mo_words_155 (by decide) (fun c => absurd c (by decide)) (fun _ => ?_)
                  refine lv_iload cx.x cx.b d_Mo_words_158 (lv_at hl 1 rfl) ?_
                  refine lv_iconst (v := 1) cx.x cx.b d_Mo_words_160 (by decide) ?_
                  refine lv_icmp_ne (tgt := 171) cx.x cx.b d_Mo_words_161 (by decide) (fun c4 => ?_) (fun c4 => ?_)
                  · have c4 : k1 ≠ 1 := fun zz => c4 ((nI_eq (a := k1) (b := 1) (by omega) (by omega)).mpr zz)
                    have htn : tkN true k1 (g.2 7) (wdO txt S2 W2) = false := by rw [htn]; rw [decide_eq_false c4]; rfl
                    rw [htn, if_neg (by decide)] at hV
                    refine lv_aload_n cx.x cx.b d_Mo_words_171 rfl (lv_at hl 4 rfl) ?_
                    refine lv_iconst (v := 4) cx.x cx.b d_Mo_words_172 (by decide) ?_
                    refine hx_calli (iv_Mo_137_Mo cx (c_Mo_fail l hE M198.1 (x := 4) (show g.2 3 ≤ g.2 4 by omega) (show g.2 3 ≤ S2 by omega) (show g.2 4 < 1000 by omega) (show S2 < 1000 by omega)) oM206 rfl hl.1 rfl (Nat.le_of_ble_eq_true rfl) d_Mo_words_173 ⟨Nat.le_of_ble_eq_true rfl, Nat.le_of_ble_eq_true rfl⟩ ⟨Nat.le_of_ble_eq_true rfl, Nat.le_of_ble_eq_true rfl⟩) hlo (fun _ h => h) (fun r299 H298 locs hp297 hlo => ?_)
                    obtain ⟨rq_M300, q_M300⟩ := hp297
                    have rq_M300 : r299 = 0 := rq_M300
                    have M300 : Mw E H H298 a ad (up (up (up g.1 8 (updN (g.1 8) 216 k1)) 9 (updN (g.1 9) 216 mq)) 11 P_a, up (up (up (up (up g.2 5 S2) 6 W2) 8 L_a.length) 9 4) 10 ((if g.2 4 ≤ S2 then g.2 4 else S2) - g.2 3 + 1)) := Mw.cg (M198.tr q_M300) rfl rfl rfl rfl rfl rfl rfl rfl rfl rfl rfl rfl rfl rfl rfl rfl rfl rfl rfl rfl rfl rfl rfl rfl rfl rfl
                    have oM301 : hOb (eD E) classes H298 a 10 [.ref (ad 0), .int (nI (g.2 0)), .ref (ad 1), .int (nI (g.2 1)), .int (nI (g.2 2)), .ref (ad 2), .ref (ad 3), .ref (ad 4), .ref (ad 5), .ref (ad 6), .ref (ad 7), .ref (ad 8), .ref (ad 9), .ref (ad 10), .int (nI (g.2 3)), .int (nI (g.2 4)), .int (nI S2), .int (nI W2), .int (nI (g.2 7)), .ref (ad 11), .int (nI L_a.length), .int (nI 4), .int (nI ((if g.2 4 ≤ S2 then g.2 4 else S2) - g.2 3 + 1)), .ref (ad 12), .int (nI (g.2 11)), .ref (ad 13)] := M300.1.1
                    have i_M300 : (if g.2 4 ≤ S2 then g.2 4 else S2) = S2 := by by_cases z : g.2 4 ≤ S2; rw [if_pos z]; omega; rw [if_neg z]
                    rw [i_M300] at M300
                    have oM302 : hOb (eD E) classes H298 a 10 [.ref (ad 0), .int (nI (g.2 0)), .ref (ad 1), .int (nI (g.2 1)), .int (nI (g.2 2)), .ref (ad 2), .ref (ad 3), .ref (ad 4), .ref (ad 5), .ref (ad 6), .ref (ad 7), .ref (ad 8), .ref (ad 9), .ref (ad 10), .int (nI (g.2 3)), .int (nI (g.2 4)), .int (nI S2), .int (nI W2), .int (nI (g.2 7)), .ref (ad 11), .int (nI L_a.length), .int (nI 4), .int (nI (S2 - g.2 3 + 1)), .ref (ad 12), .int (nI (g.2 11)), .ref (ad 13)] := M300.1.1
                    subst rq_M300
                    subst hV
                    rw [← hQ]
                    exact hx_reti cx.x cx.b cx.r cx.k rfl hlo (fun _ h => h) (Nat.le_of_ble_eq_true rfl) (Nat.le_of_ble_eq_true rfl) d_Mo_words_176 (⟨_, M300, WdQ.no ⟨⟨rfl, rfl, rfl, rfl, rfl⟩, fun r hr => ⟨rfl, rfl, (show (updN (g.1 8) 216 k1) r = g.1 8 r from updN_n (by omega)), (show (updN (g.1 9) 216 mq) r = g.1 9 r from updN_n (by omega)), fun i hi => ⟨rfl, rfl⟩⟩, ⟨rfl, rfl, rfl, rfl, rfl, rfl⟩⟩ rfl (show (4 : Nat) ≠ 0 by decide) rfl rfl⟩)
                  · have c4 : k1 = 1 := (nI_eq (a := k1) (b := 1) (by omega) (by omega)).mp c4
                    refine lv_aload_n cx.x cx.b d_Mo_words_164 rfl (lv_at hl 4 rfl) ?_
                    refine hx_calli (iv_Mo_146_Mo cx (c_Mo_init2 l hE M198.1 (L := L_a) p_a rfl l_a o_a) oM206 rfl hl.1 rfl (Nat.le_of_ble_eq_true rfl) d_Mo_words_165 ⟨Nat.le_of_ble_eq_true rfl, Nat.le_of_ble_eq_true rfl⟩ ⟨Nat.le_of_ble_eq_true rfl, Nat.le_of_ble_eq_true rfl⟩) hlo (fun _ h => h) (fun r305 H304 locs hp303 hlo => ?_)
                    obtain ⟨hp303, hH9⟩ := hp303
                    have hH9 := hH9.symm
                    subst hH9
                    subst hp303
                    by_cases c5 : L_a = strL 14
                    · rw [decide_eq_true c5]
                      refine lv_if_ne (tgt := 177) cx.x cx.b d_Mo_words_168 (by decide) (fun _ => ?_) (fun c => absurd c (by decide))
                      rw [decide_eq_true c4, decide_eq_true c5] at htn
                      exact NM _ hlo htn _ (lv_sub hl [1, 3, 4, 5, 6] rfl)
                    · rw [decide_eq_false c5]
                      refine lv_if_ne (tgt := 177) cx.x cx.b d_Mo_words_168 (by decide) (fun c => absurd (by decide) c) (fun _ => ?_)
                      have htn : tkN true k1 (g.2 7) (wdO txt S2 W2) = false := by rw [htn]; rw [decide_eq_false c5]; exact Bool.and_false _
                      rw [htn, if_neg (by decide)] at hV
                      refine lv_aload_n cx.x cx.b d_Mo_words_171 rfl (lv_at hl 4 rfl) ?_
                      refine lv_iconst (v := 4) cx.x cx.b d_Mo_words_172 (by decide) ?_
                      refine hx_calli (iv_Mo_137_Mo cx (c_Mo_fail l hE M198.1 (x := 4) (show g.2 3 ≤ g.2 4 by omega) (show g.2 3 ≤ S2 by omega) (show g.2 4 < 1000 by omega) (show S2 < 1000 by omega)) oM206 rfl hl.1 rfl (Nat.le_of_ble_eq_true rfl) d_Mo_words_173 ⟨Nat.le_of_ble_eq_true rfl, Nat.le_of_ble_eq_true rfl⟩ ⟨Nat.le_of_ble_eq_true rfl, Nat.le_of_ble_eq_true rfl⟩) hlo (fun _ h => h) (fun r308 H307 locs hp306 hlo => ?_)
                      obtain ⟨rq_M309, q_M309⟩ := hp306
                      have rq_M309 : r308 = 0 := rq_M309
                      have M309 : Mw E H H307 a ad (up (up (up g.1 8 (updN (g.1 8) 216 k1)) 9 (updN (g.1 9) 216 mq)) 11 P_a, up (up (up (up (up g.2 5 S2) 6 W2) 8 L_a.length) 9 4) 10 ((if g.2 4 ≤ S2 then g.2 4 else S2) - g.2 3 + 1)) := Mw.cg (M198.tr q_M309) rfl rfl rfl rfl rfl rfl rfl rfl rfl rfl rfl rfl rfl rfl rfl rfl rfl rfl rfl rfl rfl rfl rfl rfl rfl rfl
                      have oM310 : hOb (eD E) classes H307 a 10 [.ref (ad 0), .int (nI (g.2 0)), .ref (ad 1), .int (nI (g.2 1)), .int (nI (g.2 2)), .ref (ad 2), .ref (ad 3), .ref (ad 4), .ref (ad 5), .ref (ad 6), .ref (ad 7), .ref (ad 8), .ref (ad 9), .ref (ad 10), .int (nI (g.2 3)), .int (nI (g.2 4)), .int (nI S2), .int (nI W2), .int (nI (g.2 7)), .ref (ad 11), .int (nI L_a.length), .int (nI 4), .int (nI ((if g.2 4 ≤ S2 then g.2 4 else S2) - g.2 3 + 1)), .ref (ad 12), .int (nI (g.2 11)), .ref (ad 13)] := M309.1.1
                      have i_M309 : (if g.2 4 ≤ S2 then g.2 4 else S2) = S2 := by by_cases z : g.2 4 ≤ S2; rw [if_pos z]; omega; rw [if_neg z]
                      rw [i_M309] at M309
                      have oM311 : hOb (eD E) classes H307 a 10 [.ref (ad 0), .int (nI (g.2 0)), .ref (ad 1), .int (nI (g.2 1)), .int (nI (g.2 2)), .ref (ad 2), .ref (ad 3), .ref (ad 4), .ref (ad 5), .ref (ad 6), .ref (ad 7), .ref (ad 8), .ref (ad 9), .ref (ad 10), .int (nI (g.2 3)), .int (nI (g.2 4)), .int (nI S2), .int (nI W2), .int (nI (g.2 7)), .ref (ad 11), .int (nI L_a.length), .int (nI 4), .int (nI (S2 - g.2 3 + 1)), .ref (ad 12), .int (nI (g.2 11)), .ref (ad 13)] := M309.1.1
                      subst rq_M309
                      subst hV
                      rw [← hQ]
                      exact hx_reti cx.x cx.b cx.r cx.k rfl hlo (fun _ h => h) (Nat.le_of_ble_eq_true rfl) (Nat.le_of_ble_eq_true rfl) d_Mo_words_176 (⟨_, M309, WdQ.no ⟨⟨rfl, rfl, rfl, rfl, rfl⟩, fun r hr => ⟨rfl, rfl, (show (updN (g.1 8) 216 k1) r = g.1 8 r from updN_n (by omega)), (show (updN (g.1 9) 216 mq) r = g.1 9 r from updN_n (by omega)), fun i hi => ⟨rfl, rfl⟩⟩, ⟨rfl, rfl, rfl, rfl, rfl, rfl⟩⟩ rfl (show (4 : Nat) ≠ 0 by decide) rfl rfl⟩)
                · refine lv_if_ne (tgt := 177) cx.x cx.b d_Mo_words_151 (by decide) (fun _ => ?_) (fun c => absurd c (by decide))
                  rw [kd9, Bool.true_or] at htn
                  exact NM _ hlo htn _ (lv_sub hl [1, 3, 4, 5, 6] rfl)
            · rw [if_neg c_S2] at M184
              rw [decide_eq_false c_S2] at rq_M184
              subst rq_M184
              have oM187 : hOb (eD E) classes H182 a 10 [.ref (ad 0), .int (nI (g.2 0)), .ref (ad 1), .int (nI (g.2 1)), .int (nI (g.2 2)), .ref (ad 2), .ref (ad 3), .ref (ad 4), .ref (ad 5), .ref (ad 6), .ref (ad 7), .ref (ad 8), .ref (ad 9), .ref (ad 10), .int (nI (g.2 3)), .int (nI (g.2 4)), .int (nI S2), .int (nI W1), .int (nI (g.2 7)), .ref (ad 11), .int (nI (g.2 8)), .int (nI (g.2 9)), .int (nI (g.2 10)), .ref (ad 12), .int (nI (g.2 11)), .ref (ad 13)] := M184.1.1
              rw [wdE_end (show (txt.take (g.2 4)).length ≤ S2 by omega), cnR_nil, okN_nil, if_neg (by decide)] at hV
              refine lv_if_eq (tgt := 124) cx.x cx.b d_Mo_words_110 (by decide) (fun _ => ?_) (fun c => absurd (by decide) c)
              refine lv_iconst (v := 0) cx.x cx.b d_Mo_words_124 (by decide) ?_
              refine lv_istore (lv' := [(6, .int 0), (5, .int (nI k1)), (4, .int (bI true)), (3, .int (nI mq)), (0, .ref a), (1, .int (bI true)), (2, .int 216)]) cx.x cx.b d_Mo_words_125 hl (by decide) rfl (fun ls hl => ?_)
              refine lv_iload cx.x cx.b d_Mo_words_127 (lv_at hl 0 rfl) ?_
              refine lv_if_eq (tgt := 171) cx.x cx.b d_Mo_words_129 (by decide) (fun _ => ?_) (fun c => absurd (by decide) c)
              refine lv_aload_n cx.x cx.b d_Mo_words_171 rfl (lv_at hl 4 rfl) ?_
              refine lv_iconst (v := 4) cx.x cx.b d_Mo_words_172 (by decide) ?_
              refine hx_calli (iv_Mo_137_Mo cx (c_Mo_fail l hE M184.1 (x := 4) (show g.2 3 ≤ g.2 4 by omega) (show g.2 3 ≤ S2 by omega) (show g.2 4 < 1000 by omega) (show S2 < 1000 by omega)) oM187 rfl hl.1 rfl (Nat.le_of_ble_eq_true rfl) d_Mo_words_173 ⟨Nat.le_of_ble_eq_true rfl, Nat.le_of_ble_eq_true rfl⟩ ⟨Nat.le_of_ble_eq_true rfl, Nat.le_of_ble_eq_true rfl⟩) hlo (fun _ h => h) (fun r190 H189 locs hp188 hlo => ?_)
              obtain ⟨rq_M191, q_M191⟩ := hp188
              have rq_M191 : r190 = 0 := rq_M191
              have M191 : Mw E H H189 a ad (up (up g.1 8 (updN (g.1 8) 216 k1)) 9 (updN (g.1 9) 216 mq), up (up (up (up g.2 5 S2) 6 W1) 9 4) 10 ((if g.2 4 ≤ S2 then g.2 4 else S2) - g.2 3 + 1)) := Mw.cg (M184.tr q_M191) rfl rfl rfl rfl rfl rfl rfl rfl rfl rfl rfl rfl rfl rfl rfl rfl rfl rfl rfl rfl rfl rfl rfl rfl rfl rfl
              have oM192 : hOb (eD E) classes H189 a 10 [.ref (ad 0), .int (nI (g.2 0)), .ref (ad 1), .int (nI (g.2 1)), .int (nI (g.2 2)), .ref (ad 2), .ref (ad 3), .ref (ad 4), .ref (ad 5), .ref (ad 6), .ref (ad 7), .ref (ad 8), .ref (ad 9), .ref (ad 10), .int (nI (g.2 3)), .int (nI (g.2 4)), .int (nI S2), .int (nI W1), .int (nI (g.2 7)), .ref (ad 11), .int (nI (g.2 8)), .int (nI 4), .int (nI ((if g.2 4 ≤ S2 then g.2 4 else S2) - g.2 3 + 1)), .ref (ad 12), .int (nI (g.2 11)), .ref (ad 13)] := M191.1.1
              have i_M191 : (if g.2 4 ≤ S2 then g.2 4 else S2) = S2 := by by_cases z : g.2 4 ≤ S2; rw [if_pos z]; omega; rw [if_neg z]
              rw [i_M191] at M191
              have oM193 : hOb (eD E) classes H189 a 10 [.ref (ad 0), .int (nI (g.2 0)), .ref (ad 1), .int (nI (g.2 1)), .int (nI (g.2 2)), .ref (ad 2), .ref (ad 3), .ref (ad 4), .ref (ad 5), .ref (ad 6), .ref (ad 7), .ref (ad 8), .ref (ad 9), .ref (ad 10), .int (nI (g.2 3)), .int (nI (g.2 4)), .int (nI S2), .int (nI W1), .int (nI (g.2 7)), .ref (ad 11), .int (nI (g.2 8)), .int (nI 4), .int (nI (S2 - g.2 3 + 1)), .ref (ad 12), .int (nI (g.2 11)), .ref (ad 13)] := M191.1.1
              subst rq_M191
              subst hV
              rw [← hQ]
              exact hx_reti cx.x cx.b cx.r cx.k rfl hlo (fun _ h => h) (Nat.le_of_ble_eq_true rfl) (Nat.le_of_ble_eq_true rfl) d_Mo_words_176 (⟨_, M191, WdQ.no ⟨⟨rfl, rfl, rfl, rfl, rfl⟩, fun r hr => ⟨rfl, rfl, (show (updN (g.1 8) 216 k1) r = g.1 8 r from updN_n (by omega)), (show (updN (g.1 9) 216 mq) r = g.1 9 r from updN_n (by omega)), fun i hi => ⟨rfl, rfl⟩⟩, ⟨rfl, rfl, rfl, rfl, rfl, rfl⟩⟩ rfl (show (4 : Nat) ≠ 0 by decide) rfl rfl⟩)
        · have c2 : 0 < (mkH true (wdO txt S1 W1)) := Nat.not_le.mp (fun zz => c2 ((nI_leI (a := (mkH true (wdO txt S1 W1))) (b := 0) (by omega) (by omega)).mpr zz))
          rw [if_neg (by omega)] at hR
          refine lv_iload_n cx.x cx.b d_Mo_words_24 rfl (lv_at hl 3 rfl) ?_
          refine lv_aload_n cx.x cx.b d_Mo_words_25 rfl (lv_at hl 2 rfl) ?_
          refine hx_calll (iv_Mo_129_Mo cx (c_Mo_word l hE M5.1 hx hxc hxl (show S1 ≤ W1 by omega) (show W1 ≤ g.2 4 by omega) c1 hen) oM127 rfl hl.1 rfl (Nat.le_of_ble_eq_true rfl) d_Mo_words_26 ⟨Nat.le_of_ble_eq_true rfl, Nat.le_of_ble_eq_true rfl⟩ ⟨Nat.le_of_ble_eq_true rfl, Nat.le_of_ble_eq_true rfl⟩) hlo (fun _ h => h) (fun r142 H141 locs hp140 hlo => ?_)
          obtain ⟨hp140, hH9⟩ := hp140
          have hH9 := hH9.symm
          subst hH9
          have hp140 : r142 = lN (wrd (wdO txt S1 W1)) := hp140
          subst hp140
          refine hx_calli (iv_Mo_133 cx (c_Mo_mark_t l hE (H := H5) (wdO_okW hxc)) rfl hl.1 rfl (Nat.le_of_ble_eq_true rfl) d_Mo_words_29 ⟨Nat.le_of_ble_eq_true rfl, Nat.le_of_ble_eq_true rfl⟩ ⟨Nat.le_of_ble_eq_true rfl, Nat.le_of_ble_eq_true rfl⟩) hlo (fun _ h => h) (fun r145 H144 locs hp143 hlo => ?_)
          obtain ⟨hp143, hH9⟩ := hp143
          have hH9 := hH9.symm
          subst hH9
          subst hp143
          refine lv_istore (lv' := [(5, .int (nI (mkH true (wdO txt S1 W1)))), (4, .int (bI true)), (3, .int (nI mq)), (0, .ref a), (1, .int (bI true)), (2, .int 216)]) cx.x cx.b d_Mo_words_32 hl (by decide) rfl (fun ls hl => ?_)
          refine lv_iload_n cx.x cx.b d_Mo_words_34 rfl (lv_at hl 2 rfl) ?_
          refine lv_iload cx.x cx.b d_Mo_words_35 (lv_at hl 0 rfl) ?_
          refine lv_iand cx.x cx.b d_Mo_words_37 ?_
          refine lv_topi (fun x146 e_x146 => ?_)
          have e_x146 : x146 = nI (mq &&& mkH true (wdO txt S1 W1)) := e_x146.trans ((nI_and mq h64 _ hml).1)
          subst e_x146
          have ha9 := (nI_and mq h64 _ hml).2.2.1
          refine lv_if_eq (tgt := 47) cx.x cx.b d_Mo_words_38 (by decide) (fun c3 => ?_) (fun c3 => ?_)
          · have c3 : (mq &&& mkH true (wdO txt S1 W1)) = 0 := (nI_eq (a := (mq &&& mkH true (wdO txt S1 W1))) (b := 0) (by omega) (by omega)).mp c3
            rw [if_neg (fun z => z c3)] at hR
            have hg9 := mk_go hmq (show mkH true (wdO txt S1 W1) ≠ 0 by omega) c3
            refine lv_iload_n cx.x cx.b d_Mo_words_47 rfl (lv_at hl 2 rfl) ?_
            refine lv_iload cx.x cx.b d_Mo_words_48 (lv_at hl 0 rfl) ?_
            refine lv_iadd cx.x cx.b d_Mo_words_50 ?_
            refine lv_topi (fun x153 e_x153 => ?_)
            have e_x153 : x153 = nI (mq + (mkH true (wdO txt S1 W1))) := e_x153.trans (nI_add mq (mkH true (wdO txt S1 W1)))
            subst e_x153
            refine lv_istore_n (lv' := [(3, .int (nI (mq + (mkH true (wdO txt S1 W1))))), (5, .int (nI (mkH true (wdO txt S1 W1)))), (4, .int (bI true)), (0, .ref a), (1, .int (bI true)), (2, .int 216)]) cx.x cx.b d_Mo_words_51 rfl hl (by decide) rfl (fun ls hl => ?_)
            refine lv_aload_n cx.x cx.b d_Mo_words_52 rfl (lv_at hl 3 rfl) ?_
            refine hx_calli (iv_Mo_125_Mo cx (c_Mo_next l hE M5.1 hx hxc hxl (show W1 ≤ g.2 4 by omega) hen) oM127 rfl hl.1 rfl (Nat.le_of_ble_eq_true rfl) d_Mo_words_53 ⟨Nat.le_of_ble_eq_true rfl, Nat.le_of_ble_eq_true rfl⟩ ⟨Nat.le_of_ble_eq_true rfl, Nat.le_of_ble_eq_true rfl⟩) hlo (fun _ h => h) (fun r156 H155 locs hp154 hlo => ?_)
            obtain ⟨rq_M157, q_M157⟩ := hp154
            have rq_M157 : r156 = bI (decide (wdS (txt.take (g.2 4)) W1 < g.2 4)) := rq_M157
            have M157 : Mw E H H155 a ad (g.1, up (up g.2 5 (wdS (txt.take (g.2 4)) W1)) 6 (if wdS (txt.take (g.2 4)) W1 < g.2 4 then wdE (txt.take (g.2 4)) (wdS (txt.take (g.2 4)) W1) else W1)) := Mw.cg (M5.tr q_M157) rfl rfl rfl rfl rfl rfl rfl rfl rfl rfl rfl rfl rfl rfl rfl rfl rfl rfl rfl rfl rfl rfl rfl rfl rfl rfl
            have oM158 : hOb (eD E) classes H155 a 10 [.ref (ad 0), .int (nI (g.2 0)), .ref (ad 1), .int (nI (g.2 1)), .int (nI (g.2 2)), .ref (ad 2), .ref (ad 3), .ref (ad 4), .ref (ad 5), .ref (ad 6), .ref (ad 7), .ref (ad 8), .ref (ad 9), .ref (ad 10), .int (nI (g.2 3)), .int (nI (g.2 4)), .int (nI (wdS (txt.take (g.2 4)) W1)), .int (nI (if wdS (txt.take (g.2 4)) W1 < g.2 4 then wdE (txt.take (g.2 4)) (wdS (txt.take (g.2 4)) W1) else W1)), .int (nI (g.2 7)), .ref (ad 11), .int (nI (g.2 8)), .int (nI (g.2 9)), .int (nI (g.2 10)), .ref (ad 12), .int (nI (g.2 11)), .ref (ad 13)] := M157.1.1
            have a_S2 := wdS_le (L := (txt.take (g.2 4))) (i := W1) (by omega)
            have n_S2 := wdS_not (i := W1) hen (g.2 4 - W1) rfl (by omega)
            have b_S2 := wdE_le (L := (txt.take (g.2 4))) (i := wdS (txt.take (g.2 4)) W1) (by omega)
            generalize h_S2 : wdS (txt.take (g.2 4)) W1 = S2 at rq_M157 M157 a_S2 n_S2 b_S2 hR
            by_cases c_S2 : S2 < g.2 4
            · rw [if_pos c_S2] at M157
              rw [decide_eq_true c_S2] at rq_M157
              subst rq_M157
              have oM159 : hOb (eD E) classes H155 a 10 [.ref (ad 0), .int (nI (g.2 0)), .ref (ad 1), .int (nI (g.2 1)), .int (nI (g.2 2)), .ref (ad 2), .ref (ad 3), .ref (ad 4), .ref (ad 5), .ref (ad 6), .ref (ad 7), .ref (ad 8), .ref (ad 9), .ref (ad 10), .int (nI (g.2 3)), .int (nI (g.2 4)), .int (nI S2), .int (nI (wdE (txt.take (g.2 4)) S2)), .int (nI (g.2 7)), .ref (ad 11), .int (nI (g.2 8)), .int (nI (g.2 9)), .int (nI (g.2 10)), .ref (ad 12), .int (nI (g.2 11)), .ref (ad 13)] := M157.1.1
              refine lv_istore (lv' := [(4, .int (bI true)), (3, .int (nI (mq + (mkH true (wdO txt S1 W1))))), (5, .int (nI (mkH true (wdO txt S1 W1)))), (0, .ref a), (1, .int (bI true)), (2, .int 216)]) cx.x cx.b d_Mo_words_56 hl (by decide) rfl (fun ls hl => ?_)
              refine lv_goto (tgt := 8) cx.x cx.b d_Mo_words_58 (by decide) ?_
              rw [show (mq + mkH true (wdO txt S1 W1)) = (mq ||| mkH true (wdO txt S1 W1)) from hg9.2.1.symm] at hl
              have hl2 : lv_has ls 8 [(4, .int (bI (decide (S2 < g.2 4)))), (3, .int (nI (mq ||| mkH true (wdO txt S1 W1)))), (0, .ref a), (1, .int (bI true)), (2, .int 216)] := by rw [decide_eq_true c_S2]; exact lv_sub hl [0, 1, 3, 4, 5] rfl
              exact ih _ n8 (mq ||| mkH true (wdO txt S1 W1)) S2 (wdE (txt.take (g.2 4)) S2) _ hlo (by omega) hg9.2.2 (by omega) ⟨by omega, by omega⟩ ⟨fun _ => ⟨rfl, n_S2 c_S2⟩, by omega⟩ M157 hR _ hl2
            · rw [if_neg c_S2] at M157
              rw [decide_eq_false c_S2] at rq_M157
              subst rq_M157
              have oM160 : hOb (eD E) classes H155 a 10 [.ref (ad 0), .int (nI (g.2 0)), .ref (ad 1), .int (nI (g.2 1)), .int (nI (g.2 2)), .ref (ad 2), .ref (ad 3), .ref (ad 4), .ref (ad 5), .ref (ad 6), .ref (ad 7), .ref (ad 8), .ref (ad 9), .ref (ad 10), .int (nI (g.2 3)), .int (nI (g.2 4)), .int (nI S2), .int (nI W1), .int (nI (g.2 7)), .ref (ad 11), .int (nI (g.2 8)), .int (nI (g.2 9)), .int (nI (g.2 10)), .ref (ad 12), .int (nI (g.2 11)), .ref (ad 13)] := M157.1.1
              refine lv_istore (lv' := [(4, .int (bI false)), (3, .int (nI (mq + (mkH true (wdO txt S1 W1))))), (5, .int (nI (mkH true (wdO txt S1 W1)))), (0, .ref a), (1, .int (bI true)), (2, .int 216)]) cx.x cx.b d_Mo_words_56 hl (by decide) rfl (fun ls hl => ?_)
              refine lv_goto (tgt := 8) cx.x cx.b d_Mo_words_58 (by decide) ?_
              rw [show (mq + mkH true (wdO txt S1 W1)) = (mq ||| mkH true (wdO txt S1 W1)) from hg9.2.1.symm] at hl
              have hl2 : lv_has ls 8 [(4, .int (bI (decide (S2 < g.2 4)))), (3, .int (nI (mq ||| mkH true (wdO txt S1 W1)))), (0, .ref a), (1, .int (bI true)), (2, .int 216)] := by rw [decide_eq_false c_S2]; exact lv_sub hl [0, 1, 3, 4, 5] rfl
              exact ih _ n8 (mq ||| mkH true (wdO txt S1 W1)) S2 W1 _ hlo (by omega) hg9.2.2 (by omega) ⟨by omega, by omega⟩ ⟨fun z => absurd z c_S2, by omega⟩ M157 hR _ hl2
          · have c3 : (mq &&& mkH true (wdO txt S1 W1)) ≠ 0 := fun zz => c3 ((nI_eq (a := (mq &&& mkH true (wdO txt S1 W1))) (b := 0) (by omega) (by omega)).mpr zz)
            rw [if_pos c3] at hR
            subst hR
            have hV : (2, S1, W1, default) = V9 := hV
            refine lv_aload_n cx.x cx.b d_Mo_words_41 rfl (lv_at hl 3 rfl) ?_
            refine lv_iconst (v := 2) cx.x cx.b d_Mo_words_42 (by decide) ?_
            refine hx_calli (iv_Mo_137_Mo cx (c_Mo_fail l hE M5.1 (x := 2) (show g.2 3 ≤ g.2 4 by omega) (show g.2 3 ≤ S1 by omega) (show g.2 4 < 1000 by omega) (show S1 < 1000 by omega)) oM127 rfl hl.1 rfl (Nat.le_of_ble_eq_true rfl) d_Mo_words_43 ⟨Nat.le_of_ble_eq_true rfl, Nat.le_of_ble_eq_true rfl⟩ ⟨Nat.le_of_ble_eq_true rfl, Nat.le_of_ble_eq_true rfl⟩) hlo (fun _ h => h) (fun r149 H148 locs hp147 hlo => ?_)
            obtain ⟨rq_M150, q_M150⟩ := hp147
            have rq_M150 : r149 = 0 := rq_M150
            have M150 : Mw E H H148 a ad (g.1, up (up (up (up g.2 5 S1) 6 W1) 9 2) 10 ((if g.2 4 ≤ S1 then g.2 4 else S1) - g.2 3 + 1)) := Mw.cg (M5.tr q_M150) rfl rfl rfl rfl rfl rfl rfl rfl rfl rfl rfl rfl rfl rfl rfl rfl rfl rfl rfl rfl rfl rfl rfl rfl rfl rfl
            have oM151 : hOb (eD E) classes H148 a 10 [.ref (ad 0), .int (nI (g.2 0)), .ref (ad 1), .int (nI (g.2 1)), .int (nI (g.2 2)), .ref (ad 2), .ref (ad 3), .ref (ad 4), .ref (ad 5), .ref (ad 6), .ref (ad 7), .ref (ad 8), .ref (ad 9), .ref (ad 10), .int (nI (g.2 3)), .int (nI (g.2 4)), .int (nI S1), .int (nI W1), .int (nI (g.2 7)), .ref (ad 11), .int (nI (g.2 8)), .int (nI 2), .int (nI ((if g.2 4 ≤ S1 then g.2 4 else S1) - g.2 3 + 1)), .ref (ad 12), .int (nI (g.2 11)), .ref (ad 13)] := M150.1.1
            have i_M150 : (if g.2 4 ≤ S1 then g.2 4 else S1) = S1 := by by_cases z : g.2 4 ≤ S1; rw [if_pos z]; omega; rw [if_neg z]
            rw [i_M150] at M150
            have oM152 : hOb (eD E) classes H148 a 10 [.ref (ad 0), .int (nI (g.2 0)), .ref (ad 1), .int (nI (g.2 1)), .int (nI (g.2 2)), .ref (ad 2), .ref (ad 3), .ref (ad 4), .ref (ad 5), .ref (ad 6), .ref (ad 7), .ref (ad 8), .ref (ad 9), .ref (ad 10), .int (nI (g.2 3)), .int (nI (g.2 4)), .int (nI S1), .int (nI W1), .int (nI (g.2 7)), .ref (ad 11), .int (nI (g.2 8)), .int (nI 2), .int (nI (S1 - g.2 3 + 1)), .ref (ad 12), .int (nI (g.2 11)), .ref (ad 13)] := M150.1.1
            subst rq_M150
            subst hV
            rw [← hQ]
            exact hx_reti cx.x cx.b cx.r cx.k rfl hlo (fun _ h => h) (Nat.le_of_ble_eq_true rfl) (Nat.le_of_ble_eq_true rfl) d_Mo_words_46 (⟨_, M150, WdQ.no ⟨⟨rfl, rfl, rfl, rfl, rfl⟩, fun r hr => ⟨rfl, rfl, rfl, rfl, fun i hi => ⟨rfl, rfl⟩⟩, ⟨rfl, rfl, rfl, rfl, rfl, rfl⟩⟩ rfl (show (2 : Nat) ≠ 0 by decide) rfl rfl⟩)
      · rw [decide_eq_false c1] at hl
        rw [wdE_end (show (txt.take (g.2 4)).length ≤ S1 by omega), wdO_self, mkH_nil, if_pos rfl] at hR
        subst hR
        have hV : (match kdH true (wdO txt S1 S1) with | none => (3, S1, S1, default) | some k => rdW1 true (g.2 7) txt (g.2 4) mq k S1) = V9 := hV
        rw [wdO_self, kdH_nil] at hV
        have hV : (3, S1, S1, default) = V9 := hV
        refine lv_iload cx.x cx.b d_Mo_words_8 (lv_at hl 0 rfl) ?_
        refine lv_if_eq (tgt := 61) cx.x cx.b d_Mo_words_10 (by decide) (fun _ => ?_) (fun c => absurd (by decide) c)
        refine lv_iload cx.x cx.b d_Mo_words_61 (lv_at hl 0 rfl) ?_
        refine lv_if_eq (tgt := 77) cx.x cx.b d_Mo_words_63 (by decide) (fun _ => ?_) (fun c => absurd (by decide) c)
        refine lv_iconst (v := (-1)) cx.x cx.b d_Mo_words_77 (by decide) ?_
        refine lv_istore (lv' := [(5, .int (-1)), (4, .int (bI false)), (3, .int (nI mq)), (0, .ref a), (1, .int (bI true)), (2, .int 216)]) cx.x cx.b d_Mo_words_78 hl (by decide) rfl (fun ls hl => ?_)
        refine lv_iload cx.x cx.b d_Mo_words_80 (lv_at hl 0 rfl) ?_
        refine lv_if_ge (tgt := 91) cx.x cx.b d_Mo_words_82 (by decide) (fun c => absurd c (by decide)) (fun _ => ?_)
        refine lv_aload_n cx.x cx.b d_Mo_words_85 rfl (lv_at hl 3 rfl) ?_
        refine lv_iconst (v := 3) cx.x cx.b d_Mo_words_86 (by decide) ?_
        refine hx_calli (iv_Mo_137_Mo cx (c_Mo_fail l hE M5.1 (x := 3) (show g.2 3 ≤ g.2 4 by omega) (show g.2 3 ≤ S1 by omega) (show g.2 4 < 1000 by omega) (show S1 < 1000 by omega)) oM127 rfl hl.1 rfl (Nat.le_of_ble_eq_true rfl) d_Mo_words_87 ⟨Nat.le_of_ble_eq_true rfl, Nat.le_of_ble_eq_true rfl⟩ ⟨Nat.le_of_ble_eq_true rfl, Nat.le_of_ble_eq_true rfl⟩) hlo (fun _ h => h) (fun r130 H129 locs hp128 hlo => ?_)
        obtain ⟨rq_M131, q_M131⟩ := hp128
        have rq_M131 : r130 = 0 := rq_M131
        have M131 : Mw E H H129 a ad (g.1, up (up (up (up g.2 5 S1) 6 W1) 9 3) 10 ((if g.2 4 ≤ S1 then g.2 4 else S1) - g.2 3 + 1)) := Mw.cg (M5.tr q_M131) rfl rfl rfl rfl rfl rfl rfl rfl rfl rfl rfl rfl rfl rfl rfl rfl rfl rfl rfl rfl rfl rfl rfl rfl rfl rfl
        have oM132 : hOb (eD E) classes H129 a 10 [.ref (ad 0), .int (nI (g.2 0)), .ref (ad 1), .int (nI (g.2 1)), .int (nI (g.2 2)), .ref (ad 2), .ref (ad 3), .ref (ad 4), .ref (ad 5), .ref (ad 6), .ref (ad 7), .ref (ad 8), .ref (ad 9), .ref (ad 10), .int (nI (g.2 3)), .int (nI (g.2 4)), .int (nI S1), .int (nI W1), .int (nI (g.2 7)), .ref (ad 11), .int (nI (g.2 8)), .int (nI 3), .int (nI ((if g.2 4 ≤ S1 then g.2 4 else S1) - g.2 3 + 1)), .ref (ad 12), .int (nI (g.2 11)), .ref (ad 13)] := M131.1.1
        have i_M131 : (if g.2 4 ≤ S1 then g.2 4 else S1) = S1 := by by_cases z : g.2 4 ≤ S1; rw [if_pos z]; omega; rw [if_neg z]
        rw [i_M131] at M131
        have oM133 : hOb (eD E) classes H129 a 10 [.ref (ad 0), .int (nI (g.2 0)), .ref (ad 1), .int (nI (g.2 1)), .int (nI (g.2 2)), .ref (ad 2), .ref (ad 3), .ref (ad 4), .ref (ad 5), .ref (ad 6), .ref (ad 7), .ref (ad 8), .ref (ad 9), .ref (ad 10), .int (nI (g.2 3)), .int (nI (g.2 4)), .int (nI S1), .int (nI W1), .int (nI (g.2 7)), .ref (ad 11), .int (nI (g.2 8)), .int (nI 3), .int (nI (S1 - g.2 3 + 1)), .ref (ad 12), .int (nI (g.2 11)), .ref (ad 13)] := M131.1.1
        subst rq_M131
        subst hV
        rw [← hQ]
        exact hx_reti cx.x cx.b cx.r cx.k rfl hlo (fun _ h => h) (Nat.le_of_ble_eq_true rfl) (Nat.le_of_ble_eq_true rfl) d_Mo_words_90 (⟨_, M131, WdQ.no ⟨⟨rfl, rfl, rfl, rfl, rfl⟩, fun r hr => ⟨rfl, rfl, rfl, rfl, fun i hi => ⟨rfl, rfl⟩⟩, ⟨rfl, rfl, rfl, rfl, rfl, rfl⟩⟩ rfl (show (3 : Nat) ≠ 0 by decide) rfl rfl⟩)
  refine lv_iconst (v := 0) cx.x cx.b d_Mo_words_0 (by decide) ?_
  refine lv_istore_n (lv' := [(3, .int 0), (0, .ref a), (1, .int (bI true)), (2, .int 216)]) cx.x cx.b d_Mo_words_1 rfl hl (by decide) rfl (fun ls hl => ?_)
  refine lv_aload_n cx.x cx.b d_Mo_words_2 rfl (lv_at hl 1 rfl) ?_
  refine hx_calli (iv_Mo_125_Mo cx (c_Mo_next l hE M0.1 hx hxc hxl (show g.2 6 ≤ g.2 4 by omega) hen) M0.1.1 rfl hl.1 rfl (Nat.le_of_ble_eq_true rfl) d_Mo_words_3 ⟨Nat.le_of_ble_eq_true rfl, Nat.le_of_ble_eq_true rfl⟩ ⟨Nat.le_of_ble_eq_true rfl, Nat.le_of_ble_eq_true rfl⟩) hlo (fun _ h => h) (fun r314 H313 locs hp312 hlo => ?_)
  obtain ⟨rq_M315, q_M315⟩ := hp312
  have rq_M315 : r314 = bI (decide (wdS (txt.take (g.2 4)) (g.2 6) < g.2 4)) := rq_M315
  have M315 : Mw E H H313 a ad (g.1, up (up g.2 5 (wdS (txt.take (g.2 4)) (g.2 6))) 6 (if wdS (txt.take (g.2 4)) (g.2 6) < g.2 4 then wdE (txt.take (g.2 4)) (wdS (txt.take (g.2 4)) (g.2 6)) else g.2 6)) := Mw.cg (M0.tr q_M315) rfl rfl rfl rfl rfl rfl rfl rfl rfl rfl rfl rfl rfl rfl rfl rfl rfl rfl rfl rfl rfl rfl rfl rfl rfl rfl
  have oM316 : hOb (eD E) classes H313 a 10 [.ref (ad 0), .int (nI (g.2 0)), .ref (ad 1), .int (nI (g.2 1)), .int (nI (g.2 2)), .ref (ad 2), .ref (ad 3), .ref (ad 4), .ref (ad 5), .ref (ad 6), .ref (ad 7), .ref (ad 8), .ref (ad 9), .ref (ad 10), .int (nI (g.2 3)), .int (nI (g.2 4)), .int (nI (wdS (txt.take (g.2 4)) (g.2 6))), .int (nI (if wdS (txt.take (g.2 4)) (g.2 6) < g.2 4 then wdE (txt.take (g.2 4)) (wdS (txt.take (g.2 4)) (g.2 6)) else g.2 6)), .int (nI (g.2 7)), .ref (ad 11), .int (nI (g.2 8)), .int (nI (g.2 9)), .int (nI (g.2 10)), .ref (ad 12), .int (nI (g.2 11)), .ref (ad 13)] := M315.1.1
  rw [hwe] at rq_M315 M315
  have a_S0 := wdS_le (L := (txt.take (g.2 4))) (i := g.2 3) (by omega)
  have n_S0 := wdS_not (i := g.2 3) hen (g.2 4 - (g.2 3)) rfl (by omega)
  have b_S0 := wdE_le (L := (txt.take (g.2 4))) (i := wdS (txt.take (g.2 4)) (g.2 3)) (by omega)
  generalize h_S0 : wdS (txt.take (g.2 4)) (g.2 3) = S0 at rq_M315 M315 a_S0 n_S0 b_S0 hR
  by_cases c_S0 : S0 < g.2 4
  · rw [if_pos c_S0] at M315
    rw [decide_eq_true c_S0] at rq_M315
    subst rq_M315
    have oM317 : hOb (eD E) classes H313 a 10 [.ref (ad 0), .int (nI (g.2 0)), .ref (ad 1), .int (nI (g.2 1)), .int (nI (g.2 2)), .ref (ad 2), .ref (ad 3), .ref (ad 4), .ref (ad 5), .ref (ad 6), .ref (ad 7), .ref (ad 8), .ref (ad 9), .ref (ad 10), .int (nI (g.2 3)), .int (nI (g.2 4)), .int (nI S0), .int (nI (wdE (txt.take (g.2 4)) S0)), .int (nI (g.2 7)), .ref (ad 11), .int (nI (g.2 8)), .int (nI (g.2 9)), .int (nI (g.2 10)), .ref (ad 12), .int (nI (g.2 11)), .ref (ad 13)] := M315.1.1
    refine lv_istore (lv' := [(4, .int (bI true)), (3, .int 0), (0, .ref a), (1, .int (bI true)), (2, .int 216)]) cx.x cx.b d_Mo_words_6 hl (by decide) rfl (fun ls hl => ?_)
    have hl2 : lv_has ls 8 [(4, .int (bI (decide (S0 < g.2 4)))), (3, .int (nI 0)), (0, .ref a), (1, .int (bI true)), (2, .int 216)] := by rw [decide_eq_true c_S0]; exact lv_sub hl [0, 1, 2, 3, 4] rfl
    exact LP _ _ (nMarks true + 1) 0 S0 (wdE (txt.take (g.2 4)) S0) _ hlo (Nat.lt_succ_self _) (Nat.pow_pos (by decide)) rfl ⟨by omega, by omega⟩ ⟨fun _ => ⟨rfl, n_S0 c_S0⟩, by omega⟩ M315 hR _ hl2
  · rw [if_neg c_S0] at M315
    rw [decide_eq_false c_S0] at rq_M315
    subst rq_M315
    have oM318 : hOb (eD E) classes H313 a 10 [.ref (ad 0), .int (nI (g.2 0)), .ref (ad 1), .int (nI (g.2 1)), .int (nI (g.2 2)), .ref (ad 2), .ref (ad 3), .ref (ad 4), .ref (ad 5), .ref (ad 6), .ref (ad 7), .ref (ad 8), .ref (ad 9), .ref (ad 10), .int (nI (g.2 3)), .int (nI (g.2 4)), .int (nI S0), .int (nI (g.2 3)), .int (nI (g.2 7)), .ref (ad 11), .int (nI (g.2 8)), .int (nI (g.2 9)), .int (nI (g.2 10)), .ref (ad 12), .int (nI (g.2 11)), .ref (ad 13)] := M315.1.1
    refine lv_istore (lv' := [(4, .int (bI false)), (3, .int 0), (0, .ref a), (1, .int (bI true)), (2, .int 216)]) cx.x cx.b d_Mo_words_6 hl (by decide) rfl (fun ls hl => ?_)
    have hl2 : lv_has ls 8 [(4, .int (bI (decide (S0 < g.2 4)))), (3, .int (nI 0)), (0, .ref a), (1, .int (bI true)), (2, .int 216)] := by rw [decide_eq_false c_S0]; exact lv_sub hl [0, 1, 2, 3, 4] rfl
    exact LP _ _ (nMarks true + 1) 0 S0 (g.2 3) _ hlo (Nat.lt_succ_self _) (Nat.pow_pos (by decide)) rfl ⟨by omega, by omega⟩ ⟨fun z => absurd z c_S0, by omega⟩ M315 hR _ hl2
