theorem lcE0 {x : List Nat} (hx : okW x) (hc : lg_cmp (lN (wrd x)) (lN 75298023) = 0) : x = strL 0 := lcE hx 0 75298023 (by decide) (by decide +kernel) hc
theorem lcN0 {x : List Nat} (hx : okW x) (hc : ¬ lg_cmp (lN (wrd x)) (lN 75298023) = 0) : ¬ x = strL 0 := lcN hx 0 75298023 (by decide) (by decide +kernel) hc
theorem wdO_1 {txt : List Nat} {i : Nat} (h : i < txt.length) : wdO txt i (i + 1) = [txt.getD i 0] := by rw [wdO_cons (by omega) (by omega), wdO_self]
theorem fmtW_len {x : List Nat} (h : x.length ≠ 1) : fmtW x = none := by
  unfold fmtW
  rw [if_neg (fun z => h (by rw [z]; rfl)), if_neg (fun z => h (by rw [z]; rfl))]
theorem fmtW_1 (c : Nat) : fmtW [c] = if c = 49 then some 1 else if c = 50 then some 2 else none := by
  unfold fmtW
  by_cases h1 : c = 49
  · rw [if_pos h1, if_pos (by rw [h1]; rfl)]
  · rw [if_neg h1, if_neg (fun z => h1 (by have : [c] = [49] := z; injection this))]
    by_cases h2 : c = 50
    · rw [if_pos h2, if_pos (by rw [h2]; rfl)]
    · rw [if_neg h2, if_neg (fun z => h2 (by have : [c] = [50] := z; injection this))]
/-- what first leaves as it was; F: the format found -/
def FiQ (b num i ws : Nat) (g g2 : MS) (F : Option Nat) : Prop := (∀ k, k < 14 → k ≠ 1 → k ≠ 3 → g2.1 k = g.1 k) ∧ (g2.2 0 = g.2 0 ∧ g2.2 2 = g.2 2 ∧ g2.2 3 = g.2 3 ∧ g2.2 4 = g.2 4) ∧ g2.2 7 = F.getD 2 ∧ g2.1 3 b = F.getD 2 ∧ (∀ b2, b2 ≠ b → g2.1 3 b2 = g.1 3 b2) ∧ ∀ ds, DgR (g.1 1) (g.2 1) ds → DgR (g2.1 1) (g2.2 1) (if F = none then ds ++ [(1, num, ws - i + 1)] else ds)
theorem all14 {f2 f : Nat → Nat → Nat} (e0 : f2 0 = f 0) (e2 : f2 2 = f 2) (e4 : f2 4 = f 4) (e5 : f2 5 = f 5) (e6 : f2 6 = f 6) (e7 : f2 7 = f 7) (e8 : f2 8 = f 8) (e9 : f2 9 = f 9) (e10 : f2 10 = f 10) (e11 : f2 11 = f 11) (e12 : f2 12 = f 12) (e13 : f2 13 = f 13) : ∀ k, k < 14 → k ≠ 1 → k ≠ 3 → f2 k = f k := by
  intro k hk h1 h3
  rcases (show k = 0 ∨ k = 2 ∨ k = 4 ∨ k = 5 ∨ k = 6 ∨ k = 7 ∨ k = 8 ∨ k = 9 ∨ k = 10 ∨ k = 11 ∨ k = 12 ∨ k = 13 by omega) with e | e | e | e | e | e | e | e | e | e | e | e
  · rw [e]; exact e0
  · rw [e]; exact e2
  · rw [e]; exact e4
  · rw [e]; exact e5
  · rw [e]; exact e6
  · rw [e]; exact e7
  · rw [e]; exact e8
  · rw [e]; exact e9
  · rw [e]; exact e10
  · rw [e]; exact e11
  · rw [e]; exact e12
  · rw [e]; exact e13
set_option maxHeartbeats 4000000 in
set_option maxRecDepth 100000 in
theorem c_Mo_first (l : Launch) {E : hE} (hE : EnvOk E) {H : Heap} {a : Nat} {ad : Nat → Nat} {g : MS} (M : Mo E H a ad g) {txt : List Nat} (hx : Tx (g.1 0) txt) (hxc : ∀ x ∈ txt, okC x = true) (hxl : txt.length ≤ 480) (hfe : g.2 3 ≤ g.2 4) (hen : g.2 4 ≤ txt.length) (hws : (wdS (txt.take (g.2 4)) (g.2 3)) < g.2 4) {b1 num : Nat} (hb1 : b1 < 2) (hfo : g.2 1 < 1000) : Ct l E y_Mo_first b_Mo_first 7 (some .int) (rmA 1 0 0) [.ref a, .int (nI b1), .int (nI num)] H (hQi (fun r H1 => r = bI (rdF txt (g.2 4) (wdS (txt.take (g.2 4)) (g.2 3)) (wdE (txt.take (g.2 4)) (wdS (txt.take (g.2 4)) (g.2 3)))).1.isSome ∧ ∃ g2 : MS, Mw E H H1 a ad g2 ∧ FiQ b1 num (g.2 3) (wdS (txt.take (g.2 4)) (g.2 3)) g g2 (rdF txt (g.2 4) (wdS (txt.take (g.2 4)) (g.2 3)) (wdE (txt.take (g.2 4)) (wdS (txt.take (g.2 4)) (g.2 3)))).1)) := by
  refine hx_enter hE (by decide) (Nat.le_of_ble_eq_true rfl) ?_
  intro p e s m args below meth c ls cx hnm hl
  have hl : lv_has ls 7 [(0, .ref a), (1, .int (nI b1)), (2, .int (nI num))] := hl
  have hlo : hLo (eB E) [] := hLo.nil
  generalize hQ : MQ below _ args s _ _ _ = Q
  have M0 : Mw E H H a ad g := ⟨M, hCh.rf, rfl⟩
  have hT := len_take hen
  generalize hF : (rdF txt (g.2 4) (wdS (txt.take (g.2 4)) (g.2 3)) (wdE (txt.take (g.2 4)) (wdS (txt.take (g.2 4)) (g.2 3)))).1 = F9 at hQ
  have TB : ∀ (locs : List Loc) (S9 W9 : Nat) (H5 : Heap), hLo (eB E) locs → (Mw E H H5 a ad (g.1, up (up (up g.2 5 S9) 6 W9) 7 2)) → (F9 = none) → ∀ ls, lv_has ls 7 [(5, .int 0), (0, .ref a), (1, .int (nI b1)), (2, .int (nI num))] → W p l e (rmA 1 0 0) s m args below meth c H5 locs 0 0 Q (F0 m 119 ls []) := by
    intro locs S9 W9 H5 hlo M5 hn ls hl
    have oM1 : hOb (eD E) classes H5 a 10 [.ref (ad 0), .int (nI (g.2 0)), .ref (ad 1), .int (nI (g.2 1)), .int (nI (g.2 2)), .ref (ad 2), .ref (ad 3), .ref (ad 4), .ref (ad 5), .ref (ad 6), .ref (ad 7), .ref (ad 8), .ref (ad 9), .ref (ad 10), .int (nI (g.2 3)), .int (nI (g.2 4)), .int (nI S9), .int (nI W9), .int (nI 2), .ref (ad 11), .int (nI (g.2 8)), .int (nI (g.2 9)), .int (nI (g.2 10)), .ref (ad 12), .int (nI (g.2 11)), .ref (ad 13)] := M5.1.1
    subst hn
    refine lv_aload_n cx.x cx.b d_Mo_first_119 rfl (lv_at hl 1 rfl) ?_
    refine lv_aload_n cx.x cx.b d_Mo_first_120 rfl (lv_at hl 1 rfl) ?_
    refine gf_Mo_119_Mo cx oM1 rfl d_Mo_first_121 ?_
    refine pf_Mo_62_Mo cx oM1 hlo M5.1.2.2.1 (Nat.le_of_ble_eq_true rfl) d_Mo_first_124 (fun H2 locs ho3 z_H2 o_H2 hlo => ?_)
    have ho3 : hOb (eD E) classes H2 a 10 [.ref (ad 0), .int (nI (g.2 0)), .ref (ad 1), .int (nI (g.2 1)), .int (nI (g.2 2)), .ref (ad 2), .ref (ad 3), .ref (ad 4), .ref (ad 5), .ref (ad 6), .ref (ad 7), .ref (ad 8), .ref (ad 9), .ref (ad 10), .int (nI (g.2 3)), .int (nI (g.2 4)), .int (nI S9), .int (nI (g.2 3)), .int (nI 2), .ref (ad 11), .int (nI (g.2 8)), .int (nI (g.2 9)), .int (nI (g.2 10)), .ref (ad 12), .int (nI (g.2 11)), .ref (ad 13)] := ho3
    have M4 : Mw E H H2 a ad (g.1, up (up (up g.2 5 S9) 6 (g.2 3)) 7 2) := M5.sc (g.1, up (up (up g.2 5 S9) 6 (g.2 3)) 7 2) ho3 z_H2 o_H2 rfl
    have oM5 : hOb (eD E) classes H2 a 10 [.ref (ad 0), .int (nI (g.2 0)), .ref (ad 1), .int (nI (g.2 1)), .int (nI (g.2 2)), .ref (ad 2), .ref (ad 3), .ref (ad 4), .ref (ad 5), .ref (ad 6), .ref (ad 7), .ref (ad 8), .ref (ad 9), .ref (ad 10), .int (nI (g.2 3)), .int (nI (g.2 4)), .int (nI S9), .int (nI (g.2 3)), .int (nI 2), .ref (ad 11), .int (nI (g.2 8)), .int (nI (g.2 9)), .int (nI (g.2 10)), .ref (ad 12), .int (nI (g.2 11)), .ref (ad 13)] := M4.1.1
    refine lv_aload_n cx.x cx.b d_Mo_first_127 rfl (lv_at hl 1 rfl) ?_
    refine hx_calli (iv_Mo_125_Mo cx (c_Mo_next l hE M4.1 hx hxc hxl (show g.2 3 ≤ (g.2 4) by omega) hen) oM5 rfl hl.1 rfl (Nat.le_of_ble_eq_true rfl) d_Mo_first_128 ⟨Nat.le_of_ble_eq_true rfl, Nat.le_of_ble_eq_true rfl⟩ ⟨Nat.le_of_ble_eq_true rfl, Nat.le_of_ble_eq_true rfl⟩) hlo (fun _ h => h) (fun r8 H7 locs hp6 hlo => ?_)
    obtain ⟨rq_M9, q_M9⟩ := hp6
    have rq_M9 : r8 = bI (decide (wdS (txt.take (g.2 4)) (g.2 3) < (g.2 4))) := rq_M9
    have M9 : Mw E H H7 a ad (g.1, up (up (up g.2 5 (wdS (txt.take (g.2 4)) (g.2 3))) 6 (if wdS (txt.take (g.2 4)) (g.2 3) < (g.2 4) then wdE (txt.take (g.2 4)) (wdS (txt.take (g.2 4)) (g.2 3)) else g.2 3)) 7 2) := Mw.cg (M4.tr q_M9) rfl rfl rfl rfl rfl rfl rfl rfl rfl rfl rfl rfl rfl rfl rfl rfl rfl rfl rfl rfl rfl rfl rfl rfl rfl rfl
    have oM10 : hOb (eD E) classes H7 a 10 [.ref (ad 0), .int (nI (g.2 0)), .ref (ad 1), .int (nI (g.2 1)), .int (nI (g.2 2)), .ref (ad 2), .ref (ad 3), .ref (ad 4), .ref (ad 5), .ref (ad 6), .ref (ad 7), .ref (ad 8), .ref (ad 9), .ref (ad 10), .int (nI (g.2 3)), .int (nI (g.2 4)), .int (nI (wdS (txt.take (g.2 4)) (g.2 3))), .int (nI (if wdS (txt.take (g.2 4)) (g.2 3) < (g.2 4) then wdE (txt.take (g.2 4)) (wdS (txt.take (g.2 4)) (g.2 3)) else g.2 3)), .int (nI 2), .ref (ad 11), .int (nI (g.2 8)), .int (nI (g.2 9)), .int (nI (g.2 10)), .ref (ad 12), .int (nI (g.2 11)), .ref (ad 13)] := M9.1.1
    have a_S1 := wdS_le (L := (txt.take (g.2 4))) (i := g.2 3) (by omega)
    have n_S1 := wdS_not (i := g.2 3) hen ((g.2 4) - (g.2 3)) rfl (by omega)
    have b_S1 := wdE_le (L := (txt.take (g.2 4))) (i := wdS (txt.take (g.2 4)) (g.2 3)) (by omega)
    generalize h_S1 : wdS (txt.take (g.2 4)) (g.2 3) = S1 at rq_M9 M9 a_S1 n_S1 b_S1 hQ hws
    by_cases c_S1 : S1 < (g.2 4)
    · rw [if_pos c_S1] at M9
      rw [decide_eq_true c_S1] at rq_M9
      subst rq_M9
      have oM11 : hOb (eD E) classes H7 a 10 [.ref (ad 0), .int (nI (g.2 0)), .ref (ad 1), .int (nI (g.2 1)), .int (nI (g.2 2)), .ref (ad 2), .ref (ad 3), .ref (ad 4), .ref (ad 5), .ref (ad 6), .ref (ad 7), .ref (ad 8), .ref (ad 9), .ref (ad 10), .int (nI (g.2 3)), .int (nI (g.2 4)), .int (nI S1), .int (nI (wdE (txt.take (g.2 4)) S1)), .int (nI 2), .ref (ad 11), .int (nI (g.2 8)), .int (nI (g.2 9)), .int (nI (g.2 10)), .ref (ad 12), .int (nI (g.2 11)), .ref (ad 13)] := M9.1.1
      refine lv_istore (lv' := [(6, .int (bI true)), (5, .int 0), (0, .ref a), (1, .int (nI b1)), (2, .int (nI num))]) cx.x cx.b d_Mo_first_131 hl (by decide) rfl (fun ls hl => ?_)
      refine lv_aload_n cx.x cx.b d_Mo_first_133 rfl (lv_at hl 2 rfl) ?_
      refine lv_iconst (v := 1) cx.x cx.b d_Mo_first_134 (by decide) ?_
      refine lv_iload_n cx.x cx.b d_Mo_first_135 rfl (lv_at hl 4 rfl) ?_
      refine lv_aload_n cx.x cx.b d_Mo_first_136 rfl (lv_at hl 2 rfl) ?_
      refine gf_Mo_68_Mo cx oM11 rfl d_Mo_first_137 ?_
      refine lv_aload_n cx.x cx.b d_Mo_first_140 rfl (lv_at hl 2 rfl) ?_
      refine gf_Mo_119_Mo cx oM11 rfl d_Mo_first_141 ?_
      refine lv_isub cx.x cx.b d_Mo_first_144 ?_
      refine lv_topi (fun x13 e_x13 => ?_)
      have e_x13 : x13 = nI (S1 - (g.2 3)) := e_x13.trans (pk_sub (a := S1) (b := (g.2 3)) (by omega))
      subst e_x13
      refine lv_iconst (v := 1) cx.x cx.b d_Mo_first_145 (by decide) ?_
      refine lv_iadd cx.x cx.b d_Mo_first_146 ?_
      refine lv_topi (fun x14 e_x14 => ?_)
      have e_x14 : x14 = nI ((S1 - (g.2 3)) + 1) := e_x14.trans (nI_add (S1 - (g.2 3)) 1)
      subst e_x14
      refine hx_callv (iv_Mo_169_Mo cx (c_Mo_tell l hE M9.1 (x := 1) (y := num) (z := S1 - g.2 3 + 1) (show g.2 1 < 1000 by omega)) oM11 rfl hl.1 rfl (Nat.le_of_ble_eq_true rfl) d_Mo_first_147 ⟨Nat.le_of_ble_eq_true rfl, Nat.le_of_ble_eq_true rfl⟩ ⟨Nat.le_of_ble_eq_true rfl, Nat.le_of_ble_eq_true rfl⟩) hlo (fun _ h => h) (fun H16 locs hp15 hlo => ?_)
      have q_M17 := hp15
      have M17 : Mw E H H16 a ad (up g.1 1 (if (g.2 1) < 20 then updN (updN (updN (g.1 1) (3 * (g.2 1)) 1) (3 * (g.2 1) + 1) num) (3 * (g.2 1) + 2) (S1 - g.2 3 + 1) else (g.1 1)), up (up (up (up g.2 1 ((g.2 1) + 1)) 5 S1) 6 (wdE (txt.take (g.2 4)) S1)) 7 2) := Mw.cg (M9.tr q_M17) rfl rfl rfl rfl rfl rfl rfl rfl rfl rfl rfl rfl rfl rfl rfl rfl rfl rfl rfl rfl rfl rfl rfl rfl rfl rfl
      have oM18 : hOb (eD E) classes H16 a 10 [.ref (ad 0), .int (nI (g.2 0)), .ref (ad 1), .int (nI ((g.2 1) + 1)), .int (nI (g.2 2)), .ref (ad 2), .ref (ad 3), .ref (ad 4), .ref (ad 5), .ref (ad 6), .ref (ad 7), .ref (ad 8), .ref (ad 9), .ref (ad 10), .int (nI (g.2 3)), .int (nI (g.2 4)), .int (nI S1), .int (nI (wdE (txt.take (g.2 4)) S1)), .int (nI 2), .ref (ad 11), .int (nI (g.2 8)), .int (nI (g.2 9)), .int (nI (g.2 10)), .ref (ad 12), .int (nI (g.2 11)), .ref (ad 13)] := M17.1.1
      refine lv_aload_n cx.x cx.b d_Mo_first_150 rfl (lv_at hl 2 rfl) ?_
      refine gf_Mo_19_Mo cx oM18 rfl d_Mo_first_151 ?_
      refine lv_iload_n cx.x cx.b d_Mo_first_154 rfl (lv_at hl 3 rfl) ?_
      refine lv_aload_n cx.x cx.b d_Mo_first_155 rfl (lv_at hl 2 rfl) ?_
      refine gf_Mo_98_Mo cx oM18 rfl d_Mo_first_156 ?_
      refine hx_iast cx.x cx.b cx.K 0 (M17.1.2.1 3 (by decide)) hlo (M17.1.2.2.2.1 3 (by decide)).1 rfl (show vp_in (nI b1) 2 from vp_in_nI (show b1 < 2 by omega) (by decide)) d_Mo_first_159 (fun H19 locs ha20 z_H19 o_H19 hlo => ?_)
      have M21 : Mw E H H19 a ad (up (up g.1 1 (if (g.2 1) < 20 then updN (updN (updN (g.1 1) (3 * (g.2 1)) 1) (3 * (g.2 1) + 1) num) (3 * (g.2 1) + 2) (S1 - g.2 3 + 1) else (g.1 1))) 3 (updN (g.1 3) b1 2), up (up (up (up g.2 1 ((g.2 1) + 1)) 5 S1) 6 (wdE (txt.take (g.2 4)) S1)) 7 2) := M17.ar (up (up g.1 1 (if (g.2 1) < 20 then updN (updN (updN (g.1 1) (3 * (g.2 1)) 1) (3 * (g.2 1) + 1) num) (3 * (g.2 1) + 2) (S1 - g.2 3 + 1) else (g.1 1))) 3 (updN (g.1 3) b1 2), up (up (up (up g.2 1 ((g.2 1) + 1)) 5 S1) 6 (wdE (txt.take (g.2 4)) S1)) 7 2) 3 (by decide) (by have h9 := ha20; rw [show (nI b1 : Int32).toNatClampNeg = b1 from nI_clamp (n := b1) (by omega)] at h9; have h9 : hAi H19 (ad 3) (eA E 0) (arL 3) (upd (fun i => nI ((g.1 3) i)) b1 (nI 2)) := h9; rw [upd_nI] at h9; exact h9) z_H19 o_H19 rfl (fun j hj hn => arN3 hj hn rfl rfl rfl rfl rfl rfl rfl rfl rfl rfl rfl rfl rfl)
      have oM22 : hOb (eD E) classes H19 a 10 [.ref (ad 0), .int (nI (g.2 0)), .ref (ad 1), .int (nI ((g.2 1) + 1)), .int (nI (g.2 2)), .ref (ad 2), .ref (ad 3), .ref (ad 4), .ref (ad 5), .ref (ad 6), .ref (ad 7), .ref (ad 8), .ref (ad 9), .ref (ad 10), .int (nI (g.2 3)), .int (nI (g.2 4)), .int (nI S1), .int (nI (wdE (txt.take (g.2 4)) S1)), .int (nI 2), .ref (ad 11), .int (nI (g.2 8)), .int (nI (g.2 9)), .int (nI (g.2 10)), .ref (ad 12), .int (nI (g.2 11)), .ref (ad 13)] := M21.1.1
      refine lv_iload cx.x cx.b d_Mo_first_160 (lv_at hl 1 rfl) ?_
      refine lv_if_eq (tgt := 169) cx.x cx.b d_Mo_first_162 (by decide) (fun _ => ?_) (fun c => absurd (by decide) c)
      refine lv_iconst (v := 0) cx.x cx.b d_Mo_first_169 (by decide) ?_
      rw [← hQ]
      exact hx_reti cx.x cx.b cx.r cx.k rfl hlo (fun _ h => h) (Nat.le_of_ble_eq_true rfl) (Nat.le_of_ble_eq_true rfl) d_Mo_first_170 (⟨rfl, _, M21, (all14 rfl rfl rfl rfl rfl rfl rfl rfl rfl rfl rfl rfl), ⟨rfl, rfl, rfl, rfl⟩, rfl, updN_s, fun b2 h2 => updN_n h2, fun ds hd => by rw [if_pos rfl]; exact hd.tell⟩)
    · rw [if_neg c_S1] at M9
      rw [decide_eq_false c_S1] at rq_M9
      subst rq_M9
      have oM12 : hOb (eD E) classes H7 a 10 [.ref (ad 0), .int (nI (g.2 0)), .ref (ad 1), .int (nI (g.2 1)), .int (nI (g.2 2)), .ref (ad 2), .ref (ad 3), .ref (ad 4), .ref (ad 5), .ref (ad 6), .ref (ad 7), .ref (ad 8), .ref (ad 9), .ref (ad 10), .int (nI (g.2 3)), .int (nI (g.2 4)), .int (nI S1), .int (nI (g.2 3)), .int (nI 2), .ref (ad 11), .int (nI (g.2 8)), .int (nI (g.2 9)), .int (nI (g.2 10)), .ref (ad 12), .int (nI (g.2 11)), .ref (ad 13)] := M9.1.1
      exact absurd hws c_S1
  refine lv_aload_n cx.x cx.b d_Mo_first_0 rfl (lv_at hl 0 rfl) ?_
  refine lv_iconst (v := 2) cx.x cx.b d_Mo_first_1 (by decide) ?_
  refine pf_Mo_98_Mo cx M0.1.1 hlo M0.1.2.2.1 (Nat.le_of_ble_eq_true rfl) d_Mo_first_2 (fun H23 locs ho24 z_H23 o_H23 hlo => ?_)
  have ho24 : hOb (eD E) classes H23 a 10 [.ref (ad 0), .int (nI (g.2 0)), .ref (ad 1), .int (nI (g.2 1)), .int (nI (g.2 2)), .ref (ad 2), .ref (ad 3), .ref (ad 4), .ref (ad 5), .ref (ad 6), .ref (ad 7), .ref (ad 8), .ref (ad 9), .ref (ad 10), .int (nI (g.2 3)), .int (nI (g.2 4)), .int (nI (g.2 5)), .int (nI (g.2 6)), .int 2, .ref (ad 11), .int (nI (g.2 8)), .int (nI (g.2 9)), .int (nI (g.2 10)), .ref (ad 12), .int (nI (g.2 11)), .ref (ad 13)] := ho24
  have M25 : Mw E H H23 a ad (g.1, up g.2 7 2) := M0.sc (g.1, up g.2 7 2) ho24 z_H23 o_H23 rfl
  have oM26 : hOb (eD E) classes H23 a 10 [.ref (ad 0), .int (nI (g.2 0)), .ref (ad 1), .int (nI (g.2 1)), .int (nI (g.2 2)), .ref (ad 2), .ref (ad 3), .ref (ad 4), .ref (ad 5), .ref (ad 6), .ref (ad 7), .ref (ad 8), .ref (ad 9), .ref (ad 10), .int (nI (g.2 3)), .int (nI (g.2 4)), .int (nI (g.2 5)), .int (nI (g.2 6)), .int (nI 2), .ref (ad 11), .int (nI (g.2 8)), .int (nI (g.2 9)), .int (nI (g.2 10)), .ref (ad 12), .int (nI (g.2 11)), .ref (ad 13)] := M25.1.1
  refine lv_aload_n cx.x cx.b d_Mo_first_5 rfl (lv_at hl 0 rfl) ?_
  refine lv_aload_n cx.x cx.b d_Mo_first_6 rfl (lv_at hl 0 rfl) ?_
  refine gf_Mo_119_Mo cx oM26 rfl d_Mo_first_7 ?_
  refine pf_Mo_62_Mo cx oM26 hlo M25.1.2.2.1 (Nat.le_of_ble_eq_true rfl) d_Mo_first_10 (fun H27 locs ho28 z_H27 o_H27 hlo => ?_)
  have ho28 : hOb (eD E) classes H27 a 10 [.ref (ad 0), .int (nI (g.2 0)), .ref (ad 1), .int (nI (g.2 1)), .int (nI (g.2 2)), .ref (ad 2), .ref (ad 3), .ref (ad 4), .ref (ad 5), .ref (ad 6), .ref (ad 7), .ref (ad 8), .ref (ad 9), .ref (ad 10), .int (nI (g.2 3)), .int (nI (g.2 4)), .int (nI (g.2 5)), .int (nI (g.2 3)), .int (nI 2), .ref (ad 11), .int (nI (g.2 8)), .int (nI (g.2 9)), .int (nI (g.2 10)), .ref (ad 12), .int (nI (g.2 11)), .ref (ad 13)] := ho28
  have M29 : Mw E H H27 a ad (g.1, up (up g.2 6 (g.2 3)) 7 2) := M25.sc (g.1, up (up g.2 6 (g.2 3)) 7 2) ho28 z_H27 o_H27 rfl
  have oM30 : hOb (eD E) classes H27 a 10 [.ref (ad 0), .int (nI (g.2 0)), .ref (ad 1), .int (nI (g.2 1)), .int (nI (g.2 2)), .ref (ad 2), .ref (ad 3), .ref (ad 4), .ref (ad 5), .ref (ad 6), .ref (ad 7), .ref (ad 8), .ref (ad 9), .ref (ad 10), .int (nI (g.2 3)), .int (nI (g.2 4)), .int (nI (g.2 5)), .int (nI (g.2 3)), .int (nI 2), .ref (ad 11), .int (nI (g.2 8)), .int (nI (g.2 9)), .int (nI (g.2 10)), .ref (ad 12), .int (nI (g.2 11)), .ref (ad 13)] := M29.1.1
  refine lv_aload_n cx.x cx.b d_Mo_first_13 rfl (lv_at hl 0 rfl) ?_
  refine hx_calli (iv_Mo_125_Mo cx (c_Mo_next l hE M29.1 hx hxc hxl (show g.2 3 ≤ (g.2 4) by omega) hen) oM30 rfl hl.1 rfl (Nat.le_of_ble_eq_true rfl) d_Mo_first_14 ⟨Nat.le_of_ble_eq_true rfl, Nat.le_of_ble_eq_true rfl⟩ ⟨Nat.le_of_ble_eq_true rfl, Nat.le_of_ble_eq_true rfl⟩) hlo (fun _ h => h) (fun r33 H32 locs hp31 hlo => ?_)
  obtain ⟨rq_M34, q_M34⟩ := hp31
  have rq_M34 : r33 = bI (decide (wdS (txt.take (g.2 4)) (g.2 3) < (g.2 4))) := rq_M34
  have M34 : Mw E H H32 a ad (g.1, up (up (up g.2 5 (wdS (txt.take (g.2 4)) (g.2 3))) 6 (if wdS (txt.take (g.2 4)) (g.2 3) < (g.2 4) then wdE (txt.take (g.2 4)) (wdS (txt.take (g.2 4)) (g.2 3)) else g.2 3)) 7 2) := Mw.cg (M29.tr q_M34) rfl rfl rfl rfl rfl rfl rfl rfl rfl rfl rfl rfl rfl rfl rfl rfl rfl rfl rfl rfl rfl rfl rfl rfl rfl rfl
  have oM35 : hOb (eD E) classes H32 a 10 [.ref (ad 0), .int (nI (g.2 0)), .ref (ad 1), .int (nI (g.2 1)), .int (nI (g.2 2)), .ref (ad 2), .ref (ad 3), .ref (ad 4), .ref (ad 5), .ref (ad 6), .ref (ad 7), .ref (ad 8), .ref (ad 9), .ref (ad 10), .int (nI (g.2 3)), .int (nI (g.2 4)), .int (nI (wdS (txt.take (g.2 4)) (g.2 3))), .int (nI (if wdS (txt.take (g.2 4)) (g.2 3) < (g.2 4) then wdE (txt.take (g.2 4)) (wdS (txt.take (g.2 4)) (g.2 3)) else g.2 3)), .int (nI 2), .ref (ad 11), .int (nI (g.2 8)), .int (nI (g.2 9)), .int (nI (g.2 10)), .ref (ad 12), .int (nI (g.2 11)), .ref (ad 13)] := M34.1.1
  have a_S1 := wdS_le (L := (txt.take (g.2 4))) (i := g.2 3) (by omega)
  have n_S1 := wdS_not (i := g.2 3) hen ((g.2 4) - (g.2 3)) rfl (by omega)
  have b_S1 := wdE_le (L := (txt.take (g.2 4))) (i := wdS (txt.take (g.2 4)) (g.2 3)) (by omega)
  generalize h_S1 : wdS (txt.take (g.2 4)) (g.2 3) = S1 at rq_M34 M34 a_S1 n_S1 b_S1 hF hws hQ
  by_cases c_S1 : S1 < (g.2 4)
  · rw [if_pos c_S1] at M34
    rw [decide_eq_true c_S1] at rq_M34
    subst rq_M34
    have oM36 : hOb (eD E) classes H32 a 10 [.ref (ad 0), .int (nI (g.2 0)), .ref (ad 1), .int (nI (g.2 1)), .int (nI (g.2 2)), .ref (ad 2), .ref (ad 3), .ref (ad 4), .ref (ad 5), .ref (ad 6), .ref (ad 7), .ref (ad 8), .ref (ad 9), .ref (ad 10), .int (nI (g.2 3)), .int (nI (g.2 4)), .int (nI S1), .int (nI (wdE (txt.take (g.2 4)) S1)), .int (nI 2), .ref (ad 11), .int (nI (g.2 8)), .int (nI (g.2 9)), .int (nI (g.2 10)), .ref (ad 12), .int (nI (g.2 11)), .ref (ad 13)] := M34.1.1
    refine lv_if_eq (tgt := 35) cx.x cx.b d_Mo_first_17 (by decide) (fun c => absurd c (by decide)) (fun _ => ?_)
    refine lv_aload_n cx.x cx.b d_Mo_first_20 rfl (lv_at hl 0 rfl) ?_
    unfold rdF at hF
    refine hx_calll (iv_Mo_129_Mo cx (c_Mo_word l hE M34.1 hx hxc hxl (show S1 ≤ wdE (txt.take (g.2 4)) S1 by omega) (show wdE (txt.take (g.2 4)) S1 ≤ g.2 4 by omega) c_S1 hen) oM36 rfl hl.1 rfl (Nat.le_of_ble_eq_true rfl) d_Mo_first_21 ⟨Nat.le_of_ble_eq_true rfl, Nat.le_of_ble_eq_true rfl⟩ ⟨Nat.le_of_ble_eq_true rfl, Nat.le_of_ble_eq_true rfl⟩) hlo (fun _ h => h) (fun r40 H39 locs hp38 hlo => ?_)
    obtain ⟨hp38, hH9⟩ := hp38
    have hH9 := hH9.symm
    subst hH9
    have hp38 : r40 = lN (wrd (wdO txt S1 (wdE (txt.take (g.2 4)) S1))) := hp38
    subst hp38
    refine lv_ldc2 cx.x cx.b cx.o (cx.ts _ tw_914) d_Mo_first_24 ?_
    refine W.lcmp cx.x cx.b d_Mo_first_27 ?_
    refine lv_if_ne (tgt := 35) cx.x cx.b d_Mo_first_28 (by decide) (fun c1 => ?_) (fun c1 => ?_)
    · have c1 := lcN0 (wdO_okW hxc) c1
      rw [if_neg c1] at hF
      refine lv_iconst (v := 0) cx.x cx.b d_Mo_first_35 (by decide) ?_
      refine lv_istore_n (lv' := [(3, .int 0), (0, .ref a), (1, .int (nI b1)), (2, .int (nI num))]) cx.x cx.b d_Mo_first_36 rfl hl (by decide) rfl (fun ls hl => ?_)
      refine lv_iload_n cx.x cx.b d_Mo_first_37 rfl (lv_at hl 0 rfl) ?_
      refine lv_if_eq (tgt := 76) cx.x cx.b d_Mo_first_38 (by decide) (fun _ => ?_) (fun c => absurd (by decide) c)
      refine lv_iconst (v := 0) cx.x cx.b d_Mo_first_76 (by decide) ?_
      refine lv_istore (lv' := [(4, .int 0), (3, .int 0), (0, .ref a), (1, .int (nI b1)), (2, .int (nI num))]) cx.x cx.b d_Mo_first_77 hl (by decide) rfl (fun ls hl => ?_)
      refine lv_iload cx.x cx.b d_Mo_first_79 (lv_at hl 0 rfl) ?_
      refine lv_iconst (v := 1) cx.x cx.b d_Mo_first_81 (by decide) ?_
      refine lv_icmp_eq (tgt := 91) cx.x cx.b d_Mo_first_82 (by decide) (fun c => absurd c (by decide)) (fun _ => ?_)
      refine lv_iload cx.x cx.b d_Mo_first_85 (lv_at hl 0 rfl) ?_
      refine lv_iconst (v := 2) cx.x cx.b d_Mo_first_87 (by decide) ?_
      refine lv_icmp_ne (tgt := 102) cx.x cx.b d_Mo_first_88 (by decide) (fun _ => ?_) (fun c => absurd c (by decide))
      refine lv_iconst (v := 0) cx.x cx.b d_Mo_first_102 (by decide) ?_
      refine lv_istore (lv' := [(5, .int 0), (4, .int 0), (3, .int 0), (0, .ref a), (1, .int (nI b1)), (2, .int (nI num))]) cx.x cx.b d_Mo_first_103 hl (by decide) rfl (fun ls hl => ?_)
      refine lv_iload cx.x cx.b d_Mo_first_105 (lv_at hl 0 rfl) ?_
      refine lv_if_eq (tgt := 119) cx.x cx.b d_Mo_first_107 (by decide) (fun _ => ?_) (fun c => absurd (by decide) c)
      exact TB _ S1 (wdE (txt.take (g.2 4)) S1) _ hlo M34 (hF.symm) _ (lv_sub hl [0, 3, 4, 5] rfl)
    · have c1 := lcE0 (wdO_okW hxc) c1
      rw [if_pos c1] at hF
      refine lv_iconst (v := 1) cx.x cx.b d_Mo_first_31 (by decide) ?_
      refine lv_goto (tgt := 36) cx.x cx.b d_Mo_first_32 (by decide) ?_
      refine lv_istore_n (lv' := [(3, .int 1), (0, .ref a), (1, .int (nI b1)), (2, .int (nI num))]) cx.x cx.b d_Mo_first_36 rfl hl (by decide) rfl (fun ls hl => ?_)
      refine lv_iload_n cx.x cx.b d_Mo_first_37 rfl (lv_at hl 0 rfl) ?_
      refine lv_if_eq (tgt := 76) cx.x cx.b d_Mo_first_38 (by decide) (fun c => absurd c (by decide)) (fun _ => ?_)
      refine lv_aload_n cx.x cx.b d_Mo_first_41 rfl (lv_at hl 1 rfl) ?_
      unfold rdF2 at hF
      generalize h_W1 : wdE (txt.take (g.2 4)) S1 = W1 at hF b_S1 c1 M34
      have oM41 : hOb (eD E) classes H32 a 10 [.ref (ad 0), .int (nI (g.2 0)), .ref (ad 1), .int (nI (g.2 1)), .int (nI (g.2 2)), .ref (ad 2), .ref (ad 3), .ref (ad 4), .ref (ad 5), .ref (ad 6), .ref (ad 7), .ref (ad 8), .ref (ad 9), .ref (ad 10), .int (nI (g.2 3)), .int (nI (g.2 4)), .int (nI S1), .int (nI W1), .int (nI 2), .ref (ad 11), .int (nI (g.2 8)), .int (nI (g.2 9)), .int (nI (g.2 10)), .ref (ad 12), .int (nI (g.2 11)), .ref (ad 13)] := M34.1.1
      refine hx_calli (iv_Mo_125_Mo cx (c_Mo_next l hE M34.1 hx hxc hxl (show W1 ≤ (g.2 4) by omega) hen) oM41 rfl hl.1 rfl (Nat.le_of_ble_eq_true rfl) d_Mo_first_42 ⟨Nat.le_of_ble_eq_true rfl, Nat.le_of_ble_eq_true rfl⟩ ⟨Nat.le_of_ble_eq_true rfl, Nat.le_of_ble_eq_true rfl⟩) hlo (fun _ h => h) (fun r44 H43 locs hp42 hlo => ?_)
      obtain ⟨rq_M45, q_M45⟩ := hp42
      have rq_M45 : r44 = bI (decide (wdS (txt.take (g.2 4)) W1 < (g.2 4))) := rq_M45
      have M45 : Mw E H H43 a ad (g.1, up (up (up g.2 5 (wdS (txt.take (g.2 4)) W1)) 6 (if wdS (txt.take (g.2 4)) W1 < (g.2 4) then wdE (txt.take (g.2 4)) (wdS (txt.take (g.2 4)) W1) else W1)) 7 2) := Mw.cg (M34.tr q_M45) rfl rfl rfl rfl rfl rfl rfl rfl rfl rfl rfl rfl rfl rfl rfl rfl rfl rfl rfl rfl rfl rfl rfl rfl rfl rfl
      have oM46 : hOb (eD E) classes H43 a 10 [.ref (ad 0), .int (nI (g.2 0)), .ref (ad 1), .int (nI (g.2 1)), .int (nI (g.2 2)), .ref (ad 2), .ref (ad 3), .ref (ad 4), .ref (ad 5), .ref (ad 6), .ref (ad 7), .ref (ad 8), .ref (ad 9), .ref (ad 10), .int (nI (g.2 3)), .int (nI (g.2 4)), .int (nI (wdS (txt.take (g.2 4)) W1)), .int (nI (if wdS (txt.take (g.2 4)) W1 < (g.2 4) then wdE (txt.take (g.2 4)) (wdS (txt.take (g.2 4)) W1) else W1)), .int (nI 2), .ref (ad 11), .int (nI (g.2 8)), .int (nI (g.2 9)), .int (nI (g.2 10)), .ref (ad 12), .int (nI (g.2 11)), .ref (ad 13)] := M45.1.1
      have a_S2 := wdS_le (L := (txt.take (g.2 4))) (i := W1) (by omega)
      have n_S2 := wdS_not (i := W1) hen ((g.2 4) - W1) rfl (by omega)
      have b_S2 := wdE_le (L := (txt.take (g.2 4))) (i := wdS (txt.take (g.2 4)) W1) (by omega)
      generalize h_S2 : wdS (txt.take (g.2 4)) W1 = S2 at rq_M45 M45 a_S2 n_S2 b_S2 hF
      by_cases c_S2 : S2 < (g.2 4)
      · rw [if_pos c_S2] at M45
        rw [decide_eq_true c_S2] at rq_M45
        subst rq_M45
        have oM47 : hOb (eD E) classes H43 a 10 [.ref (ad 0), .int (nI (g.2 0)), .ref (ad 1), .int (nI (g.2 1)), .int (nI (g.2 2)), .ref (ad 2), .ref (ad 3), .ref (ad 4), .ref (ad 5), .ref (ad 6), .ref (ad 7), .ref (ad 8), .ref (ad 9), .ref (ad 10), .int (nI (g.2 3)), .int (nI (g.2 4)), .int (nI S2), .int (nI (wdE (txt.take (g.2 4)) S2)), .int (nI 2), .ref (ad 11), .int (nI (g.2 8)), .int (nI (g.2 9)), .int (nI (g.2 10)), .ref (ad 12), .int (nI (g.2 11)), .ref (ad 13)] := M45.1.1
        refine lv_if_eq (tgt := 76) cx.x cx.b d_Mo_first_45 (by decide) (fun c => absurd c (by decide)) (fun _ => ?_)
        generalize h_W2 : wdE (txt.take (g.2 4)) S2 = W2 at hF b_S2 M45
        have oM49 : hOb (eD E) classes H43 a 10 [.ref (ad 0), .int (nI (g.2 0)), .ref (ad 1), .int (nI (g.2 1)), .int (nI (g.2 2)), .ref (ad 2), .ref (ad 3), .ref (ad 4), .ref (ad 5), .ref (ad 6), .ref (ad 7), .ref (ad 8), .ref (ad 9), .ref (ad 10), .int (nI (g.2 3)), .int (nI (g.2 4)), .int (nI S2), .int (nI W2), .int (nI 2), .ref (ad 11), .int (nI (g.2 8)), .int (nI (g.2 9)), .int (nI (g.2 10)), .ref (ad 12), .int (nI (g.2 11)), .ref (ad 13)] := M45.1.1
        refine lv_aload_n cx.x cx.b d_Mo_first_48 rfl (lv_at hl 1 rfl) ?_
        refine gf_Mo_62_Mo cx oM49 rfl d_Mo_first_49 ?_
        refine lv_aload_n cx.x cx.b d_Mo_first_52 rfl (lv_at hl 1 rfl) ?_
        refine gf_Mo_68_Mo cx oM49 rfl d_Mo_first_53 ?_
        refine lv_isub cx.x cx.b d_Mo_first_56 ?_
        refine lv_topi (fun x50 e_x50 => ?_)
        have e_x50 : x50 = nI (W2 - S2) := e_x50.trans (pk_sub (a := W2) (b := S2) (by omega))
        subst e_x50
        refine lv_iconst (v := 1) cx.x cx.b d_Mo_first_57 (by decide) ?_
        refine lv_icmp_ne (tgt := 76) cx.x cx.b d_Mo_first_58 (by decide) (fun c2 => ?_) (fun c2 => ?_)
        · have c2 : (W2 - S2) ≠ 1 := fun zz => c2 ((nI_eq (a := (W2 - S2)) (b := 1) (by omega) (by omega)).mpr zz)
          rw [fmtW_len (by rw [wdO_len (by omega)]; exact c2), if_pos (Or.inl rfl)] at hF
          refine lv_iconst (v := 0) cx.x cx.b d_Mo_first_76 (by decide) ?_
          refine lv_istore (lv' := [(4, .int 0), (3, .int 1), (0, .ref a), (1, .int (nI b1)), (2, .int (nI num))]) cx.x cx.b d_Mo_first_77 hl (by decide) rfl (fun ls hl => ?_)
          refine lv_iload cx.x cx.b d_Mo_first_79 (lv_at hl 0 rfl) ?_
          refine lv_iconst (v := 1) cx.x cx.b d_Mo_first_81 (by decide) ?_
          refine lv_icmp_eq (tgt := 91) cx.x cx.b d_Mo_first_82 (by decide) (fun c => absurd c (by decide)) (fun _ => ?_)
          refine lv_iload cx.x cx.b d_Mo_first_85 (lv_at hl 0 rfl) ?_
          refine lv_iconst (v := 2) cx.x cx.b d_Mo_first_87 (by decide) ?_
          refine lv_icmp_ne (tgt := 102) cx.x cx.b d_Mo_first_88 (by decide) (fun _ => ?_) (fun c => absurd c (by decide))
          refine lv_iconst (v := 0) cx.x cx.b d_Mo_first_102 (by decide) ?_
          refine lv_istore (lv' := [(5, .int 0), (4, .int 0), (3, .int 1), (0, .ref a), (1, .int (nI b1)), (2, .int (nI num))]) cx.x cx.b d_Mo_first_103 hl (by decide) rfl (fun ls hl => ?_)
          refine lv_iload cx.x cx.b d_Mo_first_105 (lv_at hl 0 rfl) ?_
          refine lv_if_eq (tgt := 119) cx.x cx.b d_Mo_first_107 (by decide) (fun _ => ?_) (fun c => absurd (by decide) c)
          exact TB _ S2 W2 _ hlo M45 (hF.symm) _ (lv_sub hl [0, 3, 4, 5] rfl)
        · have c2 : (W2 - S2) = 1 := (nI_eq (a := (W2 - S2)) (b := 1) (by omega) (by omega)).mp c2
          have e2 : W2 = S2 + 1 := by omega
          rw [e2, wdO_1 (by omega), fmtW_1] at hF
          refine lv_aload_n cx.x cx.b d_Mo_first_61 rfl (lv_at hl 1 rfl) ?_
          refine gf_Mo_7_Mo cx oM49 rfl d_Mo_first_62 ?_
          refine lv_aload_n cx.x cx.b d_Mo_first_65 rfl (lv_at hl 1 rfl) ?_
          refine gf_Mo_68_Mo cx oM49 rfl d_Mo_first_66 ?_
          refine hx_iald cx.x cx.b cx.K 0 (M45.1.2.1 0 (by decide)) rfl (show vp_in (nI S2) 480 from vp_in_nI (show S2 < 480 by omega) (by decide)) d_Mo_first_69 ?_
          refine lv_topi (fun x51 e_x51 => ?_)
          have hb9 : txt.getD S2 0 < 128 := okC_lt (hxc _ (getD_mem (show S2 < txt.length by omega)))
          have e_x51 : x51 = nI (txt.getD S2 0) := e_x51.trans (congrArg nI ((congrArg (g.1 0) (nI_clamp (n := S2) (by omega))).trans (hx S2 (by omega))))
          subst e_x51
          refine lv_bipush (v := 48) cx.x cx.b d_Mo_first_70 (by decide) ?_
          refine lv_isub cx.x cx.b d_Mo_first_72 ?_
          refine lv_topi (fun x52 e_x52 => ?_)
          refine lv_goto (tgt := 77) cx.x cx.b d_Mo_first_73 (by decide) ?_
          obtain ⟨q1, q2⟩ := fm48 _ hb9
          refine lv_istore (lv' := [(4, .int x52), (3, .int 1), (0, .ref a), (1, .int (nI b1)), (2, .int (nI num))]) cx.x cx.b d_Mo_first_77 hl (by decide) rfl (fun ls hl => ?_)
          refine lv_iload cx.x cx.b d_Mo_first_79 (lv_at hl 0 rfl) ?_
          refine lv_iconst (v := 1) cx.x cx.b d_Mo_first_81 (by decide) ?_
          refine lv_icmp_eq (tgt := 91) cx.x cx.b d_Mo_first_82 (by decide) (fun c3 => ?_) (fun c3 => ?_)
          · have c4 := q1.mp (e_x52 ▸ c3)
            rw [if_pos c4] at hF
            rw [c3] at hl
            refine lv_aload_n cx.x cx.b d_Mo_first_91 rfl (lv_at hl 2 rfl) ?_
            refine hx_calli (iv_Mo_125_Mo cx (c_Mo_next l hE M45.1 hx hxc hxl (show W2 ≤ (g.2 4) by omega) hen) oM49 rfl hl.1 rfl (Nat.le_of_ble_eq_true rfl) d_Mo_first_92 ⟨Nat.le_of_ble_eq_true rfl, Nat.le_of_ble_eq_true rfl⟩ ⟨Nat.le_of_ble_eq_true rfl, Nat.le_of_ble_eq_true rfl⟩) hlo (fun _ h => h) (fun r55 H54 locs hp53 hlo => ?_)
            obtain ⟨rq_M56, q_M56⟩ := hp53
            have rq_M56 : r55 = bI (decide (wdS (txt.take (g.2 4)) W2 < (g.2 4))) := rq_M56
            have M56 : Mw E H H54 a ad (g.1, up (up (up g.2 5 (wdS (txt.take (g.2 4)) W2)) 6 (if wdS (txt.take (g.2 4)) W2 < (g.2 4) then wdE (txt.take (g.2 4)) (wdS (txt.take (g.2 4)) W2) else W2)) 7 2) := Mw.cg (M45.tr q_M56) rfl rfl rfl rfl rfl rfl rfl rfl rfl rfl rfl rfl rfl rfl rfl rfl rfl rfl rfl rfl rfl rfl rfl rfl rfl rfl
            have oM57 : hOb (eD E) classes H54 a 10 [.ref (ad 0), .int (nI (g.2 0)), .ref (ad 1), .int (nI (g.2 1)), .int (nI (g.2 2)), .ref (ad 2), .ref (ad 3), .ref (ad 4), .ref (ad 5), .ref (ad 6), .ref (ad 7), .ref (ad 8), .ref (ad 9), .ref (ad 10), .int (nI (g.2 3)), .int (nI (g.2 4)), .int (nI (wdS (txt.take (g.2 4)) W2)), .int (nI (if wdS (txt.take (g.2 4)) W2 < (g.2 4) then wdE (txt.take (g.2 4)) (wdS (txt.take (g.2 4)) W2) else W2)), .int (nI 2), .ref (ad 11), .int (nI (g.2 8)), .int (nI (g.2 9)), .int (nI (g.2 10)), .ref (ad 12), .int (nI (g.2 11)), .ref (ad 13)] := M56.1.1
            have a_S3 := wdS_le (L := (txt.take (g.2 4))) (i := W2) (by omega)
            have n_S3 := wdS_not (i := W2) hen ((g.2 4) - W2) rfl (by omega)
            have b_S3 := wdE_le (L := (txt.take (g.2 4))) (i := wdS (txt.take (g.2 4)) W2) (by omega)
            generalize h_S3 : wdS (txt.take (g.2 4)) W2 = S3 at rq_M56 M56 a_S3 n_S3 b_S3 
            by_cases c_S3 : S3 < (g.2 4)
            · rw [if_pos c_S3] at M56
              rw [decide_eq_true c_S3] at rq_M56
              subst rq_M56
              have oM58 : hOb (eD E) classes H54 a 10 [.ref (ad 0), .int (nI (g.2 0)), .ref (ad 1), .int (nI (g.2 1)), .int (nI (g.2 2)), .ref (ad 2), .ref (ad 3), .ref (ad 4), .ref (ad 5), .ref (ad 6), .ref (ad 7), .ref (ad 8), .ref (ad 9), .ref (ad 10), .int (nI (g.2 3)), .int (nI (g.2 4)), .int (nI S3), .int (nI (wdE (txt.take (g.2 4)) S3)), .int (nI 2), .ref (ad 11), .int (nI (g.2 8)), .int (nI (g.2 9)), .int (nI (g.2 10)), .ref (ad 12), .int (nI (g.2 11)), .ref (ad 13)] := M56.1.1
              refine lv_if_ne (tgt := 102) cx.x cx.b d_Mo_first_95 (by decide) (fun _ => ?_) (fun c => absurd c (by decide))
              refine lv_iconst (v := 0) cx.x cx.b d_Mo_first_102 (by decide) ?_
              refine lv_istore (lv' := [(5, .int 0), (4, .int 1), (3, .int 1), (0, .ref a), (1, .int (nI b1)), (2, .int (nI num))]) cx.x cx.b d_Mo_first_103 hl (by decide) rfl (fun ls hl => ?_)
              refine lv_iload cx.x cx.b d_Mo_first_105 (lv_at hl 0 rfl) ?_
              refine lv_if_eq (tgt := 119) cx.x cx.b d_Mo_first_107 (by decide) (fun _ => ?_) (fun c => absurd (by decide) c)
              have hF : none = F9 := by rw [← hF, ← e2, h_S3, if_pos (Or.inr (wdE_gt hen c_S3 (n_S3 c_S3)))]
              exact TB _ S3 (wdE (txt.take (g.2 4)) S3) _ hlo M56 hF.symm _ (lv_sub hl [0, 3, 4, 5] rfl)
            · rw [if_neg c_S3] at M56
              rw [decide_eq_false c_S3] at rq_M56
              subst rq_M56
              have oM59 : hOb (eD E) classes H54 a 10 [.ref (ad 0), .int (nI (g.2 0)), .ref (ad 1), .int (nI (g.2 1)), .int (nI (g.2 2)), .ref (ad 2), .ref (ad 3), .ref (ad 4), .ref (ad 5), .ref (ad 6), .ref (ad 7), .ref (ad 8), .ref (ad 9), .ref (ad 10), .int (nI (g.2 3)), .int (nI (g.2 4)), .int (nI S3), .int (nI W2), .int (nI 2), .ref (ad 11), .int (nI (g.2 8)), .int (nI (g.2 9)), .int (nI (g.2 10)), .ref (ad 12), .int (nI (g.2 11)), .ref (ad 13)] := M56.1.1
              refine lv_if_ne (tgt := 102) cx.x cx.b d_Mo_first_95 (by decide) (fun c => absurd (by decide) c) (fun _ => ?_)
              refine lv_iconst (v := 1) cx.x cx.b d_Mo_first_98 (by decide) ?_
              refine lv_goto (tgt := 103) cx.x cx.b d_Mo_first_99 (by decide) ?_
              refine lv_istore (lv' := [(5, .int 1), (4, .int 1), (3, .int 1), (0, .ref a), (1, .int (nI b1)), (2, .int (nI num))]) cx.x cx.b d_Mo_first_103 hl (by decide) rfl (fun ls hl => ?_)
              refine lv_iload cx.x cx.b d_Mo_first_105 (lv_at hl 0 rfl) ?_
              refine lv_if_eq (tgt := 119) cx.x cx.b d_Mo_first_107 (by decide) (fun c => absurd c (by decide)) (fun _ => ?_)
              have hF : some 1 = F9 := by rw [← hF, ← e2, h_S3, wdE_end (show (txt.take (g.2 4)).length ≤ S3 by omega), if_neg (fun z => by rcases z with z | z; cases z; exact absurd z (Nat.lt_irrefl _))]
              subst hF
              refine lv_aload_n cx.x cx.b d_Mo_first_110 rfl (lv_at hl 3 rfl) ?_
              refine lv_iload cx.x cx.b d_Mo_first_111 (lv_at hl 1 rfl) ?_
              refine pf_Mo_98_Mo cx oM59 hlo M56.1.2.2.1 (Nat.le_of_ble_eq_true rfl) d_Mo_first_113 (fun H60 locs ho61 z_H60 o_H60 hlo => ?_)
              have ho61 : hOb (eD E) classes H60 a 10 [.ref (ad 0), .int (nI (g.2 0)), .ref (ad 1), .int (nI (g.2 1)), .int (nI (g.2 2)), .ref (ad 2), .ref (ad 3), .ref (ad 4), .ref (ad 5), .ref (ad 6), .ref (ad 7), .ref (ad 8), .ref (ad 9), .ref (ad 10), .int (nI (g.2 3)), .int (nI (g.2 4)), .int (nI S3), .int (nI W2), .int 1, .ref (ad 11), .int (nI (g.2 8)), .int (nI (g.2 9)), .int (nI (g.2 10)), .ref (ad 12), .int (nI (g.2 11)), .ref (ad 13)] := ho61
              have M62 : Mw E H H60 a ad (g.1, up (up (up g.2 5 S3) 6 W2) 7 1) := M56.sc (g.1, up (up (up g.2 5 S3) 6 W2) 7 1) ho61 z_H60 o_H60 rfl
              have oM63 : hOb (eD E) classes H60 a 10 [.ref (ad 0), .int (nI (g.2 0)), .ref (ad 1), .int (nI (g.2 1)), .int (nI (g.2 2)), .ref (ad 2), .ref (ad 3), .ref (ad 4), .ref (ad 5), .ref (ad 6), .ref (ad 7), .ref (ad 8), .ref (ad 9), .ref (ad 10), .int (nI (g.2 3)), .int (nI (g.2 4)), .int (nI S3), .int (nI W2), .int (nI 1), .ref (ad 11), .int (nI (g.2 8)), .int (nI (g.2 9)), .int (nI (g.2 10)), .ref (ad 12), .int (nI (g.2 11)), .ref (ad 13)] := M62.1.1
              refine lv_goto (tgt := 150) cx.x cx.b d_Mo_first_116 (by decide) ?_
              refine lv_aload_n cx.x cx.b d_Mo_first_150 rfl (lv_at hl 3 rfl) ?_
              refine gf_Mo_19_Mo cx oM63 rfl d_Mo_first_151 ?_
              refine lv_iload_n cx.x cx.b d_Mo_first_154 rfl (lv_at hl 4 rfl) ?_
              refine lv_aload_n cx.x cx.b d_Mo_first_155 rfl (lv_at hl 3 rfl) ?_
              refine gf_Mo_98_Mo cx oM63 rfl d_Mo_first_156 ?_
              refine hx_iast cx.x cx.b cx.K 0 (M62.1.2.1 3 (by decide)) hlo (M62.1.2.2.2.1 3 (by decide)).1 rfl (show vp_in (nI b1) 2 from vp_in_nI (show b1 < 2 by omega) (by decide)) d_Mo_first_159 (fun H64 locs ha65 z_H64 o_H64 hlo => ?_)
              have M66 : Mw E H H64 a ad (up g.1 3 (updN (g.1 3) b1 1), up (up (up g.2 5 S3) 6 W2) 7 1) := M62.ar (up g.1 3 (updN (g.1 3) b1 1), up (up (up g.2 5 S3) 6 W2) 7 1) 3 (by decide) (by have h9 := ha65; rw [show (nI b1 : Int32).toNatClampNeg = b1 from nI_clamp (n := b1) (by omega)] at h9; have h9 : hAi H64 (ad 3) (eA E 0) (arL 3) (upd (fun i => nI ((g.1 3) i)) b1 (nI 1)) := h9; rw [upd_nI] at h9; exact h9) z_H64 o_H64 rfl (fun j hj hn => arN3 hj hn rfl rfl rfl rfl rfl rfl rfl rfl rfl rfl rfl rfl rfl)
              have oM67 : hOb (eD E) classes H64 a 10 [.ref (ad 0), .int (nI (g.2 0)), .ref (ad 1), .int (nI (g.2 1)), .int (nI (g.2 2)), .ref (ad 2), .ref (ad 3), .ref (ad 4), .ref (ad 5), .ref (ad 6), .ref (ad 7), .ref (ad 8), .ref (ad 9), .ref (ad 10), .int (nI (g.2 3)), .int (nI (g.2 4)), .int (nI S3), .int (nI W2), .int (nI 1), .ref (ad 11), .int (nI (g.2 8)), .int (nI (g.2 9)), .int (nI (g.2 10)), .ref (ad 12), .int (nI (g.2 11)), .ref (ad 13)] := M66.1.1
              refine lv_iload cx.x cx.b d_Mo_first_160 (lv_at hl 0 rfl) ?_
              refine lv_if_eq (tgt := 169) cx.x cx.b d_Mo_first_162 (by decide) (fun c => absurd c (by decide)) (fun _ => ?_)
              refine lv_iconst (v := 1) cx.x cx.b d_Mo_first_165 (by decide) ?_
              refine lv_goto (tgt := 170) cx.x cx.b d_Mo_first_166 (by decide) ?_
              rw [← hQ]
              exact hx_reti cx.x cx.b cx.r cx.k rfl hlo (fun _ h => h) (Nat.le_of_ble_eq_true rfl) (Nat.le_of_ble_eq_true rfl) d_Mo_first_170 (⟨rfl, _, M66, (all14 rfl rfl rfl rfl rfl rfl rfl rfl rfl rfl rfl rfl), ⟨rfl, rfl, rfl, rfl⟩, rfl, updN_s, fun b2 h2 => updN_n h2, fun ds hd => by rw [if_neg (by decide)]; exact hd⟩)
          · have c4 : ¬ txt.getD S2 0 = 49 := fun z => c3 (e_x52.trans (q1.mpr z))
            rw [if_neg c4] at hF
            refine lv_iload cx.x cx.b d_Mo_first_85 (lv_at hl 0 rfl) ?_
            refine lv_iconst (v := 2) cx.x cx.b d_Mo_first_87 (by decide) ?_
            refine lv_icmp_ne (tgt := 102) cx.x cx.b d_Mo_first_88 (by decide) (fun c5 => ?_) (fun c5 => ?_)
            · have c6 : ¬ txt.getD S2 0 = 50 := fun z => c5 (e_x52.trans (q2.mpr z))
              rw [if_neg c6, if_pos (Or.inl rfl)] at hF
              refine lv_iconst (v := 0) cx.x cx.b d_Mo_first_102 (by decide) ?_
              refine lv_istore (lv' := [(5, .int 0), (4, .int x52), (3, .int 1), (0, .ref a), (1, .int (nI b1)), (2, .int (nI num))]) cx.x cx.b d_Mo_first_103 hl (by decide) rfl (fun ls hl => ?_)
              refine lv_iload cx.x cx.b d_Mo_first_105 (lv_at hl 0 rfl) ?_
              refine lv_if_eq (tgt := 119) cx.x cx.b d_Mo_first_107 (by decide) (fun _ => ?_) (fun c => absurd (by decide) c)
              exact TB _ S2 W2 _ hlo M45 hF.symm _ (lv_sub hl [0, 3, 4, 5] rfl)
            · have c6 := q2.mp (e_x52 ▸ c5)
              rw [if_pos c6] at hF
              rw [c5] at hl
              refine lv_aload_n cx.x cx.b d_Mo_first_91 rfl (lv_at hl 2 rfl) ?_
              refine hx_calli (iv_Mo_125_Mo cx (c_Mo_next l hE M45.1 hx hxc hxl (show W2 ≤ (g.2 4) by omega) hen) oM49 rfl hl.1 rfl (Nat.le_of_ble_eq_true rfl) d_Mo_first_92 ⟨Nat.le_of_ble_eq_true rfl, Nat.le_of_ble_eq_true rfl⟩ ⟨Nat.le_of_ble_eq_true rfl, Nat.le_of_ble_eq_true rfl⟩) hlo (fun _ h => h) (fun r70 H69 locs hp68 hlo => ?_)
              obtain ⟨rq_M71, q_M71⟩ := hp68
              have rq_M71 : r70 = bI (decide (wdS (txt.take (g.2 4)) W2 < (g.2 4))) := rq_M71
              have M71 : Mw E H H69 a ad (g.1, up (up (up g.2 5 (wdS (txt.take (g.2 4)) W2)) 6 (if wdS (txt.take (g.2 4)) W2 < (g.2 4) then wdE (txt.take (g.2 4)) (wdS (txt.take (g.2 4)) W2) else W2)) 7 2) := Mw.cg (M45.tr q_M71) rfl rfl rfl rfl rfl rfl rfl rfl rfl rfl rfl rfl rfl rfl rfl rfl rfl rfl rfl rfl rfl rfl rfl rfl rfl rfl
              have oM72 : hOb (eD E) classes H69 a 10 [.ref (ad 0), .int (nI (g.2 0)), .ref (ad 1), .int (nI (g.2 1)), .int (nI (g.2 2)), .ref (ad 2), .ref (ad 3), .ref (ad 4), .ref (ad 5), .ref (ad 6), .ref (ad 7), .ref (ad 8), .ref (ad 9), .ref (ad 10), .int (nI (g.2 3)), .int (nI (g.2 4)), .int (nI (wdS (txt.take (g.2 4)) W2)), .int (nI (if wdS (txt.take (g.2 4)) W2 < (g.2 4) then wdE (txt.take (g.2 4)) (wdS (txt.take (g.2 4)) W2) else W2)), .int (nI 2), .ref (ad 11), .int (nI (g.2 8)), .int (nI (g.2 9)), .int (nI (g.2 10)), .ref (ad 12), .int (nI (g.2 11)), .ref (ad 13)] := M71.1.1
              have a_S3 := wdS_le (L := (txt.take (g.2 4))) (i := W2) (by omega)
              have n_S3 := wdS_not (i := W2) hen ((g.2 4) - W2) rfl (by omega)
              have b_S3 := wdE_le (L := (txt.take (g.2 4))) (i := wdS (txt.take (g.2 4)) W2) (by omega)
              generalize h_S3 : wdS (txt.take (g.2 4)) W2 = S3 at rq_M71 M71 a_S3 n_S3 b_S3 
              by_cases c_S3 : S3 < (g.2 4)
              · rw [if_pos c_S3] at M71
                rw [decide_eq_true c_S3] at rq_M71
                subst rq_M71
                have oM73 : hOb (eD E) classes H69 a 10 [.ref (ad 0), .int (nI (g.2 0)), .ref (ad 1), .int (nI (g.2 1)), .int (nI (g.2 2)), .ref (ad 2), .ref (ad 3), .ref (ad 4), .ref (ad 5), .ref (ad 6), .ref (ad 7), .ref (ad 8), .ref (ad 9), .ref (ad 10), .int (nI (g.2 3)), .int (nI (g.2 4)), .int (nI S3), .int (nI (wdE (txt.take (g.2 4)) S3)), .int (nI 2), .ref (ad 11), .int (nI (g.2 8)), .int (nI (g.2 9)), .int (nI (g.2 10)), .ref (ad 12), .int (nI (g.2 11)), .ref (ad 13)] := M71.1.1
                refine lv_if_ne (tgt := 102) cx.x cx.b d_Mo_first_95 (by decide) (fun _ => ?_) (fun c => absurd c (by decide))
                refine lv_iconst (v := 0) cx.x cx.b d_Mo_first_102 (by decide) ?_
                refine lv_istore (lv' := [(5, .int 0), (4, .int 2), (3, .int 1), (0, .ref a), (1, .int (nI b1)), (2, .int (nI num))]) cx.x cx.b d_Mo_first_103 hl (by decide) rfl (fun ls hl => ?_)
                refine lv_iload cx.x cx.b d_Mo_first_105 (lv_at hl 0 rfl) ?_
                refine lv_if_eq (tgt := 119) cx.x cx.b d_Mo_first_107 (by decide) (fun _ => ?_) (fun c => absurd (by decide) c)
                have hF : none = F9 := by rw [← hF, ← e2, h_S3, if_pos (Or.inr (wdE_gt hen c_S3 (n_S3 c_S3)))]
                exact TB _ S3 (wdE (txt.take (g.2 4)) S3) _ hlo M71 hF.symm _ (lv_sub hl [0, 3, 4, 5] rfl)
              · rw [if_neg c_S3] at M71
                rw [decide_eq_false c_S3] at rq_M71
                subst rq_M71
                have oM74 : hOb (eD E) classes H69 a 10 [.ref (ad 0), .int (nI (g.2 0)), .ref (ad 1), .int (nI (g.2 1)), .int (nI (g.2 2)), .ref (ad 2), .ref (ad 3), .ref (ad 4), .ref (ad 5), .ref (ad 6), .ref (ad 7), .ref (ad 8), .ref (ad 9), .ref (ad 10), .int (nI (g.2 3)), .int (nI (g.2 4)), .int (nI S3), .int (nI W2), .int (nI 2), .ref (ad 11), .int (nI (g.2 8)), .int (nI (g.2 9)), .int (nI (g.2 10)), .ref (ad 12), .int (nI (g.2 11)), .ref (ad 13)] := M71.1.1
                refine lv_if_ne (tgt := 102) cx.x cx.b d_Mo_first_95 (by decide) (fun c => absurd (by decide) c) (fun _ => ?_)
                refine lv_iconst (v := 1) cx.x cx.b d_Mo_first_98 (by decide) ?_
                refine lv_goto (tgt := 103) cx.x cx.b d_Mo_first_99 (by decide) ?_
                refine lv_istore (lv' := [(5, .int 1), (4, .int 2), (3, .int 1), (0, .ref a), (1, .int (nI b1)), (2, .int (nI num))]) cx.x cx.b d_Mo_first_103 hl (by decide) rfl (fun ls hl => ?_)
                refine lv_iload cx.x cx.b d_Mo_first_105 (lv_at hl 0 rfl) ?_
                refine lv_if_eq (tgt := 119) cx.x cx.b d_Mo_first_107 (by decide) (fun c => absurd c (by decide)) (fun _ => ?_)
                have hF : some 2 = F9 := by rw [← hF, ← e2, h_S3, wdE_end (show (txt.take (g.2 4)).length ≤ S3 by omega), if_neg (fun z => by rcases z with z | z; cases z; exact absurd z (Nat.lt_irrefl _))]
                subst hF
                refine lv_aload_n cx.x cx.b d_Mo_first_110 rfl (lv_at hl 3 rfl) ?_
                refine lv_iload cx.x cx.b d_Mo_first_111 (lv_at hl 1 rfl) ?_
                refine pf_Mo_98_Mo cx oM74 hlo M71.1.2.2.1 (Nat.le_of_ble_eq_true rfl) d_Mo_first_113 (fun H75 locs ho76 z_H75 o_H75 hlo => ?_)
                have ho76 : hOb (eD E) classes H75 a 10 [.ref (ad 0), .int (nI (g.2 0)), .ref (ad 1), .int (nI (g.2 1)), .int (nI (g.2 2)), .ref (ad 2), .ref (ad 3), .ref (ad 4), .ref (ad 5), .ref (ad 6), .ref (ad 7), .ref (ad 8), .ref (ad 9), .ref (ad 10), .int (nI (g.2 3)), .int (nI (g.2 4)), .int (nI S3), .int (nI W2), .int 2, .ref (ad 11), .int (nI (g.2 8)), .int (nI (g.2 9)), .int (nI (g.2 10)), .ref (ad 12), .int (nI (g.2 11)), .ref (ad 13)] := ho76
                have M77 : Mw E H H75 a ad (g.1, up (up (up g.2 5 S3) 6 W2) 7 2) := M71.sc (g.1, up (up (up g.2 5 S3) 6 W2) 7 2) ho76 z_H75 o_H75 rfl
                have oM78 : hOb (eD E) classes H75 a 10 [.ref (ad 0), .int (nI (g.2 0)), .ref (ad 1), .int (nI (g.2 1)), .int (nI (g.2 2)), .ref (ad 2), .ref (ad 3), .ref (ad 4), .ref (ad 5), .ref (ad 6), .ref (ad 7), .ref (ad 8), .ref (ad 9), .ref (ad 10), .int (nI (g.2 3)), .int (nI (g.2 4)), .int (nI S3), .int (nI W2), .int (nI 2), .ref (ad 11), .int (nI (g.2 8)), .int (nI (g.2 9)), .int (nI (g.2 10)), .ref (ad 12), .int (nI (g.2 11)), .ref (ad 13)] := M77.1.1
                refine lv_goto (tgt := 150) cx.x cx.b d_Mo_first_116 (by decide) ?_
                refine lv_aload_n cx.x cx.b d_Mo_first_150 rfl (lv_at hl 3 rfl) ?_
                refine gf_Mo_19_Mo cx oM78 rfl d_Mo_first_151 ?_
                refine lv_iload_n cx.x cx.b d_Mo_first_154 rfl (lv_at hl 4 rfl) ?_
                refine lv_aload_n cx.x cx.b d_Mo_first_155 rfl (lv_at hl 3 rfl) ?_
                refine gf_Mo_98_Mo cx oM78 rfl d_Mo_first_156 ?_
                refine hx_iast cx.x cx.b cx.K 0 (M77.1.2.1 3 (by decide)) hlo (M77.1.2.2.2.1 3 (by decide)).1 rfl (show vp_in (nI b1) 2 from vp_in_nI (show b1 < 2 by omega) (by decide)) d_Mo_first_159 (fun H79 locs ha80 z_H79 o_H79 hlo => ?_)
                have M81 : Mw E H H79 a ad (up g.1 3 (updN (g.1 3) b1 2), up (up (up g.2 5 S3) 6 W2) 7 2) := M77.ar (up g.1 3 (updN (g.1 3) b1 2), up (up (up g.2 5 S3) 6 W2) 7 2) 3 (by decide) (by have h9 := ha80; rw [show (nI b1 : Int32).toNatClampNeg = b1 from nI_clamp (n := b1) (by omega)] at h9; have h9 : hAi H79 (ad 3) (eA E 0) (arL 3) (upd (fun i => nI ((g.1 3) i)) b1 (nI 2)) := h9; rw [upd_nI] at h9; exact h9) z_H79 o_H79 rfl (fun j hj hn => arN3 hj hn rfl rfl rfl rfl rfl rfl rfl rfl rfl rfl rfl rfl rfl)
                have oM82 : hOb (eD E) classes H79 a 10 [.ref (ad 0), .int (nI (g.2 0)), .ref (ad 1), .int (nI (g.2 1)), .int (nI (g.2 2)), .ref (ad 2), .ref (ad 3), .ref (ad 4), .ref (ad 5), .ref (ad 6), .ref (ad 7), .ref (ad 8), .ref (ad 9), .ref (ad 10), .int (nI (g.2 3)), .int (nI (g.2 4)), .int (nI S3), .int (nI W2), .int (nI 2), .ref (ad 11), .int (nI (g.2 8)), .int (nI (g.2 9)), .int (nI (g.2 10)), .ref (ad 12), .int (nI (g.2 11)), .ref (ad 13)] := M81.1.1
                refine lv_iload cx.x cx.b d_Mo_first_160 (lv_at hl 0 rfl) ?_
                refine lv_if_eq (tgt := 169) cx.x cx.b d_Mo_first_162 (by decide) (fun c => absurd c (by decide)) (fun _ => ?_)
                refine lv_iconst (v := 1) cx.x cx.b d_Mo_first_165 (by decide) ?_
                refine lv_goto (tgt := 170) cx.x cx.b d_Mo_first_166 (by decide) ?_
                rw [← hQ]
                exact hx_reti cx.x cx.b cx.r cx.k rfl hlo (fun _ h => h) (Nat.le_of_ble_eq_true rfl) (Nat.le_of_ble_eq_true rfl) d_Mo_first_170 (⟨rfl, _, M81, (all14 rfl rfl rfl rfl rfl rfl rfl rfl rfl rfl rfl rfl), ⟨rfl, rfl, rfl, rfl⟩, rfl, updN_s, fun b2 h2 => updN_n h2, fun ds hd => by rw [if_neg (by decide)]; exact hd⟩)
      · rw [if_neg c_S2] at M45
        rw [decide_eq_false c_S2] at rq_M45
        subst rq_M45
        have oM48 : hOb (eD E) classes H43 a 10 [.ref (ad 0), .int (nI (g.2 0)), .ref (ad 1), .int (nI (g.2 1)), .int (nI (g.2 2)), .ref (ad 2), .ref (ad 3), .ref (ad 4), .ref (ad 5), .ref (ad 6), .ref (ad 7), .ref (ad 8), .ref (ad 9), .ref (ad 10), .int (nI (g.2 3)), .int (nI (g.2 4)), .int (nI S2), .int (nI W1), .int (nI 2), .ref (ad 11), .int (nI (g.2 8)), .int (nI (g.2 9)), .int (nI (g.2 10)), .ref (ad 12), .int (nI (g.2 11)), .ref (ad 13)] := M45.1.1
        refine lv_if_eq (tgt := 76) cx.x cx.b d_Mo_first_45 (by decide) (fun _ => ?_) (fun c => absurd (by decide) c)
        rw [wdE_end (show (txt.take (g.2 4)).length ≤ S2 by omega), wdO_self, show fmtW [] = none from rfl, if_pos (Or.inl rfl)] at hF
        refine lv_iconst (v := 0) cx.x cx.b d_Mo_first_76 (by decide) ?_
        refine lv_istore (lv' := [(4, .int 0), (3, .int 1), (0, .ref a), (1, .int (nI b1)), (2, .int (nI num))]) cx.x cx.b d_Mo_first_77 hl (by decide) rfl (fun ls hl => ?_)
        refine lv_iload cx.x cx.b d_Mo_first_79 (lv_at hl 0 rfl) ?_
        refine lv_iconst (v := 1) cx.x cx.b d_Mo_first_81 (by decide) ?_
        refine lv_icmp_eq (tgt := 91) cx.x cx.b d_Mo_first_82 (by decide) (fun c => absurd c (by decide)) (fun _ => ?_)
        refine lv_iload cx.x cx.b d_Mo_first_85 (lv_at hl 0 rfl) ?_
        refine lv_iconst (v := 2) cx.x cx.b d_Mo_first_87 (by decide) ?_
        refine lv_icmp_ne (tgt := 102) cx.x cx.b d_Mo_first_88 (by decide) (fun _ => ?_) (fun c => absurd c (by decide))
        refine lv_iconst (v := 0) cx.x cx.b d_Mo_first_102 (by decide) ?_
        refine lv_istore (lv' := [(5, .int 0), (4, .int 0), (3, .int 1), (0, .ref a), (1, .int (nI b1)), (2, .int (nI num))]) cx.x cx.b d_Mo_first_103 hl (by decide) rfl (fun ls hl => ?_)
        refine lv_iload cx.x cx.b d_Mo_first_105 (lv_at hl 0 rfl) ?_
        refine lv_if_eq (tgt := 119) cx.x cx.b d_Mo_first_107 (by decide) (fun _ => ?_) (fun c => absurd (by decide) c)
        exact TB _ S2 W1 _ hlo M45 (hF.symm) _ (lv_sub hl [0, 3, 4, 5] rfl)
  · rw [if_neg c_S1] at M34
    rw [decide_eq_false c_S1] at rq_M34
    subst rq_M34
    have oM37 : hOb (eD E) classes H32 a 10 [.ref (ad 0), .int (nI (g.2 0)), .ref (ad 1), .int (nI (g.2 1)), .int (nI (g.2 2)), .ref (ad 2), .ref (ad 3), .ref (ad 4), .ref (ad 5), .ref (ad 6), .ref (ad 7), .ref (ad 8), .ref (ad 9), .ref (ad 10), .int (nI (g.2 3)), .int (nI (g.2 4)), .int (nI S1), .int (nI (g.2 3)), .int (nI 2), .ref (ad 11), .int (nI (g.2 8)), .int (nI (g.2 9)), .int (nI (g.2 10)), .ref (ad 12), .int (nI (g.2 11)), .ref (ad 13)] := M34.1.1
    exact absurd hws c_S1
