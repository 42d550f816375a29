/-- what reading a line into the baseline b leaves as it was -/
def Bfr (b : Nat) (g g2 : MS) : Prop := (g2.1 0 = g.1 0 ∧ g2.1 1 = g.1 1 ∧ g2.1 3 = g.1 3) ∧ (∀ b2 U2, b2 < 2 → b2 ≠ b → Rows g.1 b2 U2 → Rows g2.1 b2 U2) ∧ (g2.2 0 = g.2 0 ∧ g2.2 1 = g.2 1 ∧ g2.2 2 = g.2 2 ∧ g2.2 3 = g.2 3 ∧ g2.2 4 = g.2 4 ∧ g2.2 7 = g.2 7)
theorem getD_snoc {α : Type} {xs : List α} {x d : α} {i : Nat} : (xs ++ [x]).getD i d = if i < xs.length then xs.getD i d else if i = xs.length then x else d := by
  by_cases h : i < xs.length
  · rw [if_pos h, getD_app h]
  · rw [if_neg h]
    by_cases h2 : i = xs.length
    · rw [if_pos h2, h2, getD_last]
    · rw [if_neg h2, List.getD_eq_getElem?_getD, List.getElem?_eq_none (by rw [List.length_append, List.length_singleton]; omega)]; rfl
theorem Rows.snocT {f f2 : Nat → Nat → Nat} {b : Nat} {U : List TU} {x : DV} (h : Rows f b U) (hl : U.length < 12) (h2 : f2 2 b = U.length + 1) (h3 : ∀ t, t < U.length → f2 10 (12 * b + t) = f 10 (12 * b + t)) (h4 : f2 10 (12 * b + U.length) = 0) (h5 : Row f2 (108 * b + U.length) x) (h6 : ∀ r, 108 * b ≤ r → r < 108 * b + 108 → r ≠ 108 * b + U.length → SameR f f2 r) : Rows f2 b (U ++ [(x, [])]) := by
  obtain ⟨a1, a2, a3⟩ := h
  refine ⟨by rw [List.length_append, List.length_singleton]; exact h2, by rw [List.length_append, List.length_singleton]; omega, fun t ht => ?_⟩
  rw [List.length_append, List.length_singleton] at ht
  by_cases c : t < U.length
  · rw [getD_app c]
    obtain ⟨b1, b2, b3, b4⟩ := a3 t c
    exact ⟨b1.same (h6 _ (by omega) (by omega) (by omega)), (h3 t c).trans b2, b3, fun m hm => (b4 m hm).same (h6 _ (by omega) (by omega) (by omega))⟩
  · rw [show t = U.length by omega, getD_last]
    exact ⟨h5, h4, Nat.zero_le _, fun m hm => absurd hm (Nat.not_lt_zero m)⟩
theorem Rows.snocM {f f2 : Nat → Nat → Nat} {b : Nat} {W : List TU} {u : TU} {x : DV} (h : Rows f b (W ++ [u])) (hl : u.2.length < 8) (h2 : f2 2 b = f 2 b) (h3 : ∀ t, t < W.length → f2 10 (12 * b + t) = f 10 (12 * b + t)) (h4 : f2 10 (12 * b + W.length) = u.2.length + 1) (h5 : Row f2 (108 * b + 12 + 8 * W.length + u.2.length) x) (h6 : ∀ r, 108 * b ≤ r → r < 108 * b + 108 → r ≠ 108 * b + 12 + 8 * W.length + u.2.length → SameR f f2 r) : Rows f2 b (W ++ [(u.1, u.2 ++ [x])]) := by
  obtain ⟨a1, a2, a3⟩ := h
  rw [List.length_append, List.length_singleton] at a1 a2
  refine ⟨by rw [List.length_append, List.length_singleton]; exact h2.trans a1, by rw [List.length_append, List.length_singleton]; omega, fun t ht => ?_⟩
  rw [List.length_append, List.length_singleton] at ht
  have a4 := a3 t (by rw [List.length_append, List.length_singleton]; omega)
  by_cases c : t < W.length
  · rw [getD_app c] at a4 ⊢
    obtain ⟨b1, b2, b3, b4⟩ := a4
    exact ⟨b1.same (h6 _ (by omega) (by omega) (by omega)), (h3 t c).trans b2, b3, fun m hm => (b4 m hm).same (h6 _ (by omega) (by omega) (by omega))⟩
  · rw [show t = W.length by omega, getD_last] at a4 ⊢
    obtain ⟨b1, b2, b3, b4⟩ := a4
    refine ⟨b1.same (h6 _ (by omega) (by omega) (by omega)), by rw [h4, List.length_append, List.length_singleton], by rw [List.length_append, List.length_singleton]; omega, fun m hm => ?_⟩
    have hm : m < (u.2 ++ [x]).length := hm
    rw [List.length_append, List.length_singleton] at hm
    show Row f2 _ ((u.2 ++ [x]).getD m default)
    by_cases c2 : m < u.2.length
    · rw [getD_app c2]; exact (b4 m c2).same (h6 _ (by omega) (by omega) (by omega))
    · rw [show m = u.2.length by omega, getD_last]; exact h5
theorem Wfr.rows {g g2 : MS} (h : Wfr g g2) {b : Nat} {U : List TU} (hb : b < 2) (hU : Rows g.1 b U) : Rows g2.1 b U := hU.fr (by rw [h.1.2.2.1]) (fun t _ => by rw [h.1.2.2.2.2]) (fun r _ hr => h.2.1 r (by omega))
theorem Wfr.bfr {g g2 : MS} (h : Wfr g g2) (b : Nat) : Bfr b g g2 := ⟨⟨h.1.1, h.1.2.1, h.1.2.2.2.1⟩, fun _ _ hb _ hU => h.rows hb hU, h.2.2⟩
theorem mem_getDU {U : List TU} {u : TU} : u ∈ U ↔ ∃ t, t < U.length ∧ U.getD t default = u := by
  constructor
  · intro h
    obtain ⟨i, hi, e⟩ := List.getElem_of_mem h
    exact ⟨i, hi, by rw [List.getD_eq_getElem?_getD, List.getElem?_eq_getElem hi]; exact e⟩
  · rintro ⟨t, ht, e⟩
    rw [← e, List.getD_eq_getElem?_getD, List.getElem?_eq_getElem ht]; exact List.getElem_mem ht
theorem mem_getDD {U : List DV} {u : DV} : u ∈ U ↔ ∃ t, t < U.length ∧ U.getD t default = u := by
  constructor
  · intro h
    obtain ⟨i, hi, e⟩ := List.getElem_of_mem h
    exact ⟨i, hi, by rw [List.getD_eq_getElem?_getD, List.getElem?_eq_getElem hi]; exact e⟩
  · rintro ⟨t, ht, e⟩
    rw [← e, List.getD_eq_getElem?_getD, List.getElem?_eq_getElem ht]; exact List.getElem_mem ht
theorem tkT_7 {U : List TU} {x : DV} (h : ∃ t, t < U.length ∧ cmpL (U.getD t default).1.1 x.1 = 0) : tkT U x = 7 := by
  unfold tkT
  obtain ⟨t, ht, e⟩ := h
  rw [if_pos ⟨_, mem_getDU.mpr ⟨t, ht, rfl⟩, e⟩]
theorem tkT_n {U : List TU} {x : DV} (h : ∀ t, t < U.length → cmpL (U.getD t default).1.1 x.1 ≠ 0) : tkT U x = if 12 ≤ U.length then 8 else 0 := by
  unfold tkT
  rw [if_neg]
  rintro ⟨u, hu, e⟩
  obtain ⟨t, ht, eu⟩ := mem_getDU.mp hu
  rw [← eu] at e
  exact h t ht e
theorem tkM_7 {W : List TU} {u : TU} {x : DV} (h : ∃ t, t < u.2.length ∧ cmpD (u.2.getD t default) x = 0) : tkM (W ++ [u]) x = 7 := by
  rw [tkM_snoc]
  obtain ⟨t, ht, e⟩ := h
  rw [if_pos ⟨_, mem_getDD.mpr ⟨t, ht, rfl⟩, e⟩]
theorem tkM_n {W : List TU} {u : TU} {x : DV} (h : ∀ t, t < u.2.length → cmpD (u.2.getD t default) x ≠ 0) : tkM (W ++ [u]) x = if 8 ≤ u.2.length then 8 else 0 := by
  rw [tkM_snoc, if_neg]
  rintro ⟨d, hd, e⟩
  obtain ⟨t, ht, eu⟩ := mem_getDD.mp hd
  rw [← eu] at e
  exact h t ht e
def LnQ (K : Nat × Nat) (P b fr : Nat) (g g2 : MS) (U U2 : List TU) : Prop := Bfr b g g2 ∧ (K.1 = 0 → Rows g2.1 b U2 ∧ g2.2 9 = 0) ∧ (K.1 ≠ 0 → Rows g2.1 b U ∧ g2.2 9 = K.1 ∧ (K.1 < 7 → g2.2 10 = P - fr + 1))
theorem Bfr.tr {b : Nat} {g g2 g3 : MS} (h : Bfr b g g2) (k : Bfr b g2 g3) : Bfr b g g3 := ⟨⟨k.1.1.trans h.1.1, k.1.2.1.trans h.1.2.1, k.1.2.2.trans h.1.2.2⟩, fun b2 U2 h1 h2 h3 => k.2.1 b2 U2 h1 h2 (h.2.1 b2 U2 h1 h2 h3), ⟨k.2.2.1.trans h.2.2.1, k.2.2.2.1.trans h.2.2.2.1, k.2.2.2.2.1.trans h.2.2.2.2.1, k.2.2.2.2.2.1.trans h.2.2.2.2.2.1, k.2.2.2.2.2.2.1.trans h.2.2.2.2.2.2.1, k.2.2.2.2.2.2.2.trans h.2.2.2.2.2.2.2⟩⟩
set_option maxHeartbeats 4000000 in
set_option maxRecDepth 100000 in
theorem c_Mo_typeLine (l : Launch) {E : hE} (hE : EnvOk E) {H : Heap} {a : Nat} {ad : Nat → Nat} {g : MS} (M : Mo E H a ad g) {txt : List Nat} (hx : Tx (g.1 0) txt) (hxc : ∀ x ∈ txt, okC x = true) (hxl : txt.length ≤ 480) (hwe : g.2 6 = g.2 3) (hfe : g.2 3 ≤ g.2 4) (hen : g.2 4 ≤ txt.length) (hfm : g.2 7 = 1 ∨ g.2 7 = 2) (haf : txt.getD (g.2 4) 0 ≠ 36) {b1 : Nat} {U : List TU} (hb1 : b1 < 2) (hU : Rows g.1 b1 U) : Ct l E y_Mo_typeLine b_Mo_typeLine 3 (some .int) (rmA 5 0 0) [.ref a, .int (nI b1)] H (hQi (fun r H1 => r = (if (rdK false U (rdW false (g.2 7) txt (g.2 4) (wdS (txt.take (g.2 4)) (g.2 3)) (wdE (txt.take (g.2 4)) (wdS (txt.take (g.2 4)) (g.2 3)))) (wdS (txt.take (g.2 4)) (g.2 3))).1 = 0 then nI U.length else -1) ∧ ∃ g2 : MS, Mw E H H1 a ad g2 ∧ LnQ (rdK false U (rdW false (g.2 7) txt (g.2 4) (wdS (txt.take (g.2 4)) (g.2 3)) (wdE (txt.take (g.2 4)) (wdS (txt.take (g.2 4)) (g.2 3)))) (wdS (txt.take (g.2 4)) (g.2 3))) (rdW false (g.2 7) txt (g.2 4) (wdS (txt.take (g.2 4)) (g.2 3)) (wdE (txt.take (g.2 4)) (wdS (txt.take (g.2 4)) (g.2 3)))).2.1 b1 (g.2 3) g g2 U (U ++ [((rdW false (g.2 7) txt (g.2 4) (wdS (txt.take (g.2 4)) (g.2 3)) (wdE (txt.take (g.2 4)) (wdS (txt.take (g.2 4)) (g.2 3)))).2.2.2, [])]))) := by
  refine hx_enter hE (by decide) (Nat.le_of_ble_eq_true rfl) ?_
  intro p e s m args below meth c ls cx hnm hl
  have hl : lv_has ls 3 [(0, .ref a), (1, .int (nI b1))] := hl
  have hlo : hLo (eB E) [] := hLo.nil
  generalize hQ : MQ below _ args s _ _ _ = Q
  have M0 : Mw E H H a ad g := ⟨M, hCh.rf, rfl⟩
  refine lv_aload_n cx.x cx.b d_Mo_typeLine_0 rfl (lv_at hl 0 rfl) ?_
  refine lv_iconst (v := 0) cx.x cx.b d_Mo_typeLine_1 (by decide) ?_
  refine pf_Mo_116_Mo cx M0.1.1 hlo M0.1.2.2.1 (Nat.le_of_ble_eq_true rfl) d_Mo_typeLine_2 (fun H1 locs ho2 z_H1 o_H1 hlo => ?_)
  have ho2 : hOb (eD E) classes H1 a 10 [.ref (ad 0), .int (nI (g.2 0)), .ref (ad 1), .int (nI (g.2 1)), .int (nI (g.2 2)), .ref (ad 2), .ref (ad 3), .ref (ad 4), .ref (ad 5), .ref (ad 6), .ref (ad 7), .ref (ad 8), .ref (ad 9), .ref (ad 10), .int (nI (g.2 3)), .int (nI (g.2 4)), .int (nI (g.2 5)), .int (nI (g.2 6)), .int (nI (g.2 7)), .ref (ad 11), .int (nI (g.2 8)), .int 0, .int (nI (g.2 10)), .ref (ad 12), .int (nI (g.2 11)), .ref (ad 13)] := ho2
  have M3 : Mw E H H1 a ad (g.1, up g.2 9 0) := M0.sc (g.1, up g.2 9 0) ho2 z_H1 o_H1 rfl
  have oM4 : hOb (eD E) classes H1 a 10 [.ref (ad 0), .int (nI (g.2 0)), .ref (ad 1), .int (nI (g.2 1)), .int (nI (g.2 2)), .ref (ad 2), .ref (ad 3), .ref (ad 4), .ref (ad 5), .ref (ad 6), .ref (ad 7), .ref (ad 8), .ref (ad 9), .ref (ad 10), .int (nI (g.2 3)), .int (nI (g.2 4)), .int (nI (g.2 5)), .int (nI (g.2 6)), .int (nI (g.2 7)), .ref (ad 11), .int (nI (g.2 8)), .int (nI 0), .int (nI (g.2 10)), .ref (ad 12), .int (nI (g.2 11)), .ref (ad 13)] := M3.1.1
  refine lv_aload_n cx.x cx.b d_Mo_typeLine_5 rfl (lv_at hl 0 rfl) ?_
  refine lv_iconst (v := 0) cx.x cx.b d_Mo_typeLine_6 (by decide) ?_
  refine lv_sipush (v := 216) cx.x cx.b d_Mo_typeLine_7 (by decide) ?_
  refine hx_calli (iv_Mo_156_Mo cx (c_Mo_words_f l hE M3.1 hx hxc hxl hwe hfe hen hfm haf) oM4 rfl hl.1 rfl (Nat.le_of_ble_eq_true rfl) d_Mo_typeLine_10 ⟨Nat.le_of_ble_eq_true rfl, Nat.le_of_ble_eq_true rfl⟩ ⟨Nat.le_of_ble_eq_true rfl, Nat.le_of_ble_eq_true rfl⟩) hlo (fun _ h => h) (fun r7 H6 locs hp5 hlo => ?_)
  obtain ⟨g2, q2, w2⟩ := hp5
  have M2 : Mw E H H6 a ad g2 := M3.tr q2
  have w2 : WdQ (rdW false (g.2 7) txt (g.2 4) (wdS (txt.take (g.2 4)) (g.2 3)) (wdE (txt.take (g.2 4)) (wdS (txt.take (g.2 4)) (g.2 3)))) (g.1, up g.2 9 0) g2 r7 := w2
  generalize hV9 : rdW false (g.2 7) txt (g.2 4) (wdS (txt.take (g.2 4)) (g.2 3)) (wdE (txt.take (g.2 4)) (wdS (txt.take (g.2 4)) (g.2 3))) = V9 at w2 hQ
  obtain ⟨wf, wr, wy, wn⟩ := w2
  have wf : Wfr g g2 := wf
  by_cases cV : V9.1 = 0
  · rw [decide_eq_true cV] at wr
    subst wr
    rw [show rdK false U V9 (wdS (txt.take (g.2 4)) (g.2 3)) = (tkT U V9.2.2.2, wdS (txt.take (g.2 4)) (g.2 3)) from if_pos cV] at hQ
    obtain ⟨wrow, wc⟩ := wy cV
    have wc : g2.2 9 = 0 := wc
    generalize V9.2.2.2 = x at hQ wrow
    have hU2 := wf.rows hb1 hU
    refine lv_if_ne (tgt := 18) cx.x cx.b d_Mo_typeLine_13 (by decide) (fun _ => ?_) (fun c => absurd c (by decide))
    refine lv_iconst (v := 0) cx.x cx.b d_Mo_typeLine_18 (by decide) ?_
    refine lv_istore_n (lv' := [(2, .int 0), (0, .ref a), (1, .int (nI b1))]) cx.x cx.b d_Mo_typeLine_19 rfl hl (by decide) rfl (fun ls hl => ?_)
    have LP : ∀ (k : Nat) (locs : List Loc) (t1 cd : Nat) (H5 : Heap), hLo (eB E) locs → (U.length - t1 < k) → (t1 ≤ U.length) → (Mw E H H5 a ad (g2.1, up g2.2 9 cd)) → ((cd = 0 ∧ ∀ t, t < t1 → cmpL (U.getD t default).1.1 x.1 ≠ 0) ∨ (cd = 7 ∧ ∃ t, t < t1 ∧ cmpL (U.getD t default).1.1 x.1 = 0)) → ∀ ls, lv_has ls 3 [(2, .int (nI t1)), (0, .ref a), (1, .int (nI b1))] → W p l e (rmA 5 0 0) s m args below meth c H5 locs 0 0 Q (F0 m 20 ls []) := by
      intro k
      induction k with
      | zero => intro locs t1 cd H5 hlo hk ht1 M5 hcd; exact absurd hk (by omega)
      | succ k ih =>
        intro locs t1 cd H5 hlo hk ht1 M5 hcd ls hl
        have oM8 : hOb (eD E) classes H5 a 10 [.ref (ad 0), .int (nI (g2.2 0)), .ref (ad 1), .int (nI (g2.2 1)), .int (nI (g2.2 2)), .ref (ad 2), .ref (ad 3), .ref (ad 4), .ref (ad 5), .ref (ad 6), .ref (ad 7), .ref (ad 8), .ref (ad 9), .ref (ad 10), .int (nI (g2.2 3)), .int (nI (g2.2 4)), .int (nI (g2.2 5)), .int (nI (g2.2 6)), .int (nI (g2.2 7)), .ref (ad 11), .int (nI (g2.2 8)), .int (nI cd), .int (nI (g2.2 10)), .ref (ad 12), .int (nI (g2.2 11)), .ref (ad 13)] := M5.1.1
        have hl12 := hU.2.1
        refine lv_iload_n cx.x cx.b d_Mo_typeLine_20 rfl (lv_at hl 0 rfl) ?_
        refine lv_aload_n cx.x cx.b d_Mo_typeLine_21 rfl (lv_at hl 1 rfl) ?_
        refine gf_Mo_16_Mo cx oM8 rfl d_Mo_typeLine_22 ?_
        refine lv_iload_n cx.x cx.b d_Mo_typeLine_25 rfl (lv_at hl 2 rfl) ?_
        refine hx_iald cx.x cx.b cx.K 0 (M5.1.2.1 2 (by decide)) rfl (show vp_in (nI b1) 2 from vp_in_nI (show b1 < 2 by omega) (by decide)) d_Mo_typeLine_26 ?_
        refine lv_topi (fun x9 e_x9 => ?_)
        have e_x9 : x9 = nI U.length := e_x9.trans (congrArg nI ((congrArg (g2.1 2) (nI_clamp (n := b1) (by omega))).trans (hU2.1)))
        subst e_x9
        refine lv_icmp_ge (tgt := 58) cx.x cx.b d_Mo_typeLine_27 (by decide) (fun c1 => ?_) (fun c1 => ?_)
        · have c1 : U.length ≤ t1 := (nI_leI (a := U.length) (b := t1) (by omega) (by omega)).mp c1
          have e9 : t1 = U.length := by omega
          subst e9
          rcases hcd with ⟨e, hno⟩ | ⟨e, hyes⟩
          · subst e
            have oM22 : hOb (eD E) classes H5 a 10 [.ref (ad 0), .int (nI (g2.2 0)), .ref (ad 1), .int (nI (g2.2 1)), .int (nI (g2.2 2)), .ref (ad 2), .ref (ad 3), .ref (ad 4), .ref (ad 5), .ref (ad 6), .ref (ad 7), .ref (ad 8), .ref (ad 9), .ref (ad 10), .int (nI (g2.2 3)), .int (nI (g2.2 4)), .int (nI (g2.2 5)), .int (nI (g2.2 6)), .int (nI (g2.2 7)), .ref (ad 11), .int (nI (g2.2 8)), .int (nI 0), .int (nI (g2.2 10)), .ref (ad 12), .int (nI (g2.2 11)), .ref (ad 13)] := M5.1.1
            rw [tkT_n hno] at hQ
            refine lv_aload_n cx.x cx.b d_Mo_typeLine_58 rfl (lv_at hl 1 rfl) ?_
            refine gf_Mo_116_Mo cx oM22 rfl d_Mo_typeLine_59 ?_
            refine lv_if_ne (tgt := 82) cx.x cx.b d_Mo_typeLine_62 (by decide) (fun c => absurd (by decide) c) (fun _ => ?_)
            refine lv_aload_n cx.x cx.b d_Mo_typeLine_65 rfl (lv_at hl 1 rfl) ?_
            refine gf_Mo_16_Mo cx oM22 rfl d_Mo_typeLine_66 ?_
            refine lv_iload_n cx.x cx.b d_Mo_typeLine_69 rfl (lv_at hl 2 rfl) ?_
            refine hx_iald cx.x cx.b cx.K 0 (M5.1.2.1 2 (by decide)) rfl (show vp_in (nI b1) 2 from vp_in_nI (show b1 < 2 by omega) (by decide)) d_Mo_typeLine_70 ?_
            refine lv_topi (fun x23 e_x23 => ?_)
            have e_x23 : x23 = nI U.length := e_x23.trans (congrArg nI ((congrArg (g2.1 2) (nI_clamp (n := b1) (by omega))).trans (hU2.1)))
            subst e_x23
            refine lv_bipush (v := 12) cx.x cx.b d_Mo_typeLine_71 (by decide) ?_
            refine lv_icmp_ne (tgt := 82) cx.x cx.b d_Mo_typeLine_73 (by decide) (fun c3 => ?_) (fun c3 => ?_)
            · have c3 : U.length ≠ 12 := fun zz => c3 ((nI_eq (a := U.length) (b := 12) (by omega) (by omega)).mpr zz)
              rw [if_neg (show ¬ 12 ≤ U.length by omega), if_pos rfl] at hQ
              refine lv_aload_n cx.x cx.b d_Mo_typeLine_82 rfl (lv_at hl 1 rfl) ?_
              refine gf_Mo_116_Mo cx oM22 rfl d_Mo_typeLine_83 ?_
              refine lv_if_eq (tgt := 91) cx.x cx.b d_Mo_typeLine_86 (by decide) (fun _ => ?_) (fun c => absurd (by decide) c)
              refine lv_aload_n cx.x cx.b d_Mo_typeLine_91 rfl (lv_at hl 1 rfl) ?_
              refine lv_sipush (v := 216) cx.x cx.b d_Mo_typeLine_92 (by decide) ?_
              refine lv_bipush (v := 108) cx.x cx.b d_Mo_typeLine_95 (by decide) ?_
              refine lv_iload_n cx.x cx.b d_Mo_typeLine_97 rfl (lv_at hl 2 rfl) ?_
              refine lv_imul cx.x cx.b d_Mo_typeLine_98 ?_
              refine lv_topi (fun x28 e_x28 => ?_)
              have e_x28 : x28 = nI (108 * b1) := e_x28.trans (pk_mul 108 b1)
              subst e_x28
              refine lv_aload_n cx.x cx.b d_Mo_typeLine_99 rfl (lv_at hl 1 rfl) ?_
              refine gf_Mo_16_Mo cx oM22 rfl d_Mo_typeLine_100 ?_
              refine lv_iload_n cx.x cx.b d_Mo_typeLine_103 rfl (lv_at hl 2 rfl) ?_
              refine hx_iald cx.x cx.b cx.K 0 (M5.1.2.1 2 (by decide)) rfl (show vp_in (nI b1) 2 from vp_in_nI (show b1 < 2 by omega) (by decide)) d_Mo_typeLine_104 ?_
              refine lv_topi (fun x29 e_x29 => ?_)
              have e_x29 : x29 = nI U.length := e_x29.trans (congrArg nI ((congrArg (g2.1 2) (nI_clamp (n := b1) (by omega))).trans (hU2.1)))
              subst e_x29
              refine lv_iadd cx.x cx.b d_Mo_typeLine_105 ?_
              refine lv_topi (fun x30 e_x30 => ?_)
              have e_x30 : x30 = nI ((108 * b1) + U.length) := e_x30.trans (nI_add (108 * b1) U.length)
              subst e_x30
              refine hx_callv (iv_Mo_160_Mo cx (c_Mo_move l hE M5.1 (t1 := 108 * b1 + U.length) (by omega)) oM22 rfl hl.1 rfl (Nat.le_of_ble_eq_true rfl) d_Mo_typeLine_106 ⟨Nat.le_of_ble_eq_true rfl, Nat.le_of_ble_eq_true rfl⟩ ⟨Nat.le_of_ble_eq_true rfl, Nat.le_of_ble_eq_true rfl⟩) hlo (fun _ h => h) (fun H32 locs hp31 hlo => ?_)
              obtain ⟨g3, q3, ⟨m0, m1, m2, m3, m10⟩, ms, mr, mo⟩ := hp31
              have M3 : Mw E H H32 a ad g3 := M5.tr q3
              have mr := mr x wrow
              have ms : g3.2 = up g2.2 9 0 := ms
              refine lv_aload_n cx.x cx.b d_Mo_typeLine_109 rfl (lv_at hl 1 rfl) ?_
              refine gf_Mo_40_Mo cx M3.1.1 rfl d_Mo_typeLine_110 ?_
              refine lv_bipush (v := 12) cx.x cx.b d_Mo_typeLine_113 (by decide) ?_
              refine lv_iload_n cx.x cx.b d_Mo_typeLine_115 rfl (lv_at hl 2 rfl) ?_
              refine lv_imul cx.x cx.b d_Mo_typeLine_116 ?_
              refine lv_topi (fun x33 e_x33 => ?_)
              have e_x33 : x33 = nI (12 * b1) := e_x33.trans (pk_mul 12 b1)
              subst e_x33
              refine lv_aload_n cx.x cx.b d_Mo_typeLine_117 rfl (lv_at hl 1 rfl) ?_
              refine gf_Mo_16_Mo cx M3.1.1 rfl d_Mo_typeLine_118 ?_
              refine lv_iload_n cx.x cx.b d_Mo_typeLine_121 rfl (lv_at hl 2 rfl) ?_
              refine hx_iald cx.x cx.b cx.K 0 (M3.1.2.1 2 (by decide)) rfl (show vp_in (nI b1) 2 from vp_in_nI (show b1 < 2 by omega) (by decide)) d_Mo_typeLine_122 ?_
              refine lv_topi (fun x34 e_x34 => ?_)
              have e_x34 : x34 = nI U.length := e_x34.trans (congrArg nI ((congrArg (g3.1 2) (nI_clamp (n := b1) (by omega))).trans ((show g3.1 2 b1 = U.length by rw [m2]; exact hU2.1))))
              subst e_x34
              refine lv_iadd cx.x cx.b d_Mo_typeLine_123 ?_
              refine lv_topi (fun x35 e_x35 => ?_)
              have e_x35 : x35 = nI ((12 * b1) + U.length) := e_x35.trans (nI_add (12 * b1) U.length)
              subst e_x35
              refine lv_iconst (v := 0) cx.x cx.b d_Mo_typeLine_124 (by decide) ?_
              refine hx_iast cx.x cx.b cx.K 0 (M3.1.2.1 10 (by decide)) hlo (M3.1.2.2.2.1 10 (by decide)).1 rfl (show vp_in (nI ((12 * b1) + U.length)) 24 from vp_in_nI (show ((12 * b1) + U.length) < 24 by omega) (by decide)) d_Mo_typeLine_125 (fun H36 locs ha37 z_H36 o_H36 hlo => ?_)
              have M38 : Mw E H H36 a ad (up g3.1 10 (updN (g3.1 10) ((12 * b1) + U.length) 0), g3.2) := M3.ar (up g3.1 10 (updN (g3.1 10) ((12 * b1) + U.length) 0), g3.2) 10 (by decide) (by have h9 := ha37; rw [show (nI ((12 * b1) + U.length) : Int32).toNatClampNeg = ((12 * b1) + U.length) from nI_clamp (n := ((12 * b1) + U.length)) (by omega)] at h9; have h9 : hAi H36 (ad 10) (eA E 0) (arL 10) (upd (fun i => nI ((g3.1 10) i)) ((12 * b1) + U.length) (nI 0)) := h9; rw [upd_nI] at h9; exact h9) z_H36 o_H36 rfl (fun j hj hn => arN10 hj hn rfl rfl rfl rfl rfl rfl rfl rfl rfl rfl rfl rfl rfl)
              have oM39 : hOb (eD E) classes H36 a 10 [.ref (ad 0), .int (nI (g3.2 0)), .ref (ad 1), .int (nI (g3.2 1)), .int (nI (g3.2 2)), .ref (ad 2), .ref (ad 3), .ref (ad 4), .ref (ad 5), .ref (ad 6), .ref (ad 7), .ref (ad 8), .ref (ad 9), .ref (ad 10), .int (nI (g3.2 3)), .int (nI (g3.2 4)), .int (nI (g3.2 5)), .int (nI (g3.2 6)), .int (nI (g3.2 7)), .ref (ad 11), .int (nI (g3.2 8)), .int (nI (g3.2 9)), .int (nI (g3.2 10)), .ref (ad 12), .int (nI (g3.2 11)), .ref (ad 13)] := M38.1.1
              refine lv_aload_n cx.x cx.b d_Mo_typeLine_126 rfl (lv_at hl 1 rfl) ?_
              refine gf_Mo_16_Mo cx oM39 rfl d_Mo_typeLine_127 ?_
              refine lv_iload_n cx.x cx.b d_Mo_typeLine_130 rfl (lv_at hl 2 rfl) ?_
              refine lv_dup2_11 cx.x cx.b d_Mo_typeLine_131 rfl rfl ?_
              refine hx_iald cx.x cx.b cx.K 0 (M38.1.2.1 2 (by decide)) rfl (show vp_in (nI b1) 2 from vp_in_nI (show b1 < 2 by omega) (by decide)) d_Mo_typeLine_132 ?_
              refine lv_topi (fun x40 e_x40 => ?_)
              have e_x40 : x40 = nI U.length := e_x40.trans (congrArg nI ((congrArg (g3.1 2) (nI_clamp (n := b1) (by omega))).trans ((show g3.1 2 b1 = U.length by rw [m2]; exact hU2.1))))
              subst e_x40
              refine lv_iconst (v := 1) cx.x cx.b d_Mo_typeLine_133 (by decide) ?_
              refine lv_iadd cx.x cx.b d_Mo_typeLine_134 ?_
              refine lv_topi (fun x41 e_x41 => ?_)
              have e_x41 : x41 = nI (U.length + 1) := e_x41.trans (nI_add U.length 1)
              subst e_x41
              refine hx_iast cx.x cx.b cx.K 0 (M38.1.2.1 2 (by decide)) hlo (M38.1.2.2.2.1 2 (by decide)).1 rfl (show vp_in (nI b1) 2 from vp_in_nI (show b1 < 2 by omega) (by decide)) d_Mo_typeLine_135 (fun H42 locs ha43 z_H42 o_H42 hlo => ?_)
              have M44 : Mw E H H42 a ad (up (up g3.1 2 (updN (g3.1 2) b1 (U.length + 1))) 10 (updN (g3.1 10) ((12 * b1) + U.length) 0), g3.2) := M38.ar (up (up g3.1 2 (updN (g3.1 2) b1 (U.length + 1))) 10 (updN (g3.1 10) ((12 * b1) + U.length) 0), g3.2) 2 (by decide) (by have h9 := ha43; rw [show (nI b1 : Int32).toNatClampNeg = b1 from nI_clamp (n := b1) (by omega)] at h9; have h9 : hAi H42 (ad 2) (eA E 0) (arL 2) (upd (fun i => nI ((g3.1 2) i)) b1 (nI (U.length + 1))) := h9; rw [upd_nI] at h9; exact h9) z_H42 o_H42 rfl (fun j hj hn => arN2 hj hn rfl rfl rfl rfl rfl rfl rfl rfl rfl rfl rfl rfl rfl)
              have oM45 : hOb (eD E) classes H42 a 10 [.ref (ad 0), .int (nI (g3.2 0)), .ref (ad 1), .int (nI (g3.2 1)), .int (nI (g3.2 2)), .ref (ad 2), .ref (ad 3), .ref (ad 4), .ref (ad 5), .ref (ad 6), .ref (ad 7), .ref (ad 8), .ref (ad 9), .ref (ad 10), .int (nI (g3.2 3)), .int (nI (g3.2 4)), .int (nI (g3.2 5)), .int (nI (g3.2 6)), .int (nI (g3.2 7)), .ref (ad 11), .int (nI (g3.2 8)), .int (nI (g3.2 9)), .int (nI (g3.2 10)), .ref (ad 12), .int (nI (g3.2 11)), .ref (ad 13)] := M44.1.1
              refine lv_aload_n cx.x cx.b d_Mo_typeLine_136 rfl (lv_at hl 1 rfl) ?_
              refine gf_Mo_16_Mo cx oM45 rfl d_Mo_typeLine_137 ?_
              refine lv_iload_n cx.x cx.b d_Mo_typeLine_140 rfl (lv_at hl 2 rfl) ?_
              refine hx_iald cx.x cx.b cx.K 0 (M44.1.2.1 2 (by decide)) rfl (show vp_in (nI b1) 2 from vp_in_nI (show b1 < 2 by omega) (by decide)) d_Mo_typeLine_141 ?_
              refine lv_topi (fun x46 e_x46 => ?_)
              have e_x46 : x46 = nI (U.length + 1) := e_x46.trans (congrArg nI ((congrArg (updN (g3.1 2) b1 (U.length + 1)) (nI_clamp (n := b1) (by omega))).trans (updN_s)))
              subst e_x46
              refine lv_iconst (v := 1) cx.x cx.b d_Mo_typeLine_142 (by decide) ?_
              refine lv_isub cx.x cx.b d_Mo_typeLine_143 ?_
              refine lv_topi (fun x47 e_x47 => ?_)
              rw [← hQ]
              exact hx_reti cx.x cx.b cx.r cx.k rfl hlo (fun _ h => h) (Nat.le_of_ble_eq_true rfl) (Nat.le_of_ble_eq_true rfl) d_Mo_typeLine_144 (⟨by rw [e_x47]; exact pk_sub (a := U.length + 1) (b := 1) (by omega), _, M44, (wf.bfr b1).tr ⟨⟨m0, m1, m3⟩, fun b2 U2 h1 h2 h3 => h3.fr ((updN_n h2).trans (congrFun m2 b2)) (fun t ht => (updN_n (by have := h3.2.1; omega)).trans (congrFun m10 _)) (fun r hr1 hr2 => mo r (by omega) (by omega)), ⟨congrFun ms 0, congrFun ms 1, congrFun ms 2, congrFun ms 3, congrFun ms 4, congrFun ms 7⟩⟩, fun _ => ⟨hU2.snocT (by omega) updN_s (fun t ht => (updN_n (by omega)).trans (congrFun m10 _)) updN_s mr (fun r h1 h2 h3 => mo r (by omega) h3), congrFun ms 9⟩, fun z => absurd rfl z⟩)
            · have c3 : U.length = 12 := (nI_eq (a := U.length) (b := 12) (by omega) (by omega)).mp c3
              rw [if_pos (show 12 ≤ U.length by omega)] at hQ
              refine lv_aload_n cx.x cx.b d_Mo_typeLine_76 rfl (lv_at hl 1 rfl) ?_
              refine lv_bipush (v := 8) cx.x cx.b d_Mo_typeLine_77 (by decide) ?_
              refine pf_Mo_116_Mo cx oM22 hlo M5.1.2.2.1 (Nat.le_of_ble_eq_true rfl) d_Mo_typeLine_79 (fun H24 locs ho25 z_H24 o_H24 hlo => ?_)
              have ho25 : hOb (eD E) classes H24 a 10 [.ref (ad 0), .int (nI (g2.2 0)), .ref (ad 1), .int (nI (g2.2 1)), .int (nI (g2.2 2)), .ref (ad 2), .ref (ad 3), .ref (ad 4), .ref (ad 5), .ref (ad 6), .ref (ad 7), .ref (ad 8), .ref (ad 9), .ref (ad 10), .int (nI (g2.2 3)), .int (nI (g2.2 4)), .int (nI (g2.2 5)), .int (nI (g2.2 6)), .int (nI (g2.2 7)), .ref (ad 11), .int (nI (g2.2 8)), .int 8, .int (nI (g2.2 10)), .ref (ad 12), .int (nI (g2.2 11)), .ref (ad 13)] := ho25
              have M26 : Mw E H H24 a ad (g2.1, up g2.2 9 8) := M5.sc (g2.1, up g2.2 9 8) ho25 z_H24 o_H24 rfl
              have oM27 : hOb (eD E) classes H24 a 10 [.ref (ad 0), .int (nI (g2.2 0)), .ref (ad 1), .int (nI (g2.2 1)), .int (nI (g2.2 2)), .ref (ad 2), .ref (ad 3), .ref (ad 4), .ref (ad 5), .ref (ad 6), .ref (ad 7), .ref (ad 8), .ref (ad 9), .ref (ad 10), .int (nI (g2.2 3)), .int (nI (g2.2 4)), .int (nI (g2.2 5)), .int (nI (g2.2 6)), .int (nI (g2.2 7)), .ref (ad 11), .int (nI (g2.2 8)), .int (nI 8), .int (nI (g2.2 10)), .ref (ad 12), .int (nI (g2.2 11)), .ref (ad 13)] := M26.1.1
              refine lv_aload_n cx.x cx.b d_Mo_typeLine_82 rfl (lv_at hl 1 rfl) ?_
              refine gf_Mo_116_Mo cx oM27 rfl d_Mo_typeLine_83 ?_
              refine lv_if_eq (tgt := 91) cx.x cx.b d_Mo_typeLine_86 (by decide) (fun c => absurd c (by decide)) (fun _ => ?_)
              refine lv_iconst (v := (-1)) cx.x cx.b d_Mo_typeLine_89 (by decide) ?_
              rw [← hQ]
              exact hx_reti cx.x cx.b cx.r cx.k rfl hlo (fun _ h => h) (Nat.le_of_ble_eq_true rfl) (Nat.le_of_ble_eq_true rfl) d_Mo_typeLine_90 (⟨rfl, _, M26, (wf.bfr b1).tr ⟨⟨rfl, rfl, rfl⟩, fun _ _ _ _ h => h, ⟨rfl, rfl, rfl, rfl, rfl, rfl⟩⟩, fun z => absurd z (by simp), fun _ => ⟨hU2, rfl, fun z => absurd z (by simp)⟩⟩)
          · subst e
            have oM21 : hOb (eD E) classes H5 a 10 [.ref (ad 0), .int (nI (g2.2 0)), .ref (ad 1), .int (nI (g2.2 1)), .int (nI (g2.2 2)), .ref (ad 2), .ref (ad 3), .ref (ad 4), .ref (ad 5), .ref (ad 6), .ref (ad 7), .ref (ad 8), .ref (ad 9), .ref (ad 10), .int (nI (g2.2 3)), .int (nI (g2.2 4)), .int (nI (g2.2 5)), .int (nI (g2.2 6)), .int (nI (g2.2 7)), .ref (ad 11), .int (nI (g2.2 8)), .int (nI 7), .int (nI (g2.2 10)), .ref (ad 12), .int (nI (g2.2 11)), .ref (ad 13)] := M5.1.1
            rw [tkT_7 hyes] at hQ
            refine lv_aload_n cx.x cx.b d_Mo_typeLine_58 rfl (lv_at hl 1 rfl) ?_
            refine gf_Mo_116_Mo cx oM21 rfl d_Mo_typeLine_59 ?_
            refine lv_if_ne (tgt := 82) cx.x cx.b d_Mo_typeLine_62 (by decide) (fun _ => ?_) (fun c => absurd c (by decide))
            refine lv_aload_n cx.x cx.b d_Mo_typeLine_82 rfl (lv_at hl 1 rfl) ?_
            refine gf_Mo_116_Mo cx oM21 rfl d_Mo_typeLine_83 ?_
            refine lv_if_eq (tgt := 91) cx.x cx.b d_Mo_typeLine_86 (by decide) (fun c => absurd c (by decide)) (fun _ => ?_)
            refine lv_iconst (v := (-1)) cx.x cx.b d_Mo_typeLine_89 (by decide) ?_
            rw [← hQ]
            exact hx_reti cx.x cx.b cx.r cx.k rfl hlo (fun _ h => h) (Nat.le_of_ble_eq_true rfl) (Nat.le_of_ble_eq_true rfl) d_Mo_typeLine_90 (⟨rfl, _, M5, (wf.bfr b1).tr ⟨⟨rfl, rfl, rfl⟩, fun _ _ _ _ h => h, ⟨rfl, rfl, rfl, rfl, rfl, rfl⟩⟩, fun z => absurd z (by simp), fun _ => ⟨hU2, rfl, fun z => absurd z (by simp)⟩⟩)
        · have c1 : t1 < U.length := Nat.not_le.mp (fun zz => c1 ((nI_leI (a := U.length) (b := t1) (by omega) (by omega)).mpr zz))
          refine lv_aload_n cx.x cx.b d_Mo_typeLine_30 rfl (lv_at hl 1 rfl) ?_
          refine lv_bipush (v := 108) cx.x cx.b d_Mo_typeLine_31 (by decide) ?_
          refine lv_iload_n cx.x cx.b d_Mo_typeLine_33 rfl (lv_at hl 2 rfl) ?_
          refine lv_imul cx.x cx.b d_Mo_typeLine_34 ?_
          refine lv_topi (fun x10 e_x10 => ?_)
          have e_x10 : x10 = nI (108 * b1) := e_x10.trans (pk_mul 108 b1)
          subst e_x10
          refine lv_iload_n cx.x cx.b d_Mo_typeLine_35 rfl (lv_at hl 0 rfl) ?_
          refine lv_iadd cx.x cx.b d_Mo_typeLine_36 ?_
          refine lv_topi (fun x11 e_x11 => ?_)
          have e_x11 : x11 = nI ((108 * b1) + t1) := e_x11.trans (nI_add (108 * b1) t1)
          subst e_x11
          refine lv_sipush (v := 216) cx.x cx.b d_Mo_typeLine_37 (by decide) ?_
          refine hx_calli (iv_Mo_152_Mo cx (c_Mo_compareNames l hE M5.1 (r1 := 108 * b1 + t1) (s1 := 216) (by omega) (by omega) (hU2.2.2 t1 c1).1.1 wrow.1) oM8 rfl hl.1 rfl (Nat.le_of_ble_eq_true rfl) d_Mo_typeLine_40 ⟨Nat.le_of_ble_eq_true rfl, Nat.le_of_ble_eq_true rfl⟩ ⟨Nat.le_of_ble_eq_true rfl, Nat.le_of_ble_eq_true rfl⟩) hlo (fun _ h => h) (fun r14 H13 locs hp12 hlo => ?_)
          obtain ⟨hp12, hH9⟩ := hp12
          have hH9 := hH9.symm
          subst hH9
          refine lv_if_ne (tgt := 52) cx.x cx.b d_Mo_typeLine_43 (by decide) (fun c2 => ?_) (fun c2 => ?_)
          · have c2 : cmpL (U.getD t1 default).1.1 x.1 ≠ 0 := fun z => c2 ((cmpI_z hp12).mpr z)
            obtain ⟨x15, e_x15⟩ : ∃ y : Int32, y = nI t1 + 1 := ⟨_, rfl⟩
            refine lv_iinc (v := x15) (lv' := [(2, .int x15), (0, .ref a), (1, .int (nI b1))]) cx.x cx.b d_Mo_typeLine_52 hl (k := 0) rfl (by rw [e_x15]; rfl) (by decide) rfl (fun ls hl => ?_)
            have e_x15 : x15 = nI (t1 + 1) := e_x15.trans (nI_add t1 1)
            subst e_x15
            refine lv_goto (tgt := 20) cx.x cx.b d_Mo_typeLine_55 (by decide) ?_
            exact ih _ (t1 + 1) cd _ hlo (by clear hcd; omega) (by clear hcd; omega) M5 (by rcases hcd with ⟨e, z⟩ | ⟨e, t, ht, z⟩; exact Or.inl ⟨e, fun t ht => by by_cases q : t = t1; rw [q]; exact c2; exact z t (by omega)⟩; exact Or.inr ⟨e, t, by omega, z⟩) _ (lv_sub hl [0, 1, 2] rfl)
          · have c2 : cmpL (U.getD t1 default).1.1 x.1 = 0 := (cmpI_z hp12).mp c2
            refine lv_aload_n cx.x cx.b d_Mo_typeLine_46 rfl (lv_at hl 1 rfl) ?_
            refine lv_bipush (v := 7) cx.x cx.b d_Mo_typeLine_47 (by decide) ?_
            refine pf_Mo_116_Mo cx oM8 hlo M5.1.2.2.1 (Nat.le_of_ble_eq_true rfl) d_Mo_typeLine_49 (fun H16 locs ho17 z_H16 o_H16 hlo => ?_)
            have ho17 : hOb (eD E) classes H16 a 10 [.ref (ad 0), .int (nI (g2.2 0)), .ref (ad 1), .int (nI (g2.2 1)), .int (nI (g2.2 2)), .ref (ad 2), .ref (ad 3), .ref (ad 4), .ref (ad 5), .ref (ad 6), .ref (ad 7), .ref (ad 8), .ref (ad 9), .ref (ad 10), .int (nI (g2.2 3)), .int (nI (g2.2 4)), .int (nI (g2.2 5)), .int (nI (g2.2 6)), .int (nI (g2.2 7)), .ref (ad 11), .int (nI (g2.2 8)), .int 7, .int (nI (g2.2 10)), .ref (ad 12), .int (nI (g2.2 11)), .ref (ad 13)] := ho17
            have M18 : Mw E H H16 a ad (g2.1, up g2.2 9 7) := M5.sc (g2.1, up g2.2 9 7) ho17 z_H16 o_H16 rfl
            have oM19 : hOb (eD E) classes H16 a 10 [.ref (ad 0), .int (nI (g2.2 0)), .ref (ad 1), .int (nI (g2.2 1)), .int (nI (g2.2 2)), .ref (ad 2), .ref (ad 3), .ref (ad 4), .ref (ad 5), .ref (ad 6), .ref (ad 7), .ref (ad 8), .ref (ad 9), .ref (ad 10), .int (nI (g2.2 3)), .int (nI (g2.2 4)), .int (nI (g2.2 5)), .int (nI (g2.2 6)), .int (nI (g2.2 7)), .ref (ad 11), .int (nI (g2.2 8)), .int (nI 7), .int (nI (g2.2 10)), .ref (ad 12), .int (nI (g2.2 11)), .ref (ad 13)] := M18.1.1
            obtain ⟨x20, e_x20⟩ : ∃ y : Int32, y = nI t1 + 1 := ⟨_, rfl⟩
            refine lv_iinc (v := x20) (lv' := [(2, .int x20), (0, .ref a), (1, .int (nI b1))]) cx.x cx.b d_Mo_typeLine_52 hl (k := 0) rfl (by rw [e_x20]; rfl) (by decide) rfl (fun ls hl => ?_)
            have e_x20 : x20 = nI (t1 + 1) := e_x20.trans (nI_add t1 1)
            subst e_x20
            refine lv_goto (tgt := 20) cx.x cx.b d_Mo_typeLine_55 (by decide) ?_
            exact ih _ (t1 + 1) 7 _ hlo (by clear hcd; omega) (by clear hcd; omega) M18 (Or.inr ⟨rfl, t1, by omega, c2⟩) _ (lv_sub hl [0, 1, 2] rfl)
    exact LP _ _ 0 0 _ hlo (Nat.lt_succ_self _) (Nat.zero_le _) (Mw.cg M2 rfl rfl rfl rfl rfl rfl rfl rfl rfl rfl rfl rfl rfl rfl rfl rfl rfl rfl rfl rfl rfl rfl rfl wc.symm rfl rfl) (Or.inl ⟨rfl, fun t ht => absurd ht (Nat.not_lt_zero t)⟩) _ (lv_sub hl [0, 1, 2] rfl)
  · rw [decide_eq_false cV] at wr
    subst wr
    rw [show rdK false U V9 (wdS (txt.take (g.2 4)) (g.2 3)) = (V9.1, V9.2.1) from if_neg cV] at hQ
    rw [if_neg cV] at hQ
    refine lv_if_ne (tgt := 18) cx.x cx.b d_Mo_typeLine_13 (by decide) (fun c => absurd (by decide) c) (fun _ => ?_)
    refine lv_iconst (v := (-1)) cx.x cx.b d_Mo_typeLine_16 (by decide) ?_
    rw [← hQ]
    exact hx_reti cx.x cx.b cx.r cx.k rfl hlo (fun _ h => h) (Nat.le_of_ble_eq_true rfl) (Nat.le_of_ble_eq_true rfl) d_Mo_typeLine_17 (⟨rfl, g2, M2, wf.bfr b1, fun z => absurd z cV, fun _ => ⟨wf.rows hb1 hU, (wn cV).1, fun _ => (wn cV).2⟩⟩)

set_option maxHeartbeats 4000000 in
set_option maxRecDepth 100000 in
theorem c_Mo_memberLine0 (l : Launch) {E : hE} (hE : EnvOk E) {H : Heap} {a : Nat} {ad : Nat → Nat} {g : MS} (M : Mo E H a ad g) {txt : List Nat} (hx : Tx (g.1 0) txt) (hxc : ∀ x ∈ txt, okC x = true) (hxl : txt.length ≤ 480) (hwe : g.2 6 = g.2 3) (hfe : g.2 3 ≤ g.2 4) (hen : g.2 4 ≤ txt.length) (hfm : g.2 7 = 1 ∨ g.2 7 = 2) (haf : txt.getD (g.2 4) 0 ≠ 36) {b1 : Nat} (hb1 : b1 < 2) (hU : Rows g.1 b1 []) : Ct l E y_Mo_memberLine b_Mo_memberLine 5 none (rmA 5 0 0) [.ref a, .int (nI b1), .int (-2)] H (hQv (fun H1 => ∃ g2 : MS, Mw E H H1 a ad g2 ∧ LnQ (rdK true [] (rdW true (g.2 7) txt (g.2 4) (wdS (txt.take (g.2 4)) (g.2 3)) (wdE (txt.take (g.2 4)) (wdS (txt.take (g.2 4)) (g.2 3)))) (wdS (txt.take (g.2 4)) (g.2 3))) (rdW true (g.2 7) txt (g.2 4) (wdS (txt.take (g.2 4)) (g.2 3)) (wdE (txt.take (g.2 4)) (wdS (txt.take (g.2 4)) (g.2 3)))).2.1 b1 (g.2 3) g g2 [] (adM [] (rdW true (g.2 7) txt (g.2 4) (wdS (txt.take (g.2 4)) (g.2 3)) (wdE (txt.take (g.2 4)) (wdS (txt.take (g.2 4)) (g.2 3)))).2.2.2))) := by
  refine hx_enter hE (by decide) (Nat.le_of_ble_eq_true rfl) ?_
  intro p e s m args below meth c ls cx hnm hl
  have hl : lv_has ls 5 [(0, .ref a), (1, .int (nI b1)), (2, .int (-2))] := hl
  have hlo : hLo (eB E) [] := hLo.nil
  generalize hQ : MQ below _ args s _ _ _ = Q
  have M0 : Mw E H H a ad g := ⟨M, hCh.rf, rfl⟩
  refine lv_aload_n cx.x cx.b d_Mo_memberLine_0 rfl (lv_at hl 0 rfl) ?_
  refine lv_iconst (v := 0) cx.x cx.b d_Mo_memberLine_1 (by decide) ?_
  refine pf_Mo_116_Mo cx M0.1.1 hlo M0.1.2.2.1 (Nat.le_of_ble_eq_true rfl) d_Mo_memberLine_2 (fun H48 locs ho49 z_H48 o_H48 hlo => ?_)
  have ho49 : hOb (eD E) classes H48 a 10 [.ref (ad 0), .int (nI (g.2 0)), .ref (ad 1), .int (nI (g.2 1)), .int (nI (g.2 2)), .ref (ad 2), .ref (ad 3), .ref (ad 4), .ref (ad 5), .ref (ad 6), .ref (ad 7), .ref (ad 8), .ref (ad 9), .ref (ad 10), .int (nI (g.2 3)), .int (nI (g.2 4)), .int (nI (g.2 5)), .int (nI (g.2 6)), .int (nI (g.2 7)), .ref (ad 11), .int (nI (g.2 8)), .int 0, .int (nI (g.2 10)), .ref (ad 12), .int (nI (g.2 11)), .ref (ad 13)] := ho49
  have M50 : Mw E H H48 a ad (g.1, up g.2 9 0) := M0.sc (g.1, up g.2 9 0) ho49 z_H48 o_H48 rfl
  have oM51 : hOb (eD E) classes H48 a 10 [.ref (ad 0), .int (nI (g.2 0)), .ref (ad 1), .int (nI (g.2 1)), .int (nI (g.2 2)), .ref (ad 2), .ref (ad 3), .ref (ad 4), .ref (ad 5), .ref (ad 6), .ref (ad 7), .ref (ad 8), .ref (ad 9), .ref (ad 10), .int (nI (g.2 3)), .int (nI (g.2 4)), .int (nI (g.2 5)), .int (nI (g.2 6)), .int (nI (g.2 7)), .ref (ad 11), .int (nI (g.2 8)), .int (nI 0), .int (nI (g.2 10)), .ref (ad 12), .int (nI (g.2 11)), .ref (ad 13)] := M50.1.1
  refine lv_aload_n cx.x cx.b d_Mo_memberLine_5 rfl (lv_at hl 0 rfl) ?_
  refine lv_iconst (v := 1) cx.x cx.b d_Mo_memberLine_6 (by decide) ?_
  refine lv_sipush (v := 216) cx.x cx.b d_Mo_memberLine_7 (by decide) ?_
  refine hx_calli (iv_Mo_156_Mo cx (c_Mo_words_t l hE M50.1 hx hxc hxl hwe hfe hen hfm haf) oM51 rfl hl.1 rfl (Nat.le_of_ble_eq_true rfl) d_Mo_memberLine_10 ⟨Nat.le_of_ble_eq_true rfl, Nat.le_of_ble_eq_true rfl⟩ ⟨Nat.le_of_ble_eq_true rfl, Nat.le_of_ble_eq_true rfl⟩) hlo (fun _ h => h) (fun r54 H53 locs hp52 hlo => ?_)
  obtain ⟨g2, q2, w2⟩ := hp52
  have M2 : Mw E H H53 a ad g2 := M50.tr q2
  have w2 : WdQ (rdW true (g.2 7) txt (g.2 4) (wdS (txt.take (g.2 4)) (g.2 3)) (wdE (txt.take (g.2 4)) (wdS (txt.take (g.2 4)) (g.2 3)))) (g.1, up g.2 9 0) g2 r54 := w2
  generalize hV9 : rdW true (g.2 7) txt (g.2 4) (wdS (txt.take (g.2 4)) (g.2 3)) (wdE (txt.take (g.2 4)) (wdS (txt.take (g.2 4)) (g.2 3))) = V9 at w2 hQ
  obtain ⟨wf, wr, wy, wn⟩ := w2
  have wf : Wfr g g2 := wf
  by_cases cV : V9.1 = 0
  · rw [decide_eq_true cV] at wr
    subst wr
    rw [show rdK true [] V9 (wdS (txt.take (g.2 4)) (g.2 3)) = (tkM [] V9.2.2.2, wdS (txt.take (g.2 4)) (g.2 3)) from if_pos cV] at hQ
    obtain ⟨wrow, wc⟩ := wy cV
    have wc : g2.2 9 = 0 := wc
    generalize V9.2.2.2 = x at hQ wrow
    have hU2 := wf.rows hb1 hU
    refine lv_if_ne (tgt := 17) cx.x cx.b d_Mo_memberLine_13 (by decide) (fun _ => ?_) (fun c => absurd c (by decide))
    refine lv_iload_n cx.x cx.b d_Mo_memberLine_17 rfl (lv_at hl 2 rfl) ?_
    refine lv_bipush (v := (-2)) cx.x cx.b d_Mo_memberLine_18 (by decide) ?_
    rw [show tkM [] x = 9 from rfl] at hQ
    refine lv_icmp_ne (tgt := 29) cx.x cx.b d_Mo_memberLine_20 (by decide) (fun c => absurd (by decide) c) (fun _ => ?_)
    refine lv_aload_n cx.x cx.b d_Mo_memberLine_23 rfl (lv_at hl 0 rfl) ?_
    refine lv_bipush (v := 9) cx.x cx.b d_Mo_memberLine_24 (by decide) ?_
    refine pf_Mo_116_Mo cx M2.1.1 hlo M2.1.2.2.1 (Nat.le_of_ble_eq_true rfl) d_Mo_memberLine_26 (fun H55 locs ho56 z_H55 o_H55 hlo => ?_)
    have ho56 : hOb (eD E) classes H55 a 10 [.ref (ad 0), .int (nI (g2.2 0)), .ref (ad 1), .int (nI (g2.2 1)), .int (nI (g2.2 2)), .ref (ad 2), .ref (ad 3), .ref (ad 4), .ref (ad 5), .ref (ad 6), .ref (ad 7), .ref (ad 8), .ref (ad 9), .ref (ad 10), .int (nI (g2.2 3)), .int (nI (g2.2 4)), .int (nI (g2.2 5)), .int (nI (g2.2 6)), .int (nI (g2.2 7)), .ref (ad 11), .int (nI (g2.2 8)), .int 9, .int (nI (g2.2 10)), .ref (ad 12), .int (nI (g2.2 11)), .ref (ad 13)] := ho56
    have M57 : Mw E H H55 a ad (g2.1, up g2.2 9 9) := M2.sc (g2.1, up g2.2 9 9) ho56 z_H55 o_H55 rfl
    have oM58 : hOb (eD E) classes H55 a 10 [.ref (ad 0), .int (nI (g2.2 0)), .ref (ad 1), .int (nI (g2.2 1)), .int (nI (g2.2 2)), .ref (ad 2), .ref (ad 3), .ref (ad 4), .ref (ad 5), .ref (ad 6), .ref (ad 7), .ref (ad 8), .ref (ad 9), .ref (ad 10), .int (nI (g2.2 3)), .int (nI (g2.2 4)), .int (nI (g2.2 5)), .int (nI (g2.2 6)), .int (nI (g2.2 7)), .ref (ad 11), .int (nI (g2.2 8)), .int (nI 9), .int (nI (g2.2 10)), .ref (ad 12), .int (nI (g2.2 11)), .ref (ad 13)] := M57.1.1
    refine lv_iload_n cx.x cx.b d_Mo_memberLine_29 rfl (lv_at hl 2 rfl) ?_
    refine lv_if_ge (tgt := 37) cx.x cx.b d_Mo_memberLine_30 (by decide) (fun c => absurd c (by decide)) (fun _ => ?_)
    refine lv_iconst (v := 0) cx.x cx.b d_Mo_memberLine_33 (by decide) ?_
    refine lv_goto (tgt := 48) cx.x cx.b d_Mo_memberLine_34 (by decide) ?_
    refine lv_istore_n (lv' := [(3, .int 0), (0, .ref a), (1, .int (nI b1)), (2, .int (-2))]) cx.x cx.b d_Mo_memberLine_48 rfl hl (by decide) rfl (fun ls hl => ?_)
    refine lv_iconst (v := 0) cx.x cx.b d_Mo_memberLine_49 (by decide) ?_
    refine lv_istore (lv' := [(4, .int 0), (3, .int 0), (0, .ref a), (1, .int (nI b1)), (2, .int (-2))]) cx.x cx.b d_Mo_memberLine_50 hl (by decide) rfl (fun ls hl => ?_)
    refine lv_iload cx.x cx.b d_Mo_memberLine_52 (lv_at hl 0 rfl) ?_
    refine lv_iload_n cx.x cx.b d_Mo_memberLine_54 rfl (lv_at hl 1 rfl) ?_
    refine lv_icmp_ge (tgt := 95) cx.x cx.b d_Mo_memberLine_55 (by decide) (fun _ => ?_) (fun c => absurd (by decide) c)
    refine lv_aload_n cx.x cx.b d_Mo_memberLine_95 rfl (lv_at hl 2 rfl) ?_
    refine gf_Mo_116_Mo cx oM58 rfl d_Mo_memberLine_96 ?_
    refine lv_if_ne (tgt := 114) cx.x cx.b d_Mo_memberLine_99 (by decide) (fun _ => ?_) (fun c => absurd c (by decide))
    refine lv_aload_n cx.x cx.b d_Mo_memberLine_114 rfl (lv_at hl 2 rfl) ?_
    refine gf_Mo_116_Mo cx oM58 rfl d_Mo_memberLine_115 ?_
    refine lv_if_eq (tgt := 122) cx.x cx.b d_Mo_memberLine_118 (by decide) (fun c => absurd c (by decide)) (fun _ => ?_)
    rw [← hQ]
    exact hx_retv cx.x cx.b cx.r cx.k hlo (fun _ h => h) (Nat.le_of_ble_eq_true rfl) (Nat.le_of_ble_eq_true rfl) d_Mo_memberLine_121 (⟨_, M57, (wf.bfr b1).tr ⟨⟨rfl, rfl, rfl⟩, fun _ _ _ _ h => h, ⟨rfl, rfl, rfl, rfl, rfl, rfl⟩⟩, fun z => absurd z (by simp), fun _ => ⟨hU2, rfl, fun z => absurd z (by simp)⟩⟩)
  · rw [decide_eq_false cV] at wr
    subst wr
    rw [show rdK true [] V9 (wdS (txt.take (g.2 4)) (g.2 3)) = (V9.1, V9.2.1) from if_neg cV] at hQ
    refine lv_if_ne (tgt := 17) cx.x cx.b d_Mo_memberLine_13 (by decide) (fun c => absurd (by decide) c) (fun _ => ?_)
    rw [← hQ]
    exact hx_retv cx.x cx.b cx.r cx.k hlo (fun _ h => h) (Nat.le_of_ble_eq_true rfl) (Nat.le_of_ble_eq_true rfl) d_Mo_memberLine_16 (⟨g2, M2, wf.bfr b1, fun z => absurd z cV, fun _ => ⟨wf.rows hb1 hU, (wn cV).1, fun _ => (wn cV).2⟩⟩)

set_option maxHeartbeats 4000000 in
set_option maxRecDepth 100000 in
theorem c_Mo_memberLine1 (l : Launch) {E : hE} (hE : EnvOk E) {H : Heap} {a : Nat} {ad : Nat → Nat} {g : MS} (M : Mo E H a ad g) {txt : List Nat} (hx : Tx (g.1 0) txt) (hxc : ∀ x ∈ txt, okC x = true) (hxl : txt.length ≤ 480) (hwe : g.2 6 = g.2 3) (hfe : g.2 3 ≤ g.2 4) (hen : g.2 4 ≤ txt.length) (hfm : g.2 7 = 1 ∨ g.2 7 = 2) (haf : txt.getD (g.2 4) 0 ≠ 36) {b1 : Nat} {Ws : List TU} {u : TU} (hb1 : b1 < 2) (hU : Rows g.1 b1 (Ws ++ [u])) : Ct l E y_Mo_memberLine b_Mo_memberLine 5 none (rmA 5 0 0) [.ref a, .int (nI b1), .int (nI Ws.length)] H (hQv (fun H1 => ∃ g2 : MS, Mw E H H1 a ad g2 ∧ LnQ (rdK true (Ws ++ [u]) (rdW true (g.2 7) txt (g.2 4) (wdS (txt.take (g.2 4)) (g.2 3)) (wdE (txt.take (g.2 4)) (wdS (txt.take (g.2 4)) (g.2 3)))) (wdS (txt.take (g.2 4)) (g.2 3))) (rdW true (g.2 7) txt (g.2 4) (wdS (txt.take (g.2 4)) (g.2 3)) (wdE (txt.take (g.2 4)) (wdS (txt.take (g.2 4)) (g.2 3)))).2.1 b1 (g.2 3) g g2 (Ws ++ [u]) (adM (Ws ++ [u]) (rdW true (g.2 7) txt (g.2 4) (wdS (txt.take (g.2 4)) (g.2 3)) (wdE (txt.take (g.2 4)) (wdS (txt.take (g.2 4)) (g.2 3)))).2.2.2))) := by
  refine hx_enter hE (by decide) (Nat.le_of_ble_eq_true rfl) ?_
  intro p e s m args below meth c ls cx hnm hl
  have hl : lv_has ls 5 [(0, .ref a), (1, .int (nI b1)), (2, .int (nI Ws.length))] := hl
  have hlo : hLo (eB E) [] := hLo.nil
  generalize hQ : MQ below _ args s _ _ _ = Q
  have M0 : Mw E H H a ad g := ⟨M, hCh.rf, rfl⟩
  refine lv_aload_n cx.x cx.b d_Mo_memberLine_0 rfl (lv_at hl 0 rfl) ?_
  refine lv_iconst (v := 0) cx.x cx.b d_Mo_memberLine_1 (by decide) ?_
  refine pf_Mo_116_Mo cx M0.1.1 hlo M0.1.2.2.1 (Nat.le_of_ble_eq_true rfl) d_Mo_memberLine_2 (fun H59 locs ho60 z_H59 o_H59 hlo => ?_)
  have ho60 : hOb (eD E) classes H59 a 10 [.ref (ad 0), .int (nI (g.2 0)), .ref (ad 1), .int (nI (g.2 1)), .int (nI (g.2 2)), .ref (ad 2), .ref (ad 3), .ref (ad 4), .ref (ad 5), .ref (ad 6), .ref (ad 7), .ref (ad 8), .ref (ad 9), .ref (ad 10), .int (nI (g.2 3)), .int (nI (g.2 4)), .int (nI (g.2 5)), .int (nI (g.2 6)), .int (nI (g.2 7)), .ref (ad 11), .int (nI (g.2 8)), .int 0, .int (nI (g.2 10)), .ref (ad 12), .int (nI (g.2 11)), .ref (ad 13)] := ho60
  have M61 : Mw E H H59 a ad (g.1, up g.2 9 0) := M0.sc (g.1, up g.2 9 0) ho60 z_H59 o_H59 rfl
  have oM62 : hOb (eD E) classes H59 a 10 [.ref (ad 0), .int (nI (g.2 0)), .ref (ad 1), .int (nI (g.2 1)), .int (nI (g.2 2)), .ref (ad 2), .ref (ad 3), .ref (ad 4), .ref (ad 5), .ref (ad 6), .ref (ad 7), .ref (ad 8), .ref (ad 9), .ref (ad 10), .int (nI (g.2 3)), .int (nI (g.2 4)), .int (nI (g.2 5)), .int (nI (g.2 6)), .int (nI (g.2 7)), .ref (ad 11), .int (nI (g.2 8)), .int (nI 0), .int (nI (g.2 10)), .ref (ad 12), .int (nI (g.2 11)), .ref (ad 13)] := M61.1.1
  refine lv_aload_n cx.x cx.b d_Mo_memberLine_5 rfl (lv_at hl 0 rfl) ?_
  refine lv_iconst (v := 1) cx.x cx.b d_Mo_memberLine_6 (by decide) ?_
  refine lv_sipush (v := 216) cx.x cx.b d_Mo_memberLine_7 (by decide) ?_
  refine hx_calli (iv_Mo_156_Mo cx (c_Mo_words_t l hE M61.1 hx hxc hxl hwe hfe hen hfm haf) oM62 rfl hl.1 rfl (Nat.le_of_ble_eq_true rfl) d_Mo_memberLine_10 ⟨Nat.le_of_ble_eq_true rfl, Nat.le_of_ble_eq_true rfl⟩ ⟨Nat.le_of_ble_eq_true rfl, Nat.le_of_ble_eq_true rfl⟩) hlo (fun _ h => h) (fun r65 H64 locs hp63 hlo => ?_)
  obtain ⟨g2, q2, w2⟩ := hp63
  have M2 : Mw E H H64 a ad g2 := M61.tr q2
  have w2 : WdQ (rdW true (g.2 7) txt (g.2 4) (wdS (txt.take (g.2 4)) (g.2 3)) (wdE (txt.take (g.2 4)) (wdS (txt.take (g.2 4)) (g.2 3)))) (g.1, up g.2 9 0) g2 r65 := w2
  generalize hV9 : rdW true (g.2 7) txt (g.2 4) (wdS (txt.take (g.2 4)) (g.2 3)) (wdE (txt.take (g.2 4)) (wdS (txt.take (g.2 4)) (g.2 3))) = V9 at w2 hQ
  obtain ⟨wf, wr, wy, wn⟩ := w2
  have wf : Wfr g g2 := wf
  by_cases cV : V9.1 = 0
  · rw [decide_eq_true cV] at wr
    subst wr
    rw [show rdK true (Ws ++ [u]) V9 (wdS (txt.take (g.2 4)) (g.2 3)) = (tkM (Ws ++ [u]) V9.2.2.2, wdS (txt.take (g.2 4)) (g.2 3)) from if_pos cV] at hQ
    obtain ⟨wrow, wc⟩ := wy cV
    have wc : g2.2 9 = 0 := wc
    generalize V9.2.2.2 = x at hQ wrow
    have hU2 := wf.rows hb1 hU
    refine lv_if_ne (tgt := 17) cx.x cx.b d_Mo_memberLine_13 (by decide) (fun _ => ?_) (fun c => absurd c (by decide))
    refine lv_iload_n cx.x cx.b d_Mo_memberLine_17 rfl (lv_at hl 2 rfl) ?_
    refine lv_bipush (v := (-2)) cx.x cx.b d_Mo_memberLine_18 (by decide) ?_
    have hl12 := hU.2.1
    rw [List.length_append, List.length_singleton] at hl12
    have hUl := hU2.2.2 Ws.length (by rw [List.length_append, List.length_singleton]; omega)
    rw [getD_last] at hUl
    obtain ⟨u1, u2, u3, u4⟩ := hUl
    refine lv_icmp_ne (tgt := 29) cx.x cx.b d_Mo_memberLine_20 (by decide) (fun _ => ?_) (fun c => absurd (congrArg Int32.toInt c) (by rw [nI_toInt (by omega)]; show ¬ ((Ws.length : Int) = -2); omega))
    refine lv_iload_n cx.x cx.b d_Mo_memberLine_29 rfl (lv_at hl 2 rfl) ?_
    refine lv_if_ge (tgt := 37) cx.x cx.b d_Mo_memberLine_30 (by decide) (fun _ => ?_) (fun c => absurd ((nI_leI (a := 0) (b := Ws.length) (by omega) (by omega)).mpr (Nat.zero_le _)) c)
    refine lv_aload_n cx.x cx.b d_Mo_memberLine_37 rfl (lv_at hl 0 rfl) ?_
    refine gf_Mo_40_Mo cx M2.1.1 rfl d_Mo_memberLine_38 ?_
    refine lv_bipush (v := 12) cx.x cx.b d_Mo_memberLine_41 (by decide) ?_
    refine lv_iload_n cx.x cx.b d_Mo_memberLine_43 rfl (lv_at hl 1 rfl) ?_
    refine lv_imul cx.x cx.b d_Mo_memberLine_44 ?_
    refine lv_topi (fun x66 e_x66 => ?_)
    have e_x66 : x66 = nI (12 * b1) := e_x66.trans (pk_mul 12 b1)
    subst e_x66
    refine lv_iload_n cx.x cx.b d_Mo_memberLine_45 rfl (lv_at hl 2 rfl) ?_
    refine lv_iadd cx.x cx.b d_Mo_memberLine_46 ?_
    refine lv_topi (fun x67 e_x67 => ?_)
    have e_x67 : x67 = nI ((12 * b1) + Ws.length) := e_x67.trans (nI_add (12 * b1) Ws.length)
    subst e_x67
    refine hx_iald cx.x cx.b cx.K 0 (M2.1.2.1 10 (by decide)) rfl (show vp_in (nI ((12 * b1) + Ws.length)) 24 from vp_in_nI (show ((12 * b1) + Ws.length) < 24 by omega) (by decide)) d_Mo_memberLine_47 ?_
    refine lv_topi (fun x68 e_x68 => ?_)
    have e_x68 : x68 = nI u.2.length := e_x68.trans (congrArg nI ((congrArg (g2.1 10) (nI_clamp (n := ((12 * b1) + Ws.length)) (by omega))).trans (u2)))
    subst e_x68
    refine lv_istore_n (lv' := [(3, .int (nI u.2.length)), (0, .ref a), (1, .int (nI b1)), (2, .int (nI Ws.length))]) cx.x cx.b d_Mo_memberLine_48 rfl hl (by decide) rfl (fun ls hl => ?_)
    refine lv_iconst (v := 0) cx.x cx.b d_Mo_memberLine_49 (by decide) ?_
    refine lv_istore (lv' := [(4, .int 0), (3, .int (nI u.2.length)), (0, .ref a), (1, .int (nI b1)), (2, .int (nI Ws.length))]) cx.x cx.b d_Mo_memberLine_50 hl (by decide) rfl (fun ls hl => ?_)
    have LP : ∀ (k : Nat) (locs : List Loc) (t1 cd : Nat) (H5 : Heap), hLo (eB E) locs → (u.2.length - t1 < k) → (t1 ≤ u.2.length) → (Mw E H H5 a ad (g2.1, up g2.2 9 cd)) → ((cd = 0 ∧ ∀ t, t < t1 → cmpD (u.2.getD t default) x ≠ 0) ∨ (cd = 7 ∧ ∃ t, t < t1 ∧ cmpD (u.2.getD t default) x = 0)) → ∀ ls, lv_has ls 5 [(4, .int (nI t1)), (3, .int (nI u.2.length)), (0, .ref a), (1, .int (nI b1)), (2, .int (nI Ws.length))] → W p l e (rmA 5 0 0) s m args below meth c H5 locs 0 0 Q (F0 m 52 ls []) := by
      intro k
      induction k with
      | zero => intro locs t1 cd H5 hlo hk ht1 M5 hcd; exact absurd hk (by omega)
      | succ k ih =>
        intro locs t1 cd H5 hlo hk ht1 M5 hcd ls hl
        have oM69 : hOb (eD E) classes H5 a 10 [.ref (ad 0), .int (nI (g2.2 0)), .ref (ad 1), .int (nI (g2.2 1)), .int (nI (g2.2 2)), .ref (ad 2), .ref (ad 3), .ref (ad 4), .ref (ad 5), .ref (ad 6), .ref (ad 7), .ref (ad 8), .ref (ad 9), .ref (ad 10), .int (nI (g2.2 3)), .int (nI (g2.2 4)), .int (nI (g2.2 5)), .int (nI (g2.2 6)), .int (nI (g2.2 7)), .ref (ad 11), .int (nI (g2.2 8)), .int (nI cd), .int (nI (g2.2 10)), .ref (ad 12), .int (nI (g2.2 11)), .ref (ad 13)] := M5.1.1
        refine lv_iload cx.x cx.b d_Mo_memberLine_52 (lv_at hl 0 rfl) ?_
        refine lv_iload_n cx.x cx.b d_Mo_memberLine_54 rfl (lv_at hl 1 rfl) ?_
        refine lv_icmp_ge (tgt := 95) cx.x cx.b d_Mo_memberLine_55 (by decide) (fun c1 => ?_) (fun c1 => ?_)
        · have c1 : u.2.length ≤ t1 := (nI_leI (a := u.2.length) (b := t1) (by omega) (by omega)).mp c1
          have e9 : t1 = u.2.length := by omega
          subst e9
          rcases hcd with ⟨e, hno⟩ | ⟨e, hyes⟩
          · subst e
            have oM85 : hOb (eD E) classes H5 a 10 [.ref (ad 0), .int (nI (g2.2 0)), .ref (ad 1), .int (nI (g2.2 1)), .int (nI (g2.2 2)), .ref (ad 2), .ref (ad 3), .ref (ad 4), .ref (ad 5), .ref (ad 6), .ref (ad 7), .ref (ad 8), .ref (ad 9), .ref (ad 10), .int (nI (g2.2 3)), .int (nI (g2.2 4)), .int (nI (g2.2 5)), .int (nI (g2.2 6)), .int (nI (g2.2 7)), .ref (ad 11), .int (nI (g2.2 8)), .int (nI 0), .int (nI (g2.2 10)), .ref (ad 12), .int (nI (g2.2 11)), .ref (ad 13)] := M5.1.1
            rw [tkM_n hno] at hQ
            refine lv_aload_n cx.x cx.b d_Mo_memberLine_95 rfl (lv_at hl 2 rfl) ?_
            refine gf_Mo_116_Mo cx oM85 rfl d_Mo_memberLine_96 ?_
            refine lv_if_ne (tgt := 114) cx.x cx.b d_Mo_memberLine_99 (by decide) (fun c => absurd (by decide) c) (fun _ => ?_)
            refine lv_iload_n cx.x cx.b d_Mo_memberLine_102 rfl (lv_at hl 1 rfl) ?_
            refine lv_bipush (v := 8) cx.x cx.b d_Mo_memberLine_103 (by decide) ?_
            refine lv_icmp_ne (tgt := 114) cx.x cx.b d_Mo_memberLine_105 (by decide) (fun c3 => ?_) (fun c3 => ?_)
            · have c3 : u.2.length ≠ 8 := fun zz => c3 ((nI_eq (a := u.2.length) (b := 8) (by omega) (by omega)).mpr zz)
              rw [if_neg (show ¬ 8 ≤ u.2.length by omega), adM_snoc] at hQ
              refine lv_aload_n cx.x cx.b d_Mo_memberLine_114 rfl (lv_at hl 2 rfl) ?_
              refine gf_Mo_116_Mo cx oM85 rfl d_Mo_memberLine_115 ?_
              refine lv_if_eq (tgt := 122) cx.x cx.b d_Mo_memberLine_118 (by decide) (fun _ => ?_) (fun c => absurd (by decide) c)
              refine lv_aload_n cx.x cx.b d_Mo_memberLine_122 rfl (lv_at hl 2 rfl) ?_
              refine lv_sipush (v := 216) cx.x cx.b d_Mo_memberLine_123 (by decide) ?_
              refine lv_bipush (v := 108) cx.x cx.b d_Mo_memberLine_126 (by decide) ?_
              refine lv_iload_n cx.x cx.b d_Mo_memberLine_128 rfl (lv_at hl 3 rfl) ?_
              refine lv_imul cx.x cx.b d_Mo_memberLine_129 ?_
              refine lv_topi (fun x90 e_x90 => ?_)
              have e_x90 : x90 = nI (108 * b1) := e_x90.trans (pk_mul 108 b1)
              subst e_x90
              refine lv_bipush (v := 12) cx.x cx.b d_Mo_memberLine_130 (by decide) ?_
              refine lv_iadd cx.x cx.b d_Mo_memberLine_132 ?_
              refine lv_topi (fun x91 e_x91 => ?_)
              have e_x91 : x91 = nI ((108 * b1) + 12) := e_x91.trans (nI_add (108 * b1) 12)
              subst e_x91
              refine lv_bipush (v := 8) cx.x cx.b d_Mo_memberLine_133 (by decide) ?_
              refine lv_iload_n cx.x cx.b d_Mo_memberLine_135 rfl (lv_at hl 4 rfl) ?_
              refine lv_imul cx.x cx.b d_Mo_memberLine_136 ?_
              refine lv_topi (fun x92 e_x92 => ?_)
              have e_x92 : x92 = nI (8 * Ws.length) := e_x92.trans (pk_mul 8 Ws.length)
              subst e_x92
              refine lv_iadd cx.x cx.b d_Mo_memberLine_137 ?_
              refine lv_topi (fun x93 e_x93 => ?_)
              have e_x93 : x93 = nI (((108 * b1) + 12) + (8 * Ws.length)) := e_x93.trans (nI_add ((108 * b1) + 12) (8 * Ws.length))
              subst e_x93
              refine lv_iload_n cx.x cx.b d_Mo_memberLine_138 rfl (lv_at hl 1 rfl) ?_
              refine lv_iadd cx.x cx.b d_Mo_memberLine_139 ?_
              refine lv_topi (fun x94 e_x94 => ?_)
              have e_x94 : x94 = nI ((((108 * b1) + 12) + (8 * Ws.length)) + u.2.length) := e_x94.trans (nI_add (((108 * b1) + 12) + (8 * Ws.length)) u.2.length)
              subst e_x94
              refine hx_callv (iv_Mo_160_Mo cx (c_Mo_move l hE M5.1 (t1 := 108 * b1 + 12 + 8 * Ws.length + u.2.length) (by omega)) oM85 rfl hl.1 rfl (Nat.le_of_ble_eq_true rfl) d_Mo_memberLine_140 ⟨Nat.le_of_ble_eq_true rfl, Nat.le_of_ble_eq_true rfl⟩ ⟨Nat.le_of_ble_eq_true rfl, Nat.le_of_ble_eq_true rfl⟩) hlo (fun _ h => h) (fun H96 locs hp95 hlo => ?_)
              obtain ⟨g3, q3, ⟨m0, m1, m2, m3, m10⟩, ms, mr, mo⟩ := hp95
              have M3 : Mw E H H96 a ad g3 := M5.tr q3
              have mr := mr x wrow
              have ms : g3.2 = up g2.2 9 0 := ms
              refine lv_aload_n cx.x cx.b d_Mo_memberLine_143 rfl (lv_at hl 2 rfl) ?_
              refine gf_Mo_40_Mo cx M3.1.1 rfl d_Mo_memberLine_144 ?_
              refine lv_bipush (v := 12) cx.x cx.b d_Mo_memberLine_147 (by decide) ?_
              refine lv_iload_n cx.x cx.b d_Mo_memberLine_149 rfl (lv_at hl 3 rfl) ?_
              refine lv_imul cx.x cx.b d_Mo_memberLine_150 ?_
              refine lv_topi (fun x97 e_x97 => ?_)
              have e_x97 : x97 = nI (12 * b1) := e_x97.trans (pk_mul 12 b1)
              subst e_x97
              refine lv_iload_n cx.x cx.b d_Mo_memberLine_151 rfl (lv_at hl 4 rfl) ?_
              refine lv_iadd cx.x cx.b d_Mo_memberLine_152 ?_
              refine lv_topi (fun x98 e_x98 => ?_)
              have e_x98 : x98 = nI ((12 * b1) + Ws.length) := e_x98.trans (nI_add (12 * b1) Ws.length)
              subst e_x98
              refine lv_iload_n cx.x cx.b d_Mo_memberLine_153 rfl (lv_at hl 1 rfl) ?_
              refine lv_iconst (v := 1) cx.x cx.b d_Mo_memberLine_154 (by decide) ?_
              refine lv_iadd cx.x cx.b d_Mo_memberLine_155 ?_
              refine lv_topi (fun x99 e_x99 => ?_)
              have e_x99 : x99 = nI (u.2.length + 1) := e_x99.trans (nI_add u.2.length 1)
              subst e_x99
              refine hx_iast cx.x cx.b cx.K 0 (M3.1.2.1 10 (by decide)) hlo (M3.1.2.2.2.1 10 (by decide)).1 rfl (show vp_in (nI ((12 * b1) + Ws.length)) 24 from vp_in_nI (show ((12 * b1) + Ws.length) < 24 by omega) (by decide)) d_Mo_memberLine_156 (fun H100 locs ha101 z_H100 o_H100 hlo => ?_)
              have M102 : Mw E H H100 a ad (up g3.1 10 (updN (g3.1 10) ((12 * b1) + Ws.length) (u.2.length + 1)), g3.2) := M3.ar (up g3.1 10 (updN (g3.1 10) ((12 * b1) + Ws.length) (u.2.length + 1)), g3.2) 10 (by decide) (by have h9 := ha101; rw [show (nI ((12 * b1) + Ws.length) : Int32).toNatClampNeg = ((12 * b1) + Ws.length) from nI_clamp (n := ((12 * b1) + Ws.length)) (by omega)] at h9; have h9 : hAi H100 (ad 10) (eA E 0) (arL 10) (upd (fun i => nI ((g3.1 10) i)) ((12 * b1) + Ws.length) (nI (u.2.length + 1))) := h9; rw [upd_nI] at h9; exact h9) z_H100 o_H100 rfl (fun j hj hn => arN10 hj hn rfl rfl rfl rfl rfl rfl rfl rfl rfl rfl rfl rfl rfl)
              have oM103 : hOb (eD E) classes H100 a 10 [.ref (ad 0), .int (nI (g3.2 0)), .ref (ad 1), .int (nI (g3.2 1)), .int (nI (g3.2 2)), .ref (ad 2), .ref (ad 3), .ref (ad 4), .ref (ad 5), .ref (ad 6), .ref (ad 7), .ref (ad 8), .ref (ad 9), .ref (ad 10), .int (nI (g3.2 3)), .int (nI (g3.2 4)), .int (nI (g3.2 5)), .int (nI (g3.2 6)), .int (nI (g3.2 7)), .ref (ad 11), .int (nI (g3.2 8)), .int (nI (g3.2 9)), .int (nI (g3.2 10)), .ref (ad 12), .int (nI (g3.2 11)), .ref (ad 13)] := M102.1.1
              rw [← hQ]
              exact hx_retv cx.x cx.b cx.r cx.k hlo (fun _ h => h) (Nat.le_of_ble_eq_true rfl) (Nat.le_of_ble_eq_true rfl) d_Mo_memberLine_157 (⟨_, M102, (wf.bfr b1).tr ⟨⟨m0, m1, m3⟩, fun b2 U2 h1 h2 h3 => h3.fr (congrFun m2 b2) (fun t ht => (updN_n (by have := h3.2.1; omega)).trans (congrFun m10 _)) (fun r hr1 hr2 => mo r (by omega) (by omega)), ⟨congrFun ms 0, congrFun ms 1, congrFun ms 2, congrFun ms 3, congrFun ms 4, congrFun ms 7⟩⟩, fun _ => ⟨hU2.snocM (by omega) (congrFun m2 b1) (fun t ht => (updN_n (by omega)).trans (congrFun m10 _)) updN_s mr (fun r h1 h2 h3 => mo r (by omega) h3), congrFun ms 9⟩, fun z => absurd rfl z⟩)
            · have c3 : u.2.length = 8 := (nI_eq (a := u.2.length) (b := 8) (by omega) (by omega)).mp c3
              rw [if_pos (show 8 ≤ u.2.length by omega)] at hQ
              refine lv_aload_n cx.x cx.b d_Mo_memberLine_108 rfl (lv_at hl 2 rfl) ?_
              refine lv_bipush (v := 8) cx.x cx.b d_Mo_memberLine_109 (by decide) ?_
              refine pf_Mo_116_Mo cx oM85 hlo M5.1.2.2.1 (Nat.le_of_ble_eq_true rfl) d_Mo_memberLine_111 (fun H86 locs ho87 z_H86 o_H86 hlo => ?_)
              have ho87 : hOb (eD E) classes H86 a 10 [.ref (ad 0), .int (nI (g2.2 0)), .ref (ad 1), .int (nI (g2.2 1)), .int (nI (g2.2 2)), .ref (ad 2), .ref (ad 3), .ref (ad 4), .ref (ad 5), .ref (ad 6), .ref (ad 7), .ref (ad 8), .ref (ad 9), .ref (ad 10), .int (nI (g2.2 3)), .int (nI (g2.2 4)), .int (nI (g2.2 5)), .int (nI (g2.2 6)), .int (nI (g2.2 7)), .ref (ad 11), .int (nI (g2.2 8)), .int 8, .int (nI (g2.2 10)), .ref (ad 12), .int (nI (g2.2 11)), .ref (ad 13)] := ho87
              have M88 : Mw E H H86 a ad (g2.1, up g2.2 9 8) := M5.sc (g2.1, up g2.2 9 8) ho87 z_H86 o_H86 rfl
              have oM89 : hOb (eD E) classes H86 a 10 [.ref (ad 0), .int (nI (g2.2 0)), .ref (ad 1), .int (nI (g2.2 1)), .int (nI (g2.2 2)), .ref (ad 2), .ref (ad 3), .ref (ad 4), .ref (ad 5), .ref (ad 6), .ref (ad 7), .ref (ad 8), .ref (ad 9), .ref (ad 10), .int (nI (g2.2 3)), .int (nI (g2.2 4)), .int (nI (g2.2 5)), .int (nI (g2.2 6)), .int (nI (g2.2 7)), .ref (ad 11), .int (nI (g2.2 8)), .int (nI 8), .int (nI (g2.2 10)), .ref (ad 12), .int (nI (g2.2 11)), .ref (ad 13)] := M88.1.1
              refine lv_aload_n cx.x cx.b d_Mo_memberLine_114 rfl (lv_at hl 2 rfl) ?_
              refine gf_Mo_116_Mo cx oM89 rfl d_Mo_memberLine_115 ?_
              refine lv_if_eq (tgt := 122) cx.x cx.b d_Mo_memberLine_118 (by decide) (fun c => absurd c (by decide)) (fun _ => ?_)
              rw [← hQ]
              exact hx_retv cx.x cx.b cx.r cx.k hlo (fun _ h => h) (Nat.le_of_ble_eq_true rfl) (Nat.le_of_ble_eq_true rfl) d_Mo_memberLine_121 (⟨_, M88, (wf.bfr b1).tr ⟨⟨rfl, rfl, rfl⟩, fun _ _ _ _ h => h, ⟨rfl, rfl, rfl, rfl, rfl, rfl⟩⟩, fun z => absurd z (by simp), fun _ => ⟨hU2, rfl, fun z => absurd z (by simp)⟩⟩)
          · subst e
            have oM84 : hOb (eD E) classes H5 a 10 [.ref (ad 0), .int (nI (g2.2 0)), .ref (ad 1), .int (nI (g2.2 1)), .int (nI (g2.2 2)), .ref (ad 2), .ref (ad 3), .ref (ad 4), .ref (ad 5), .ref (ad 6), .ref (ad 7), .ref (ad 8), .ref (ad 9), .ref (ad 10), .int (nI (g2.2 3)), .int (nI (g2.2 4)), .int (nI (g2.2 5)), .int (nI (g2.2 6)), .int (nI (g2.2 7)), .ref (ad 11), .int (nI (g2.2 8)), .int (nI 7), .int (nI (g2.2 10)), .ref (ad 12), .int (nI (g2.2 11)), .ref (ad 13)] := M5.1.1
            rw [tkM_7 hyes] at hQ
            refine lv_aload_n cx.x cx.b d_Mo_memberLine_95 rfl (lv_at hl 2 rfl) ?_
            refine gf_Mo_116_Mo cx oM84 rfl d_Mo_memberLine_96 ?_
            refine lv_if_ne (tgt := 114) cx.x cx.b d_Mo_memberLine_99 (by decide) (fun _ => ?_) (fun c => absurd c (by decide))
            refine lv_aload_n cx.x cx.b d_Mo_memberLine_114 rfl (lv_at hl 2 rfl) ?_
            refine gf_Mo_116_Mo cx oM84 rfl d_Mo_memberLine_115 ?_
            refine lv_if_eq (tgt := 122) cx.x cx.b d_Mo_memberLine_118 (by decide) (fun c => absurd c (by decide)) (fun _ => ?_)
            rw [← hQ]
            exact hx_retv cx.x cx.b cx.r cx.k hlo (fun _ h => h) (Nat.le_of_ble_eq_true rfl) (Nat.le_of_ble_eq_true rfl) d_Mo_memberLine_121 (⟨_, M5, (wf.bfr b1).tr ⟨⟨rfl, rfl, rfl⟩, fun _ _ _ _ h => h, ⟨rfl, rfl, rfl, rfl, rfl, rfl⟩⟩, fun z => absurd z (by simp), fun _ => ⟨hU2, rfl, fun z => absurd z (by simp)⟩⟩)
        · have c1 : t1 < u.2.length := Nat.not_le.mp (fun zz => c1 ((nI_leI (a := u.2.length) (b := t1) (by omega) (by omega)).mpr zz))
          refine lv_aload_n cx.x cx.b d_Mo_memberLine_58 rfl (lv_at hl 2 rfl) ?_
          refine lv_bipush (v := 108) cx.x cx.b d_Mo_memberLine_59 (by decide) ?_
          refine lv_iload_n cx.x cx.b d_Mo_memberLine_61 rfl (lv_at hl 3 rfl) ?_
          refine lv_imul cx.x cx.b d_Mo_memberLine_62 ?_
          refine lv_topi (fun x70 e_x70 => ?_)
          have e_x70 : x70 = nI (108 * b1) := e_x70.trans (pk_mul 108 b1)
          subst e_x70
          refine lv_bipush (v := 12) cx.x cx.b d_Mo_memberLine_63 (by decide) ?_
          refine lv_iadd cx.x cx.b d_Mo_memberLine_65 ?_
          refine lv_topi (fun x71 e_x71 => ?_)
          have e_x71 : x71 = nI ((108 * b1) + 12) := e_x71.trans (nI_add (108 * b1) 12)
          subst e_x71
          refine lv_bipush (v := 8) cx.x cx.b d_Mo_memberLine_66 (by decide) ?_
          refine lv_iload_n cx.x cx.b d_Mo_memberLine_68 rfl (lv_at hl 4 rfl) ?_
          refine lv_imul cx.x cx.b d_Mo_memberLine_69 ?_
          refine lv_topi (fun x72 e_x72 => ?_)
          have e_x72 : x72 = nI (8 * Ws.length) := e_x72.trans (pk_mul 8 Ws.length)
          subst e_x72
          refine lv_iadd cx.x cx.b d_Mo_memberLine_70 ?_
          refine lv_topi (fun x73 e_x73 => ?_)
          have e_x73 : x73 = nI (((108 * b1) + 12) + (8 * Ws.length)) := e_x73.trans (nI_add ((108 * b1) + 12) (8 * Ws.length))
          subst e_x73
          refine lv_iload cx.x cx.b d_Mo_memberLine_71 (lv_at hl 0 rfl) ?_
          refine lv_iadd cx.x cx.b d_Mo_memberLine_73 ?_
          refine lv_topi (fun x74 e_x74 => ?_)
          have e_x74 : x74 = nI ((((108 * b1) + 12) + (8 * Ws.length)) + t1) := e_x74.trans (nI_add (((108 * b1) + 12) + (8 * Ws.length)) t1)
          subst e_x74
          refine lv_sipush (v := 216) cx.x cx.b d_Mo_memberLine_74 (by decide) ?_
          refine hx_calli (iv_Mo_164_Mo cx (c_Mo_compareMembers l hE M5.1 (r1 := 108 * b1 + 12 + 8 * Ws.length + t1) (s1 := 216) (by omega) (by omega) (u4 t1 c1) wrow) oM69 rfl hl.1 rfl (Nat.le_of_ble_eq_true rfl) d_Mo_memberLine_77 ⟨Nat.le_of_ble_eq_true rfl, Nat.le_of_ble_eq_true rfl⟩ ⟨Nat.le_of_ble_eq_true rfl, Nat.le_of_ble_eq_true rfl⟩) hlo (fun _ h => h) (fun r77 H76 locs hp75 hlo => ?_)
          obtain ⟨hp75, hH9⟩ := hp75
          have hH9 := hH9.symm
          subst hH9
          refine lv_if_ne (tgt := 89) cx.x cx.b d_Mo_memberLine_80 (by decide) (fun c2 => ?_) (fun c2 => ?_)
          · have c2 : cmpD (u.2.getD t1 default) x ≠ 0 := fun z => c2 ((cmpI_z hp75).mpr z)
            obtain ⟨x78, e_x78⟩ : ∃ y : Int32, y = nI t1 + 1 := ⟨_, rfl⟩
            refine lv_iinc (v := x78) (lv' := [(4, .int x78), (3, .int (nI u.2.length)), (0, .ref a), (1, .int (nI b1)), (2, .int (nI Ws.length))]) cx.x cx.b d_Mo_memberLine_89 hl (k := 0) rfl (by rw [e_x78]; rfl) (by decide) rfl (fun ls hl => ?_)
            have e_x78 : x78 = nI (t1 + 1) := e_x78.trans (nI_add t1 1)
            subst e_x78
            refine lv_goto (tgt := 52) cx.x cx.b d_Mo_memberLine_92 (by decide) ?_
            exact ih _ (t1 + 1) cd _ hlo (by clear hcd; omega) (by clear hcd; omega) M5 (by rcases hcd with ⟨e, z⟩ | ⟨e, t, ht, z⟩; exact Or.inl ⟨e, fun t ht => by by_cases q : t = t1; rw [q]; exact c2; exact z t (by omega)⟩; exact Or.inr ⟨e, t, by omega, z⟩) _ (lv_sub hl [0, 1, 2, 3, 4] rfl)
          · have c2 : cmpD (u.2.getD t1 default) x = 0 := (cmpI_z hp75).mp c2
            refine lv_aload_n cx.x cx.b d_Mo_memberLine_83 rfl (lv_at hl 2 rfl) ?_
            refine lv_bipush (v := 7) cx.x cx.b d_Mo_memberLine_84 (by decide) ?_
            refine pf_Mo_116_Mo cx oM69 hlo M5.1.2.2.1 (Nat.le_of_ble_eq_true rfl) d_Mo_memberLine_86 (fun H79 locs ho80 z_H79 o_H79 hlo => ?_)
            have ho80 : hOb (eD E) classes H79 a 10 [.ref (ad 0), .int (nI (g2.2 0)), .ref (ad 1), .int (nI (g2.2 1)), .int (nI (g2.2 2)), .ref (ad 2), .ref (ad 3), .ref (ad 4), .ref (ad 5), .ref (ad 6), .ref (ad 7), .ref (ad 8), .ref (ad 9), .ref (ad 10), .int (nI (g2.2 3)), .int (nI (g2.2 4)), .int (nI (g2.2 5)), .int (nI (g2.2 6)), .int (nI (g2.2 7)), .ref (ad 11), .int (nI (g2.2 8)), .int 7, .int (nI (g2.2 10)), .ref (ad 12), .int (nI (g2.2 11)), .ref (ad 13)] := ho80
            have M81 : Mw E H H79 a ad (g2.1, up g2.2 9 7) := M5.sc (g2.1, up g2.2 9 7) ho80 z_H79 o_H79 rfl
            have oM82 : hOb (eD E) classes H79 a 10 [.ref (ad 0), .int (nI (g2.2 0)), .ref (ad 1), .int (nI (g2.2 1)), .int (nI (g2.2 2)), .ref (ad 2), .ref (ad 3), .ref (ad 4), .ref (ad 5), .ref (ad 6), .ref (ad 7), .ref (ad 8), .ref (ad 9), .ref (ad 10), .int (nI (g2.2 3)), .int (nI (g2.2 4)), .int (nI (g2.2 5)), .int (nI (g2.2 6)), .int (nI (g2.2 7)), .ref (ad 11), .int (nI (g2.2 8)), .int (nI 7), .int (nI (g2.2 10)), .ref (ad 12), .int (nI (g2.2 11)), .ref (ad 13)] := M81.1.1
            obtain ⟨x83, e_x83⟩ : ∃ y : Int32, y = nI t1 + 1 := ⟨_, rfl⟩
            refine lv_iinc (v := x83) (lv' := [(4, .int x83), (3, .int (nI u.2.length)), (0, .ref a), (1, .int (nI b1)), (2, .int (nI Ws.length))]) cx.x cx.b d_Mo_memberLine_89 hl (k := 0) rfl (by rw [e_x83]; rfl) (by decide) rfl (fun ls hl => ?_)
            have e_x83 : x83 = nI (t1 + 1) := e_x83.trans (nI_add t1 1)
            subst e_x83
            refine lv_goto (tgt := 52) cx.x cx.b d_Mo_memberLine_92 (by decide) ?_
            exact ih _ (t1 + 1) 7 _ hlo (by clear hcd; omega) (by clear hcd; omega) M81 (Or.inr ⟨rfl, t1, by omega, c2⟩) _ (lv_sub hl [0, 1, 2, 3, 4] rfl)
    exact LP _ _ 0 0 _ hlo (Nat.lt_succ_self _) (Nat.zero_le _) (Mw.cg M2 rfl rfl rfl rfl rfl rfl rfl rfl rfl rfl rfl rfl rfl rfl rfl rfl rfl rfl rfl rfl rfl rfl rfl wc.symm rfl rfl) (Or.inl ⟨rfl, fun t ht => absurd ht (Nat.not_lt_zero t)⟩) _ (lv_sub hl [0, 1, 2, 3, 4] rfl)
  · rw [decide_eq_false cV] at wr
    subst wr
    rw [show rdK true (Ws ++ [u]) V9 (wdS (txt.take (g.2 4)) (g.2 3)) = (V9.1, V9.2.1) from if_neg cV] at hQ
    refine lv_if_ne (tgt := 17) cx.x cx.b d_Mo_memberLine_13 (by decide) (fun c => absurd (by decide) c) (fun _ => ?_)
    rw [← hQ]
    exact hx_retv cx.x cx.b cx.r cx.k hlo (fun _ h => h) (Nat.le_of_ble_eq_true rfl) (Nat.le_of_ble_eq_true rfl) d_Mo_memberLine_16 (⟨g2, M2, wf.bfr b1, fun z => absurd z cV, fun _ => ⟨wf.rows hb1 hU, (wn cV).1, fun _ => (wn cV).2⟩⟩)
