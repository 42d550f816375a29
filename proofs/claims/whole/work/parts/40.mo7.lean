/-- the diagnostics in the model -/
def DgR (f : Nat → Nat) (n : Nat) (ds : List (Nat × Nat × Nat)) : Prop := n = ds.length ∧ ∀ i, i < ds.length → i < 20 → f (3 * i) = (ds.getD i (0, 0, 0)).1 ∧ f (3 * i + 1) = (ds.getD i (0, 0, 0)).2.1 ∧ f (3 * i + 2) = (ds.getD i (0, 0, 0)).2.2
theorem DgR.tell {f : Nat → Nat} {n x y z : Nat} {ds : List (Nat × Nat × Nat)} (h : DgR f n ds) : DgR (if n < 20 then updN (updN (updN f (3 * n) x) (3 * n + 1) y) (3 * n + 2) z else f) (n + 1) (ds ++ [(x, y, z)]) := by
  obtain ⟨h1, h2⟩ := h
  refine ⟨by rw [List.length_append, List.length_singleton, h1], fun i hi h20 => ?_⟩
  rw [List.length_append, List.length_singleton] at hi
  by_cases c : i < ds.length
  · rw [getD_app c]
    have h3 := h2 i c h20
    by_cases q : n < 20
    · rw [if_pos q]
      refine ⟨?_, ?_, ?_⟩
      · rw [updN_n (by omega), updN_n (by omega), updN_n (by omega)]; exact h3.1
      · rw [updN_n (by omega), updN_n (by omega), updN_n (by omega)]; exact h3.2.1
      · rw [updN_n (by omega), updN_n (by omega), updN_n (by omega)]; exact h3.2.2
    · rw [if_neg q]; exact h3
  · have e : i = ds.length := by omega
    rw [if_pos (by omega), e, getD_last, ← h1]
    refine ⟨?_, ?_, updN_s⟩
    · rw [updN_n (by omega), updN_n (by omega)]; exact updN_s
    · rw [updN_n (by omega)]; exact updN_s
/-- the type that members go to, as the model keeps it -/
def lsV (U : List TU) : Int32 := if U.length = 0 then -2 else nI (U.length - 1)
def lastV (k : Bool) (U : List TU) : Int32 := if k then -1 else lsV U
def Cfr (b : Nat) (g g2 : MS) : Prop := (g2.1 0 = g.1 0 ∧ g2.1 3 = g.1 3) ∧ (∀ b2 U2, b2 < 2 → b2 ≠ b → Rows g.1 b2 U2 → Rows g2.1 b2 U2) ∧ (g2.2 0 = g.2 0 ∧ g2.2 2 = g.2 2 ∧ g2.2 3 = g.2 3 ∧ g2.2 4 = g.2 4 ∧ g2.2 7 = g.2 7)
theorem Bfr.cfr {b : Nat} {g g2 : MS} (h : Bfr b g g2) : Cfr b g g2 := ⟨⟨h.1.1, h.1.2.2⟩, h.2.1, ⟨h.2.2.1, h.2.2.2.2.1, h.2.2.2.2.2.1, h.2.2.2.2.2.2.1, h.2.2.2.2.2.2.2⟩⟩
theorem rdW_lt7 (mem : Bool) (fm : Nat) (txt : List Nat) (en ws we : Nat) : (rdW mem fm txt en ws we).1 < 7 := by
  unfold rdW rdW0
  generalize rmk mem txt en (nMarks mem + 1) 0 ws we = M
  by_cases c1 : M.1 = true
  · rw [if_pos c1]
    cases hk : kdH mem (wdO txt M.2.2.1 M.2.2.2) with
    | none => show (3 : Nat) < 7; decide
    | some k =>
      show (rdW1 mem fm txt en M.2.1 k M.2.2.2).1 < 7
      have h3 : ∀ we x, (rdW3 txt en we x).1 < 7 := fun we x => by
        unfold rdW3
        show (if _ then 6 else 0) < 7
        split <;> decide
      unfold rdW1
      split
      · unfold rdW2
        split
        · split
          · exact h3 _ _
          · show (5 : Nat) < 7; decide
        · exact h3 _ _
      · show (4 : Nat) < 7; decide
  · rw [if_neg c1]; show (2 : Nat) < 7; decide
theorem tkT_v (U : List TU) (x : DV) : tkT U x = 0 ∨ (7 ≤ tkT U x ∧ tkT U x < 10) := by
  unfold tkT
  split
  · right; decide
  · split
    · right; decide
    · left; rfl
theorem tkM_v (U : List TU) (x : DV) : tkM U x = 0 ∨ (7 ≤ tkM U x ∧ tkM U x < 10) := by
  unfold tkM
  split
  · right; decide
  · split
    · right; decide
    · split
      · right; decide
      · left; rfl
theorem rdK_v (mem : Bool) (fm : Nat) (txt : List Nat) (en ws we : Nat) (U : List TU) (w : Nat) : (rdK mem U (rdW mem fm txt en ws we) w).1 < 10 ∧ ((rdK mem U (rdW mem fm txt en ws we) w).1 ≠ 0 → ((rdK mem U (rdW mem fm txt en ws we) w).1 < 7 → (rdK mem U (rdW mem fm txt en ws we) w).2 = (rdW mem fm txt en ws we).2.1) ∧ (7 ≤ (rdK mem U (rdW mem fm txt en ws we) w).1 → (rdK mem U (rdW mem fm txt en ws we) w).2 = w)) := by
  have h7 := rdW_lt7 mem fm txt en ws we
  generalize rdW mem fm txt en ws we = V at *
  unfold rdK
  by_cases c : V.1 = 0
  · rw [if_pos c]
    cases mem
    · have := tkT_v U V.2.2.2
      refine ⟨?_, fun h0 => ⟨fun h => ?_, fun _ => rfl⟩⟩
      · show tkT U V.2.2.2 < 10; omega
      · have h0 : tkT U V.2.2.2 ≠ 0 := h0
        have h : tkT U V.2.2.2 < 7 := h
        omega
    · have := tkM_v U V.2.2.2
      refine ⟨?_, fun h0 => ⟨fun h => ?_, fun _ => rfl⟩⟩
      · show tkM U V.2.2.2 < 10; omega
      · have h0 : tkM U V.2.2.2 ≠ 0 := h0
        have h : tkM U V.2.2.2 < 7 := h
        omega
  · rw [if_neg c]
    refine ⟨?_, fun _ => ⟨fun _ => rfl, fun h => ?_⟩⟩
    · show V.1 < 10; omega
    · have h : 7 ≤ V.1 := h
      omega
theorem lsV_snoc (W : List TU) (u : TU) : lsV (W ++ [u]) = nI W.length := by
  unfold lsV
  rw [List.length_append, List.length_singleton, if_neg (by omega), Nat.add_sub_cancel]
theorem fm48 : ∀ c, c < 128 → (nI c - 48 = 1 ↔ c = 49) ∧ (nI c - 48 = 2 ↔ c = 50) := by decide +kernel
set_option maxHeartbeats 4000000 in
set_option maxRecDepth 100000 in
theorem c_Mo_body (l : Launch) {E : hE} (hE : EnvOk E) {H : Heap} {a : Nat} {ad : Nat → Nat} {g : MS} (M : Mo E H a ad g) {txt : List Nat} (hx : Tx (g.1 0) txt) (hxc : ∀ x ∈ txt, okC x = true) (hxl : txt.length ≤ 480) (hfe : g.2 3 ≤ g.2 4) (hen : g.2 4 ≤ txt.length) (haf : txt.getD (g.2 4) 0 ≠ 36) (hfm : g.2 7 = 1 ∨ g.2 7 = 2) (hws : (wdS (txt.take (g.2 4)) (g.2 3)) < g.2 4) {b1 num : Nat} {past brk : Bool} {U : List TU} {ds : List (Nat × Nat × Nat)} (hb1 : b1 < 2) (hU : Rows g.1 b1 U) (hD : DgR (g.1 1) (g.2 1) ds) (hdl : ds.length < 1000) : Ct l E y_Mo_body b_Mo_body 8 (some .int) (rmA 6 0 0) [.ref a, .int (nI b1), .int (nI num), .int (lastV brk U)] H (hQi (fun r H1 => r = lastV (rdB txt num (g.2 3) (g.2 4) (wdS (txt.take (g.2 4)) (g.2 3)) (wdE (txt.take (g.2 4)) (wdS (txt.take (g.2 4)) (g.2 3))) (g.2 7, past, brk, U, ds)).2.2.1 (rdB txt num (g.2 3) (g.2 4) (wdS (txt.take (g.2 4)) (g.2 3)) (wdE (txt.take (g.2 4)) (wdS (txt.take (g.2 4)) (g.2 3))) (g.2 7, past, brk, U, ds)).2.2.2.1 ∧ ∃ g2 : MS, Mw E H H1 a ad g2 ∧ Rows g2.1 b1 (rdB txt num (g.2 3) (g.2 4) (wdS (txt.take (g.2 4)) (g.2 3)) (wdE (txt.take (g.2 4)) (wdS (txt.take (g.2 4)) (g.2 3))) (g.2 7, past, brk, U, ds)).2.2.2.1 ∧ DgR (g2.1 1) (g2.2 1) (rdB txt num (g.2 3) (g.2 4) (wdS (txt.take (g.2 4)) (g.2 3)) (wdE (txt.take (g.2 4)) (wdS (txt.take (g.2 4)) (g.2 3))) (g.2 7, past, brk, U, ds)).2.2.2.2 ∧ Cfr b1 g g2)) := by
  refine hx_enter hE (by decide) (Nat.le_of_ble_eq_true rfl) ?_
  intro p e s m args below meth c ls cx hnm hl
  have hl : lv_has ls 8 [(0, .ref a), (1, .int (nI b1)), (2, .int (nI num)), (3, .int (lastV brk U))] := hl
  have hlo : hLo (eB E) [] := hLo.nil
  generalize hQ : MQ below _ args s _ _ _ = Q
  have M0 : Mw E H H a ad g := ⟨M, hCh.rf, rfl⟩
  have hT := len_take hen
  have hkv := fun mem => rdK_v mem (g.2 7) txt (g.2 4) (wdS (txt.take (g.2 4)) (g.2 3)) (wdE (txt.take (g.2 4)) (wdS (txt.take (g.2 4)) (g.2 3))) U (wdS (txt.take (g.2 4)) (g.2 3))
  have hdn := hD.1
  refine lv_aload_n cx.x cx.b d_Mo_body_0 rfl (lv_at hl 0 rfl) ?_
  refine lv_aload_n cx.x cx.b d_Mo_body_1 rfl (lv_at hl 0 rfl) ?_
  refine gf_Mo_119_Mo cx M0.1.1 rfl d_Mo_body_2 ?_
  refine pf_Mo_62_Mo cx M0.1.1 hlo M0.1.2.2.1 (Nat.le_of_ble_eq_true rfl) d_Mo_body_5 (fun H1 locs ho2 z_H1 o_H1 hlo => ?_)
  have ho2 : hOb (eD E) classes H1 a 10 [.ref (ad 0), .int (nI (g.2 0)), .ref (ad 1), .int (nI (g.2 1)), .int (nI (g.2 2)), .ref (ad 2), .ref (ad 3), .ref (ad 4), .ref (ad 5), .ref (ad 6), .ref (ad 7), .ref (ad 8), .ref (ad 9), .ref (ad 10), .int (nI (g.2 3)), .int (nI (g.2 4)), .int (nI (g.2 5)), .int (nI (g.2 3)), .int (nI (g.2 7)), .ref (ad 11), .int (nI (g.2 8)), .int (nI (g.2 9)), .int (nI (g.2 10)), .ref (ad 12), .int (nI (g.2 11)), .ref (ad 13)] := ho2
  have M3 : Mw E H H1 a ad (g.1, up g.2 6 (g.2 3)) := M0.sc (g.1, up g.2 6 (g.2 3)) ho2 z_H1 o_H1 rfl
  have oM4 : hOb (eD E) classes H1 a 10 [.ref (ad 0), .int (nI (g.2 0)), .ref (ad 1), .int (nI (g.2 1)), .int (nI (g.2 2)), .ref (ad 2), .ref (ad 3), .ref (ad 4), .ref (ad 5), .ref (ad 6), .ref (ad 7), .ref (ad 8), .ref (ad 9), .ref (ad 10), .int (nI (g.2 3)), .int (nI (g.2 4)), .int (nI (g.2 5)), .int (nI (g.2 3)), .int (nI (g.2 7)), .ref (ad 11), .int (nI (g.2 8)), .int (nI (g.2 9)), .int (nI (g.2 10)), .ref (ad 12), .int (nI (g.2 11)), .ref (ad 13)] := M3.1.1
  refine lv_aload_n cx.x cx.b d_Mo_body_8 rfl (lv_at hl 0 rfl) ?_
  refine hx_calli (iv_Mo_125_Mo cx (c_Mo_next l hE M3.1 hx hxc hxl (show g.2 3 ≤ (g.2 4) by omega) hen) oM4 rfl hl.1 rfl (Nat.le_of_ble_eq_true rfl) d_Mo_body_9 ⟨Nat.le_of_ble_eq_true rfl, Nat.le_of_ble_eq_true rfl⟩ ⟨Nat.le_of_ble_eq_true rfl, Nat.le_of_ble_eq_true rfl⟩) hlo (fun _ h => h) (fun r7 H6 locs hp5 hlo => ?_)
  obtain ⟨rq_M8, q_M8⟩ := hp5
  have rq_M8 : r7 = bI (decide (wdS (txt.take (g.2 4)) (g.2 3) < (g.2 4))) := rq_M8
  have M8 : Mw E H H6 a ad (g.1, up (up g.2 5 (wdS (txt.take (g.2 4)) (g.2 3))) 6 (if wdS (txt.take (g.2 4)) (g.2 3) < (g.2 4) then wdE (txt.take (g.2 4)) (wdS (txt.take (g.2 4)) (g.2 3)) else g.2 3)) := Mw.cg (M3.tr q_M8) rfl rfl rfl rfl rfl rfl rfl rfl rfl rfl rfl rfl rfl rfl rfl rfl rfl rfl rfl rfl rfl rfl rfl rfl rfl rfl
  have oM9 : hOb (eD E) classes H6 a 10 [.ref (ad 0), .int (nI (g.2 0)), .ref (ad 1), .int (nI (g.2 1)), .int (nI (g.2 2)), .ref (ad 2), .ref (ad 3), .ref (ad 4), .ref (ad 5), .ref (ad 6), .ref (ad 7), .ref (ad 8), .ref (ad 9), .ref (ad 10), .int (nI (g.2 3)), .int (nI (g.2 4)), .int (nI (wdS (txt.take (g.2 4)) (g.2 3))), .int (nI (if wdS (txt.take (g.2 4)) (g.2 3) < (g.2 4) then wdE (txt.take (g.2 4)) (wdS (txt.take (g.2 4)) (g.2 3)) else g.2 3)), .int (nI (g.2 7)), .ref (ad 11), .int (nI (g.2 8)), .int (nI (g.2 9)), .int (nI (g.2 10)), .ref (ad 12), .int (nI (g.2 11)), .ref (ad 13)] := M8.1.1
  have a_S1 := wdS_le (L := (txt.take (g.2 4))) (i := g.2 3) (by omega)
  have n_S1 := wdS_not (i := g.2 3) hen ((g.2 4) - (g.2 3)) rfl (by omega)
  have b_S1 := wdE_le (L := (txt.take (g.2 4))) (i := wdS (txt.take (g.2 4)) (g.2 3)) (by omega)
  generalize h_S1 : wdS (txt.take (g.2 4)) (g.2 3) = S1 at rq_M8 M8 a_S1 n_S1 b_S1 hQ hws hkv
  by_cases c_S1 : S1 < (g.2 4)
  · rw [if_pos c_S1] at M8
    rw [decide_eq_true c_S1] at rq_M8
    subst rq_M8
    have oM10 : hOb (eD E) classes H6 a 10 [.ref (ad 0), .int (nI (g.2 0)), .ref (ad 1), .int (nI (g.2 1)), .int (nI (g.2 2)), .ref (ad 2), .ref (ad 3), .ref (ad 4), .ref (ad 5), .ref (ad 6), .ref (ad 7), .ref (ad 8), .ref (ad 9), .ref (ad 10), .int (nI (g.2 3)), .int (nI (g.2 4)), .int (nI S1), .int (nI (wdE (txt.take (g.2 4)) S1)), .int (nI (g.2 7)), .ref (ad 11), .int (nI (g.2 8)), .int (nI (g.2 9)), .int (nI (g.2 10)), .ref (ad 12), .int (nI (g.2 11)), .ref (ad 13)] := M8.1.1
    refine lv_istore (lv' := [(4, .int (bI true)), (0, .ref a), (1, .int (nI b1)), (2, .int (nI num)), (3, .int (lastV brk U))]) cx.x cx.b d_Mo_body_12 hl (by decide) rfl (fun ls hl => ?_)
    refine lv_aload_n cx.x cx.b d_Mo_body_14 rfl (lv_at hl 1 rfl) ?_
    refine gf_Mo_68_Mo cx oM10 rfl d_Mo_body_15 ?_
    refine lv_aload_n cx.x cx.b d_Mo_body_18 rfl (lv_at hl 1 rfl) ?_
    refine gf_Mo_119_Mo cx oM10 rfl d_Mo_body_19 ?_
    refine lv_isub cx.x cx.b d_Mo_body_22 ?_
    refine lv_topi (fun x12 e_x12 => ?_)
    have e_x12 : x12 = nI (S1 - (g.2 3)) := e_x12.trans (pk_sub (a := S1) (b := (g.2 3)) (by omega))
    subst e_x12
    refine lv_iconst (v := 1) cx.x cx.b d_Mo_body_23 (by decide) ?_
    refine lv_iadd cx.x cx.b d_Mo_body_24 ?_
    refine lv_topi (fun x13 e_x13 => ?_)
    have e_x13 : x13 = nI ((S1 - (g.2 3)) + 1) := e_x13.trans (nI_add (S1 - (g.2 3)) 1)
    subst e_x13
    refine lv_istore (lv' := [(5, .int (nI ((S1 - (g.2 3)) + 1))), (4, .int (bI true)), (0, .ref a), (1, .int (nI b1)), (2, .int (nI num)), (3, .int (lastV brk U))]) cx.x cx.b d_Mo_body_25 hl (by decide) rfl (fun ls hl => ?_)
    refine lv_aload_n cx.x cx.b d_Mo_body_27 rfl (lv_at hl 2 rfl) ?_
    refine lv_aload_n cx.x cx.b d_Mo_body_28 rfl (lv_at hl 2 rfl) ?_
    refine gf_Mo_119_Mo cx oM10 rfl d_Mo_body_29 ?_
    refine pf_Mo_62_Mo cx oM10 hlo M8.1.2.2.1 (Nat.le_of_ble_eq_true rfl) d_Mo_body_32 (fun H14 locs ho15 z_H14 o_H14 hlo => ?_)
    have ho15 : hOb (eD E) classes H14 a 10 [.ref (ad 0), .int (nI (g.2 0)), .ref (ad 1), .int (nI (g.2 1)), .int (nI (g.2 2)), .ref (ad 2), .ref (ad 3), .ref (ad 4), .ref (ad 5), .ref (ad 6), .ref (ad 7), .ref (ad 8), .ref (ad 9), .ref (ad 10), .int (nI (g.2 3)), .int (nI (g.2 4)), .int (nI S1), .int (nI (g.2 3)), .int (nI (g.2 7)), .ref (ad 11), .int (nI (g.2 8)), .int (nI (g.2 9)), .int (nI (g.2 10)), .ref (ad 12), .int (nI (g.2 11)), .ref (ad 13)] := ho15
    have M16 : Mw E H H14 a ad (g.1, up (up g.2 5 S1) 6 (g.2 3)) := M8.sc (g.1, up (up g.2 5 S1) 6 (g.2 3)) ho15 z_H14 o_H14 rfl
    have oM17 : hOb (eD E) classes H14 a 10 [.ref (ad 0), .int (nI (g.2 0)), .ref (ad 1), .int (nI (g.2 1)), .int (nI (g.2 2)), .ref (ad 2), .ref (ad 3), .ref (ad 4), .ref (ad 5), .ref (ad 6), .ref (ad 7), .ref (ad 8), .ref (ad 9), .ref (ad 10), .int (nI (g.2 3)), .int (nI (g.2 4)), .int (nI S1), .int (nI (g.2 3)), .int (nI (g.2 7)), .ref (ad 11), .int (nI (g.2 8)), .int (nI (g.2 9)), .int (nI (g.2 10)), .ref (ad 12), .int (nI (g.2 11)), .ref (ad 13)] := M16.1.1
    refine lv_iload cx.x cx.b d_Mo_body_35 (lv_at hl 1 rfl) ?_
    refine lv_if_eq (tgt := 50) cx.x cx.b d_Mo_body_37 (by decide) (fun c => absurd c (by decide)) (fun _ => ?_)
    refine lv_iload cx.x cx.b d_Mo_body_40 (lv_at hl 0 rfl) ?_
    refine lv_iconst (v := 1) cx.x cx.b d_Mo_body_42 (by decide) ?_
    refine lv_icmp_le (tgt := 50) cx.x cx.b d_Mo_body_43 (by decide) (fun c1 => ?_) (fun c1 => ?_)
    · have c1 : ((S1 - (g.2 3)) + 1) ≤ 1 := (nI_leI (a := ((S1 - (g.2 3)) + 1)) (b := 1) (by omega) (by omega)).mp c1
      have hd1 : decide (g.2 3 < S1) = false := decide_eq_false (by omega)
      unfold rdB at hQ
      rw [hd1, Bool.false_and, if_neg (by decide)] at hQ
      unfold rdC at hQ
      refine lv_iconst (v := 0) cx.x cx.b d_Mo_body_50 (by decide) ?_
      refine lv_istore (lv' := [(6, .int 0), (5, .int (nI ((S1 - (g.2 3)) + 1))), (4, .int (bI true)), (0, .ref a), (1, .int (nI b1)), (2, .int (nI num)), (3, .int (lastV brk U))]) cx.x cx.b d_Mo_body_51 hl (by decide) rfl (fun ls hl => ?_)
      refine lv_iload cx.x cx.b d_Mo_body_53 (lv_at hl 0 rfl) ?_
      refine lv_if_eq (tgt := 65) cx.x cx.b d_Mo_body_55 (by decide) (fun _ => ?_) (fun c => absurd (by decide) c)
      refine lv_iload_n cx.x cx.b d_Mo_body_65 rfl (lv_at hl 6 rfl) ?_
      refine lv_istore (lv' := [(7, .int (lastV brk U)), (6, .int 0), (5, .int (nI ((S1 - (g.2 3)) + 1))), (4, .int (bI true)), (0, .ref a), (1, .int (nI b1)), (2, .int (nI num)), (3, .int (lastV brk U))]) cx.x cx.b d_Mo_body_66 hl (by decide) rfl (fun ls hl => ?_)
      refine lv_iload cx.x cx.b d_Mo_body_68 (lv_at hl 1 rfl) ?_
      refine lv_if_eq (tgt := 82) cx.x cx.b d_Mo_body_70 (by decide) (fun _ => ?_) (fun c => absurd (by decide) c)
      refine lv_aload_n cx.x cx.b d_Mo_body_82 rfl (lv_at hl 4 rfl) ?_
      refine lv_iload_n cx.x cx.b d_Mo_body_83 rfl (lv_at hl 5 rfl) ?_
      refine hx_calli (iv_Mo_189_Mo cx (c_Mo_typeLine l hE M16.1 hx hxc hxl (show g.2 3 = g.2 3 from rfl) hfe hen hfm haf hb1 hU) oM17 rfl hl.1 rfl (Nat.le_of_ble_eq_true rfl) d_Mo_body_84 ⟨Nat.le_of_ble_eq_true rfl, Nat.le_of_ble_eq_true rfl⟩ ⟨Nat.le_of_ble_eq_true rfl, Nat.le_of_ble_eq_true rfl⟩) hlo (fun _ h => h) (fun r20 H19 locs hp18 hlo => ?_)
      obtain ⟨r7, g2, q2, lq⟩ := hp18
      have M2 : Mw E H H19 a ad g2 := M16.tr q2
      have lq : LnQ (rdK false U (rdW false (g.2 7) txt (g.2 4) (wdS (txt.take (g.2 4)) (g.2 3)) (wdE (txt.take (g.2 4)) (wdS (txt.take (g.2 4)) (g.2 3)))) (wdS (txt.take (g.2 4)) (g.2 3))) (rdW false (g.2 7) txt (g.2 4) (wdS (txt.take (g.2 4)) (g.2 3)) (wdE (txt.take (g.2 4)) (wdS (txt.take (g.2 4)) (g.2 3)))).2.1 b1 (g.2 3) g g2 U (U ++ [((rdW false (g.2 7) txt (g.2 4) (wdS (txt.take (g.2 4)) (g.2 3)) (wdE (txt.take (g.2 4)) (wdS (txt.take (g.2 4)) (g.2 3)))).2.2.2, [])]) := lq
      have r7 : r20 = (if (rdK false U (rdW false (g.2 7) txt (g.2 4) (wdS (txt.take (g.2 4)) (g.2 3)) (wdE (txt.take (g.2 4)) (wdS (txt.take (g.2 4)) (g.2 3)))) (wdS (txt.take (g.2 4)) (g.2 3))).1 = 0 then nI U.length else -1) := r7
      rw [h_S1] at lq r7
      obtain ⟨bf, ky, kn⟩ := lq
      have hD2 : DgR (g2.1 1) (g2.2 1) ds := by rw [bf.1.2.1, bf.2.2.2.1]; exact hD
      refine lv_istore (lv' := [(7, .int r20), (6, .int 0), (5, .int (nI ((S1 - (g.2 3)) + 1))), (4, .int (bI true)), (0, .ref a), (1, .int (nI b1)), (2, .int (nI num)), (3, .int (lastV brk U))]) cx.x cx.b d_Mo_body_87 hl (by decide) rfl (fun ls hl => ?_)
      by_cases cK : (rdK false U (rdW false (g.2 7) txt (g.2 4) S1 (wdE (txt.take (g.2 4)) S1)) S1).1 = 0
      · obtain ⟨kR, kc⟩ := ky cK
        rw [if_pos cK] at hQ r7
        subst r7
        refine lv_aload_n cx.x cx.b d_Mo_body_89 rfl (lv_at hl 4 rfl) ?_
        refine gf_Mo_116_Mo cx M2.1.1 rfl d_Mo_body_90 ?_
        rw [kc]
        refine lv_if_eq (tgt := 123) cx.x cx.b d_Mo_body_93 (by decide) (fun _ => ?_) (fun c => absurd (by decide) c)
        refine lv_iload cx.x cx.b d_Mo_body_123 (lv_at hl 0 rfl) ?_
        rw [← hQ]
        exact hx_reti cx.x cx.b cx.r cx.k rfl hlo (fun _ h => h) (Nat.le_of_ble_eq_true rfl) (Nat.le_of_ble_eq_true rfl) d_Mo_body_125 (⟨(lsV_snoc U _).symm, g2, M2, kR, hD2, bf.cfr⟩)
      · obtain ⟨kR, kc, kp⟩ := kn cK
        rw [if_neg cK] at hQ r7
        obtain ⟨hk10, hkk⟩ := hkv false
        obtain ⟨hk7, hk8⟩ := hkk cK
        subst r7
        rw [← kc] at cK hk10 hk7 hk8 kp
        refine lv_aload_n cx.x cx.b d_Mo_body_89 rfl (lv_at hl 4 rfl) ?_
        refine gf_Mo_116_Mo cx M2.1.1 rfl d_Mo_body_90 ?_
        refine lv_if_eq (tgt := 123) cx.x cx.b d_Mo_body_93 (by decide) (fun c9 => ?_) (fun c9 => ?_)
        · have c9 : (g2.2 9) = 0 := (nI_eq (a := (g2.2 9)) (b := 0) (by omega) (by omega)).mp c9
          exact absurd c9 cK
        · have c9 : (g2.2 9) ≠ 0 := fun zz => c9 ((nI_eq (a := (g2.2 9)) (b := 0) (by omega) (by omega)).mpr zz)
          refine lv_aload_n cx.x cx.b d_Mo_body_96 rfl (lv_at hl 4 rfl) ?_
          refine lv_aload_n cx.x cx.b d_Mo_body_97 rfl (lv_at hl 4 rfl) ?_
          refine gf_Mo_116_Mo cx M2.1.1 rfl d_Mo_body_98 ?_
          refine lv_iload_n cx.x cx.b d_Mo_body_101 rfl (lv_at hl 6 rfl) ?_
          refine lv_aload_n cx.x cx.b d_Mo_body_102 rfl (lv_at hl 4 rfl) ?_
          refine gf_Mo_116_Mo cx M2.1.1 rfl d_Mo_body_103 ?_
          refine lv_bipush (v := 7) cx.x cx.b d_Mo_body_106 (by decide) ?_
          refine lv_icmp_ge (tgt := 118) cx.x cx.b d_Mo_body_108 (by decide) (fun c10 => ?_) (fun c10 => ?_)
          · have c10 : 7 ≤ (g2.2 9) := (nI_leI (a := 7) (b := (g2.2 9)) (by omega) (by omega)).mp c10
            have hf1 : g2.2 1 = g.2 1 := bf.2.2.2.1
            refine lv_iload cx.x cx.b d_Mo_body_118 (lv_at hl 2 rfl) ?_
            refine hx_callv (iv_Mo_169_Mo cx (c_Mo_tell l hE M2.1 (x := g2.2 9) (y := num) (z := (S1 - g.2 3 + 1)) (show g2.2 1 < 1000 by omega)) M2.1.1 rfl hl.1 rfl (Nat.le_of_ble_eq_true rfl) d_Mo_body_120 ⟨Nat.le_of_ble_eq_true rfl, Nat.le_of_ble_eq_true rfl⟩ ⟨Nat.le_of_ble_eq_true rfl, Nat.le_of_ble_eq_true rfl⟩) hlo (fun _ h => h) (fun H26 locs hp25 hlo => ?_)
            have q_M27 := hp25
            have M27 : Mw E H H26 a ad (up g2.1 1 (if (g2.2 1) < 20 then updN (updN (updN (g2.1 1) (3 * (g2.2 1)) (g2.2 9)) (3 * (g2.2 1) + 1) num) (3 * (g2.2 1) + 2) (S1 - g.2 3 + 1) else (g2.1 1)), up g2.2 1 ((g2.2 1) + 1)) := Mw.cg (M2.tr q_M27) rfl rfl rfl rfl rfl rfl rfl rfl rfl rfl rfl rfl rfl rfl rfl rfl rfl rfl rfl rfl rfl rfl rfl rfl rfl rfl
            have oM28 : hOb (eD E) classes H26 a 10 [.ref (ad 0), .int (nI (g2.2 0)), .ref (ad 1), .int (nI ((g2.2 1) + 1)), .int (nI (g2.2 2)), .ref (ad 2), .ref (ad 3), .ref (ad 4), .ref (ad 5), .ref (ad 6), .ref (ad 7), .ref (ad 8), .ref (ad 9), .ref (ad 10), .int (nI (g2.2 3)), .int (nI (g2.2 4)), .int (nI (g2.2 5)), .int (nI (g2.2 6)), .int (nI (g2.2 7)), .ref (ad 11), .int (nI (g2.2 8)), .int (nI (g2.2 9)), .int (nI (g2.2 10)), .ref (ad 12), .int (nI (g2.2 11)), .ref (ad 13)] := M27.1.1
            refine lv_iload cx.x cx.b d_Mo_body_123 (lv_at hl 0 rfl) ?_
            rw [← hQ]
            exact hx_reti cx.x cx.b cx.r cx.k rfl hlo (fun _ h => h) (Nat.le_of_ble_eq_true rfl) (Nat.le_of_ble_eq_true rfl) d_Mo_body_125 (⟨rfl, _, M27, kR, by rw [← kc, hk8 c10]; exact hD2.tell, ⟨⟨bf.1.1, bf.1.2.2⟩, bf.2.1, ⟨bf.2.2.1, bf.2.2.2.2.1, bf.2.2.2.2.2.1, bf.2.2.2.2.2.2.1, bf.2.2.2.2.2.2.2⟩⟩⟩)
          · have c10 : (g2.2 9) < 7 := Nat.not_le.mp (fun zz => c10 ((nI_leI (a := 7) (b := (g2.2 9)) (by omega) (by omega)).mpr zz))
            have hf1 : g2.2 1 = g.2 1 := bf.2.2.2.1
            refine lv_aload_n cx.x cx.b d_Mo_body_111 rfl (lv_at hl 4 rfl) ?_
            refine gf_Mo_122_Mo cx M2.1.1 rfl d_Mo_body_112 ?_
            refine lv_goto (tgt := 120) cx.x cx.b d_Mo_body_115 (by decide) ?_
            refine hx_callv (iv_Mo_169_Mo cx (c_Mo_tell l hE M2.1 (x := g2.2 9) (y := num) (z := (g2.2 10)) (show g2.2 1 < 1000 by omega)) M2.1.1 rfl hl.1 rfl (Nat.le_of_ble_eq_true rfl) d_Mo_body_120 ⟨Nat.le_of_ble_eq_true rfl, Nat.le_of_ble_eq_true rfl⟩ ⟨Nat.le_of_ble_eq_true rfl, Nat.le_of_ble_eq_true rfl⟩) hlo (fun _ h => h) (fun H22 locs hp21 hlo => ?_)
            have q_M23 := hp21
            have M23 : Mw E H H22 a ad (up g2.1 1 (if (g2.2 1) < 20 then updN (updN (updN (g2.1 1) (3 * (g2.2 1)) (g2.2 9)) (3 * (g2.2 1) + 1) num) (3 * (g2.2 1) + 2) (g2.2 10) else (g2.1 1)), up g2.2 1 ((g2.2 1) + 1)) := Mw.cg (M2.tr q_M23) rfl rfl rfl rfl rfl rfl rfl rfl rfl rfl rfl rfl rfl rfl rfl rfl rfl rfl rfl rfl rfl rfl rfl rfl rfl rfl
            have oM24 : hOb (eD E) classes H22 a 10 [.ref (ad 0), .int (nI (g2.2 0)), .ref (ad 1), .int (nI ((g2.2 1) + 1)), .int (nI (g2.2 2)), .ref (ad 2), .ref (ad 3), .ref (ad 4), .ref (ad 5), .ref (ad 6), .ref (ad 7), .ref (ad 8), .ref (ad 9), .ref (ad 10), .int (nI (g2.2 3)), .int (nI (g2.2 4)), .int (nI (g2.2 5)), .int (nI (g2.2 6)), .int (nI (g2.2 7)), .ref (ad 11), .int (nI (g2.2 8)), .int (nI (g2.2 9)), .int (nI (g2.2 10)), .ref (ad 12), .int (nI (g2.2 11)), .ref (ad 13)] := M23.1.1
            refine lv_iload cx.x cx.b d_Mo_body_123 (lv_at hl 0 rfl) ?_
            rw [← hQ]
            exact hx_reti cx.x cx.b cx.r cx.k rfl hlo (fun _ h => h) (Nat.le_of_ble_eq_true rfl) (Nat.le_of_ble_eq_true rfl) d_Mo_body_125 (⟨rfl, _, M23, kR, by rw [← kc, hk7 c10, ← kp c10]; exact hD2.tell, ⟨⟨bf.1.1, bf.1.2.2⟩, bf.2.1, ⟨bf.2.2.1, bf.2.2.2.2.1, bf.2.2.2.2.2.1, bf.2.2.2.2.2.2.1, bf.2.2.2.2.2.2.2⟩⟩⟩)
    · have c1 : 1 < ((S1 - (g.2 3)) + 1) := Nat.not_le.mp (fun zz => c1 ((nI_leI (a := ((S1 - (g.2 3)) + 1)) (b := 1) (by omega) (by omega)).mpr zz))
      have hd1 : decide (g.2 3 < S1) = true := decide_eq_true (by omega)
      unfold rdB at hQ
      rw [hd1, Bool.true_and] at hQ
      rcases brk with _ | _
      · rw [if_neg (show ¬ (false = true) by decide)] at hQ
        unfold rdC at hQ
        rcases List.eq_nil_or_concat U with eU | ⟨Ws, u, eU⟩
        · subst eU
          have hl : lv_has ls 8 [(5, .int (nI ((S1 - (g.2 3)) + 1))), (4, .int (bI true)), (0, .ref a), (1, .int (nI b1)), (2, .int (nI num)), (3, .int (-2))] := hl
          refine lv_iconst (v := 1) cx.x cx.b d_Mo_body_46 (by decide) ?_
          refine lv_goto (tgt := 51) cx.x cx.b d_Mo_body_47 (by decide) ?_
          refine lv_istore (lv' := [(6, .int 1), (5, .int (nI ((S1 - (g.2 3)) + 1))), (4, .int (bI true)), (0, .ref a), (1, .int (nI b1)), (2, .int (nI num)), (3, .int (-2))]) cx.x cx.b d_Mo_body_51 hl (by decide) rfl (fun ls hl => ?_)
          refine lv_iload cx.x cx.b d_Mo_body_53 (lv_at hl 0 rfl) ?_
          refine lv_if_eq (tgt := 65) cx.x cx.b d_Mo_body_55 (by decide) (fun c => absurd c (by decide)) (fun _ => ?_)
          refine lv_iload_n cx.x cx.b d_Mo_body_58 rfl (lv_at hl 6 rfl) ?_
          refine lv_iconst (v := (-1)) cx.x cx.b d_Mo_body_59 (by decide) ?_
          refine lv_icmp_ne (tgt := 65) cx.x cx.b d_Mo_body_60 (by decide) (fun _ => ?_) (fun c => absurd c (by decide))
          refine lv_iload_n cx.x cx.b d_Mo_body_65 rfl (lv_at hl 6 rfl) ?_
          refine lv_istore (lv' := [(7, .int (-2)), (6, .int 1), (5, .int (nI ((S1 - (g.2 3)) + 1))), (4, .int (bI true)), (0, .ref a), (1, .int (nI b1)), (2, .int (nI num)), (3, .int (-2))]) cx.x cx.b d_Mo_body_66 hl (by decide) rfl (fun ls hl => ?_)
          refine lv_iload cx.x cx.b d_Mo_body_68 (lv_at hl 1 rfl) ?_
          refine lv_if_eq (tgt := 82) cx.x cx.b d_Mo_body_70 (by decide) (fun c => absurd c (by decide)) (fun _ => ?_)
          refine lv_aload_n cx.x cx.b d_Mo_body_73 rfl (lv_at hl 4 rfl) ?_
          refine lv_iload_n cx.x cx.b d_Mo_body_74 rfl (lv_at hl 5 rfl) ?_
          refine lv_iload_n cx.x cx.b d_Mo_body_75 rfl (lv_at hl 7 rfl) ?_
          refine hx_callv (iv_Mo_186_Mo cx (c_Mo_memberLine0 l hE M16.1 hx hxc hxl (show g.2 3 = g.2 3 from rfl) hfe hen hfm haf hb1 hU) oM17 rfl hl.1 rfl (Nat.le_of_ble_eq_true rfl) d_Mo_body_76 ⟨Nat.le_of_ble_eq_true rfl, Nat.le_of_ble_eq_true rfl⟩ ⟨Nat.le_of_ble_eq_true rfl, Nat.le_of_ble_eq_true rfl⟩) hlo (fun _ h => h) (fun H30 locs hp29 hlo => ?_)
          obtain ⟨g2, q2, lq⟩ := hp29
          have M2 : Mw E H H30 a ad g2 := M16.tr q2
          have lq : LnQ (rdK true [] (rdW true (g.2 7) txt (g.2 4) (wdS (txt.take (g.2 4)) (g.2 3)) (wdE (txt.take (g.2 4)) (wdS (txt.take (g.2 4)) (g.2 3)))) (wdS (txt.take (g.2 4)) (g.2 3))) (rdW true (g.2 7) txt (g.2 4) (wdS (txt.take (g.2 4)) (g.2 3)) (wdE (txt.take (g.2 4)) (wdS (txt.take (g.2 4)) (g.2 3)))).2.1 b1 (g.2 3) g g2 [] (adM [] (rdW true (g.2 7) txt (g.2 4) (wdS (txt.take (g.2 4)) (g.2 3)) (wdE (txt.take (g.2 4)) (wdS (txt.take (g.2 4)) (g.2 3)))).2.2.2) := lq
          rw [h_S1] at lq
          obtain ⟨bf, ky, kn⟩ := lq
          have hD2 : DgR (g2.1 1) (g2.2 1) ds := by rw [bf.1.2.1, bf.2.2.2.1]; exact hD
          refine lv_goto (tgt := 89) cx.x cx.b d_Mo_body_79 (by decide) ?_
          by_cases cK : (rdK true [] (rdW true (g.2 7) txt (g.2 4) S1 (wdE (txt.take (g.2 4)) S1)) S1).1 = 0
          · obtain ⟨kR, kc⟩ := ky cK
            rw [if_pos cK] at hQ
            refine lv_aload_n cx.x cx.b d_Mo_body_89 rfl (lv_at hl 4 rfl) ?_
            refine gf_Mo_116_Mo cx M2.1.1 rfl d_Mo_body_90 ?_
            rw [kc]
            refine lv_if_eq (tgt := 123) cx.x cx.b d_Mo_body_93 (by decide) (fun _ => ?_) (fun c => absurd (by decide) c)
            refine lv_iload cx.x cx.b d_Mo_body_123 (lv_at hl 0 rfl) ?_
            rw [← hQ]
            exact hx_reti cx.x cx.b cx.r cx.k rfl hlo (fun _ h => h) (Nat.le_of_ble_eq_true rfl) (Nat.le_of_ble_eq_true rfl) d_Mo_body_125 (⟨rfl, g2, M2, kR, hD2, bf.cfr⟩)
          · obtain ⟨kR, kc, kp⟩ := kn cK
            rw [if_neg cK] at hQ
            obtain ⟨hk10, hkk⟩ := hkv true
            obtain ⟨hk7, hk8⟩ := hkk cK
            rw [← kc] at cK hk10 hk7 hk8 kp
            refine lv_aload_n cx.x cx.b d_Mo_body_89 rfl (lv_at hl 4 rfl) ?_
            refine gf_Mo_116_Mo cx M2.1.1 rfl d_Mo_body_90 ?_
            refine lv_if_eq (tgt := 123) cx.x cx.b d_Mo_body_93 (by decide) (fun c9 => ?_) (fun c9 => ?_)
            · have c9 : (g2.2 9) = 0 := (nI_eq (a := (g2.2 9)) (b := 0) (by omega) (by omega)).mp c9
              exact absurd c9 cK
            · have c9 : (g2.2 9) ≠ 0 := fun zz => c9 ((nI_eq (a := (g2.2 9)) (b := 0) (by omega) (by omega)).mpr zz)
              refine lv_aload_n cx.x cx.b d_Mo_body_96 rfl (lv_at hl 4 rfl) ?_
              refine lv_aload_n cx.x cx.b d_Mo_body_97 rfl (lv_at hl 4 rfl) ?_
              refine gf_Mo_116_Mo cx M2.1.1 rfl d_Mo_body_98 ?_
              refine lv_iload_n cx.x cx.b d_Mo_body_101 rfl (lv_at hl 6 rfl) ?_
              refine lv_aload_n cx.x cx.b d_Mo_body_102 rfl (lv_at hl 4 rfl) ?_
              refine gf_Mo_116_Mo cx M2.1.1 rfl d_Mo_body_103 ?_
              refine lv_bipush (v := 7) cx.x cx.b d_Mo_body_106 (by decide) ?_
              refine lv_icmp_ge (tgt := 118) cx.x cx.b d_Mo_body_108 (by decide) (fun c10 => ?_) (fun c10 => ?_)
              · have c10 : 7 ≤ (g2.2 9) := (nI_leI (a := 7) (b := (g2.2 9)) (by omega) (by omega)).mp c10
                have hf1 : g2.2 1 = g.2 1 := bf.2.2.2.1
                refine lv_iload cx.x cx.b d_Mo_body_118 (lv_at hl 2 rfl) ?_
                refine hx_callv (iv_Mo_169_Mo cx (c_Mo_tell l hE M2.1 (x := g2.2 9) (y := num) (z := (S1 - g.2 3 + 1)) (show g2.2 1 < 1000 by omega)) M2.1.1 rfl hl.1 rfl (Nat.le_of_ble_eq_true rfl) d_Mo_body_120 ⟨Nat.le_of_ble_eq_true rfl, Nat.le_of_ble_eq_true rfl⟩ ⟨Nat.le_of_ble_eq_true rfl, Nat.le_of_ble_eq_true rfl⟩) hlo (fun _ h => h) (fun H36 locs hp35 hlo => ?_)
                have q_M37 := hp35
                have M37 : Mw E H H36 a ad (up g2.1 1 (if (g2.2 1) < 20 then updN (updN (updN (g2.1 1) (3 * (g2.2 1)) (g2.2 9)) (3 * (g2.2 1) + 1) num) (3 * (g2.2 1) + 2) (S1 - g.2 3 + 1) else (g2.1 1)), up g2.2 1 ((g2.2 1) + 1)) := Mw.cg (M2.tr q_M37) rfl rfl rfl rfl rfl rfl rfl rfl rfl rfl rfl rfl rfl rfl rfl rfl rfl rfl rfl rfl rfl rfl rfl rfl rfl rfl
                have oM38 : hOb (eD E) classes H36 a 10 [.ref (ad 0), .int (nI (g2.2 0)), .ref (ad 1), .int (nI ((g2.2 1) + 1)), .int (nI (g2.2 2)), .ref (ad 2), .ref (ad 3), .ref (ad 4), .ref (ad 5), .ref (ad 6), .ref (ad 7), .ref (ad 8), .ref (ad 9), .ref (ad 10), .int (nI (g2.2 3)), .int (nI (g2.2 4)), .int (nI (g2.2 5)), .int (nI (g2.2 6)), .int (nI (g2.2 7)), .ref (ad 11), .int (nI (g2.2 8)), .int (nI (g2.2 9)), .int (nI (g2.2 10)), .ref (ad 12), .int (nI (g2.2 11)), .ref (ad 13)] := M37.1.1
                refine lv_iload cx.x cx.b d_Mo_body_123 (lv_at hl 0 rfl) ?_
                rw [← hQ]
                exact hx_reti cx.x cx.b cx.r cx.k rfl hlo (fun _ h => h) (Nat.le_of_ble_eq_true rfl) (Nat.le_of_ble_eq_true rfl) d_Mo_body_125 (⟨rfl, _, M37, kR, by rw [← kc, hk8 c10]; exact hD2.tell, ⟨⟨bf.1.1, bf.1.2.2⟩, bf.2.1, ⟨bf.2.2.1, bf.2.2.2.2.1, bf.2.2.2.2.2.1, bf.2.2.2.2.2.2.1, bf.2.2.2.2.2.2.2⟩⟩⟩)
              · have c10 : (g2.2 9) < 7 := Nat.not_le.mp (fun zz => c10 ((nI_leI (a := 7) (b := (g2.2 9)) (by omega) (by omega)).mpr zz))
                have hf1 : g2.2 1 = g.2 1 := bf.2.2.2.1
                refine lv_aload_n cx.x cx.b d_Mo_body_111 rfl (lv_at hl 4 rfl) ?_
                refine gf_Mo_122_Mo cx M2.1.1 rfl d_Mo_body_112 ?_
                refine lv_goto (tgt := 120) cx.x cx.b d_Mo_body_115 (by decide) ?_
                refine hx_callv (iv_Mo_169_Mo cx (c_Mo_tell l hE M2.1 (x := g2.2 9) (y := num) (z := (g2.2 10)) (show g2.2 1 < 1000 by omega)) M2.1.1 rfl hl.1 rfl (Nat.le_of_ble_eq_true rfl) d_Mo_body_120 ⟨Nat.le_of_ble_eq_true rfl, Nat.le_of_ble_eq_true rfl⟩ ⟨Nat.le_of_ble_eq_true rfl, Nat.le_of_ble_eq_true rfl⟩) hlo (fun _ h => h) (fun H32 locs hp31 hlo => ?_)
                have q_M33 := hp31
                have M33 : Mw E H H32 a ad (up g2.1 1 (if (g2.2 1) < 20 then updN (updN (updN (g2.1 1) (3 * (g2.2 1)) (g2.2 9)) (3 * (g2.2 1) + 1) num) (3 * (g2.2 1) + 2) (g2.2 10) else (g2.1 1)), up g2.2 1 ((g2.2 1) + 1)) := Mw.cg (M2.tr q_M33) rfl rfl rfl rfl rfl rfl rfl rfl rfl rfl rfl rfl rfl rfl rfl rfl rfl rfl rfl rfl rfl rfl rfl rfl rfl rfl
                have oM34 : hOb (eD E) classes H32 a 10 [.ref (ad 0), .int (nI (g2.2 0)), .ref (ad 1), .int (nI ((g2.2 1) + 1)), .int (nI (g2.2 2)), .ref (ad 2), .ref (ad 3), .ref (ad 4), .ref (ad 5), .ref (ad 6), .ref (ad 7), .ref (ad 8), .ref (ad 9), .ref (ad 10), .int (nI (g2.2 3)), .int (nI (g2.2 4)), .int (nI (g2.2 5)), .int (nI (g2.2 6)), .int (nI (g2.2 7)), .ref (ad 11), .int (nI (g2.2 8)), .int (nI (g2.2 9)), .int (nI (g2.2 10)), .ref (ad 12), .int (nI (g2.2 11)), .ref (ad 13)] := M33.1.1
                refine lv_iload cx.x cx.b d_Mo_body_123 (lv_at hl 0 rfl) ?_
                rw [← hQ]
                exact hx_reti cx.x cx.b cx.r cx.k rfl hlo (fun _ h => h) (Nat.le_of_ble_eq_true rfl) (Nat.le_of_ble_eq_true rfl) d_Mo_body_125 (⟨rfl, _, M33, kR, by rw [← kc, hk7 c10, ← kp c10]; exact hD2.tell, ⟨⟨bf.1.1, bf.1.2.2⟩, bf.2.1, ⟨bf.2.2.1, bf.2.2.2.2.1, bf.2.2.2.2.2.1, bf.2.2.2.2.2.2.1, bf.2.2.2.2.2.2.2⟩⟩⟩)
        · rw [List.concat_eq_append] at eU
          subst eU
          have hlW := hU.2.1
          rw [List.length_append, List.length_singleton] at hlW
          have hl : lv_has ls 8 [(5, .int (nI ((S1 - (g.2 3)) + 1))), (4, .int (bI true)), (0, .ref a), (1, .int (nI b1)), (2, .int (nI num)), (3, .int (nI Ws.length))] := by rw [← lsV_snoc Ws u]; exact hl
          refine lv_iconst (v := 1) cx.x cx.b d_Mo_body_46 (by decide) ?_
          refine lv_goto (tgt := 51) cx.x cx.b d_Mo_body_47 (by decide) ?_
          refine lv_istore (lv' := [(6, .int 1), (5, .int (nI ((S1 - (g.2 3)) + 1))), (4, .int (bI true)), (0, .ref a), (1, .int (nI b1)), (2, .int (nI num)), (3, .int (nI Ws.length))]) cx.x cx.b d_Mo_body_51 hl (by decide) rfl (fun ls hl => ?_)
          refine lv_iload cx.x cx.b d_Mo_body_53 (lv_at hl 0 rfl) ?_
          refine lv_if_eq (tgt := 65) cx.x cx.b d_Mo_body_55 (by decide) (fun c => absurd c (by decide)) (fun _ => ?_)
          refine lv_iload_n cx.x cx.b d_Mo_body_58 rfl (lv_at hl 6 rfl) ?_
          refine lv_iconst (v := (-1)) cx.x cx.b d_Mo_body_59 (by decide) ?_
          refine lv_icmp_ne (tgt := 65) cx.x cx.b d_Mo_body_60 (by decide) (fun _ => ?_) (fun c => absurd (congrArg Int32.toInt c) (by rw [nI_toInt (by omega)]; show ¬ ((Ws.length : Int) = -1); omega))
          refine lv_iload_n cx.x cx.b d_Mo_body_65 rfl (lv_at hl 6 rfl) ?_
          refine lv_istore (lv' := [(7, .int (nI Ws.length)), (6, .int 1), (5, .int (nI ((S1 - (g.2 3)) + 1))), (4, .int (bI true)), (0, .ref a), (1, .int (nI b1)), (2, .int (nI num)), (3, .int (nI Ws.length))]) cx.x cx.b d_Mo_body_66 hl (by decide) rfl (fun ls hl => ?_)
          refine lv_iload cx.x cx.b d_Mo_body_68 (lv_at hl 1 rfl) ?_
          refine lv_if_eq (tgt := 82) cx.x cx.b d_Mo_body_70 (by decide) (fun c => absurd c (by decide)) (fun _ => ?_)
          refine lv_aload_n cx.x cx.b d_Mo_body_73 rfl (lv_at hl 4 rfl) ?_
          refine lv_iload_n cx.x cx.b d_Mo_body_74 rfl (lv_at hl 5 rfl) ?_
          refine lv_iload_n cx.x cx.b d_Mo_body_75 rfl (lv_at hl 7 rfl) ?_
          refine hx_callv (iv_Mo_186_Mo cx (c_Mo_memberLine1 l hE M16.1 hx hxc hxl (show g.2 3 = g.2 3 from rfl) hfe hen hfm haf hb1 hU) oM17 rfl hl.1 rfl (Nat.le_of_ble_eq_true rfl) d_Mo_body_76 ⟨Nat.le_of_ble_eq_true rfl, Nat.le_of_ble_eq_true rfl⟩ ⟨Nat.le_of_ble_eq_true rfl, Nat.le_of_ble_eq_true rfl⟩) hlo (fun _ h => h) (fun H40 locs hp39 hlo => ?_)
          obtain ⟨g2, q2, lq⟩ := hp39
          have M2 : Mw E H H40 a ad g2 := M16.tr q2
          have lq : LnQ (rdK true (Ws ++ [u]) (rdW true (g.2 7) txt (g.2 4) (wdS (txt.take (g.2 4)) (g.2 3)) (wdE (txt.take (g.2 4)) (wdS (txt.take (g.2 4)) (g.2 3)))) (wdS (txt.take (g.2 4)) (g.2 3))) (rdW true (g.2 7) txt (g.2 4) (wdS (txt.take (g.2 4)) (g.2 3)) (wdE (txt.take (g.2 4)) (wdS (txt.take (g.2 4)) (g.2 3)))).2.1 b1 (g.2 3) g g2 (Ws ++ [u]) (adM (Ws ++ [u]) (rdW true (g.2 7) txt (g.2 4) (wdS (txt.take (g.2 4)) (g.2 3)) (wdE (txt.take (g.2 4)) (wdS (txt.take (g.2 4)) (g.2 3)))).2.2.2) := lq
          rw [h_S1] at lq
          obtain ⟨bf, ky, kn⟩ := lq
          have hD2 : DgR (g2.1 1) (g2.2 1) ds := by rw [bf.1.2.1, bf.2.2.2.1]; exact hD
          refine lv_goto (tgt := 89) cx.x cx.b d_Mo_body_79 (by decide) ?_
          by_cases cK : (rdK true (Ws ++ [u]) (rdW true (g.2 7) txt (g.2 4) S1 (wdE (txt.take (g.2 4)) S1)) S1).1 = 0
          · obtain ⟨kR, kc⟩ := ky cK
            rw [if_pos cK] at hQ
            refine lv_aload_n cx.x cx.b d_Mo_body_89 rfl (lv_at hl 4 rfl) ?_
            refine gf_Mo_116_Mo cx M2.1.1 rfl d_Mo_body_90 ?_
            rw [kc]
            refine lv_if_eq (tgt := 123) cx.x cx.b d_Mo_body_93 (by decide) (fun _ => ?_) (fun c => absurd (by decide) c)
            refine lv_iload cx.x cx.b d_Mo_body_123 (lv_at hl 0 rfl) ?_
            rw [← hQ]
            exact hx_reti cx.x cx.b cx.r cx.k rfl hlo (fun _ h => h) (Nat.le_of_ble_eq_true rfl) (Nat.le_of_ble_eq_true rfl) d_Mo_body_125 (⟨(show nI Ws.length = lsV (adM (Ws ++ [u]) _) by rw [adM_snoc, lsV_snoc]), g2, M2, kR, hD2, bf.cfr⟩)
          · obtain ⟨kR, kc, kp⟩ := kn cK
            rw [if_neg cK] at hQ
            obtain ⟨hk10, hkk⟩ := hkv true
            obtain ⟨hk7, hk8⟩ := hkk cK
            rw [← kc] at cK hk10 hk7 hk8 kp
            refine lv_aload_n cx.x cx.b d_Mo_body_89 rfl (lv_at hl 4 rfl) ?_
            refine gf_Mo_116_Mo cx M2.1.1 rfl d_Mo_body_90 ?_
            refine lv_if_eq (tgt := 123) cx.x cx.b d_Mo_body_93 (by decide) (fun c9 => ?_) (fun c9 => ?_)
            · have c9 : (g2.2 9) = 0 := (nI_eq (a := (g2.2 9)) (b := 0) (by omega) (by omega)).mp c9
              exact absurd c9 cK
            · have c9 : (g2.2 9) ≠ 0 := fun zz => c9 ((nI_eq (a := (g2.2 9)) (b := 0) (by omega) (by omega)).mpr zz)
              refine lv_aload_n cx.x cx.b d_Mo_body_96 rfl (lv_at hl 4 rfl) ?_
              refine lv_aload_n cx.x cx.b d_Mo_body_97 rfl (lv_at hl 4 rfl) ?_
              refine gf_Mo_116_Mo cx M2.1.1 rfl d_Mo_body_98 ?_
              refine lv_iload_n cx.x cx.b d_Mo_body_101 rfl (lv_at hl 6 rfl) ?_
              refine lv_aload_n cx.x cx.b d_Mo_body_102 rfl (lv_at hl 4 rfl) ?_
              refine gf_Mo_116_Mo cx M2.1.1 rfl d_Mo_body_103 ?_
              refine lv_bipush (v := 7) cx.x cx.b d_Mo_body_106 (by decide) ?_
              refine lv_icmp_ge (tgt := 118) cx.x cx.b d_Mo_body_108 (by decide) (fun c10 => ?_) (fun c10 => ?_)
              · have c10 : 7 ≤ (g2.2 9) := (nI_leI (a := 7) (b := (g2.2 9)) (by omega) (by omega)).mp c10
                have hf1 : g2.2 1 = g.2 1 := bf.2.2.2.1
                refine lv_iload cx.x cx.b d_Mo_body_118 (lv_at hl 2 rfl) ?_
                refine hx_callv (iv_Mo_169_Mo cx (c_Mo_tell l hE M2.1 (x := g2.2 9) (y := num) (z := (S1 - g.2 3 + 1)) (show g2.2 1 < 1000 by omega)) M2.1.1 rfl hl.1 rfl (Nat.le_of_ble_eq_true rfl) d_Mo_body_120 ⟨Nat.le_of_ble_eq_true rfl, Nat.le_of_ble_eq_true rfl⟩ ⟨Nat.le_of_ble_eq_true rfl, Nat.le_of_ble_eq_true rfl⟩) hlo (fun _ h => h) (fun H46 locs hp45 hlo => ?_)
                have q_M47 := hp45
                have M47 : Mw E H H46 a ad (up g2.1 1 (if (g2.2 1) < 20 then updN (updN (updN (g2.1 1) (3 * (g2.2 1)) (g2.2 9)) (3 * (g2.2 1) + 1) num) (3 * (g2.2 1) + 2) (S1 - g.2 3 + 1) else (g2.1 1)), up g2.2 1 ((g2.2 1) + 1)) := Mw.cg (M2.tr q_M47) rfl rfl rfl rfl rfl rfl rfl rfl rfl rfl rfl rfl rfl rfl rfl rfl rfl rfl rfl rfl rfl rfl rfl rfl rfl rfl
                have oM48 : hOb (eD E) classes H46 a 10 [.ref (ad 0), .int (nI (g2.2 0)), .ref (ad 1), .int (nI ((g2.2 1) + 1)), .int (nI (g2.2 2)), .ref (ad 2), .ref (ad 3), .ref (ad 4), .ref (ad 5), .ref (ad 6), .ref (ad 7), .ref (ad 8), .ref (ad 9), .ref (ad 10), .int (nI (g2.2 3)), .int (nI (g2.2 4)), .int (nI (g2.2 5)), .int (nI (g2.2 6)), .int (nI (g2.2 7)), .ref (ad 11), .int (nI (g2.2 8)), .int (nI (g2.2 9)), .int (nI (g2.2 10)), .ref (ad 12), .int (nI (g2.2 11)), .ref (ad 13)] := M47.1.1
                refine lv_iload cx.x cx.b d_Mo_body_123 (lv_at hl 0 rfl) ?_
                rw [← hQ]
                exact hx_reti cx.x cx.b cx.r cx.k rfl hlo (fun _ h => h) (Nat.le_of_ble_eq_true rfl) (Nat.le_of_ble_eq_true rfl) d_Mo_body_125 (⟨(lsV_snoc Ws u).symm, _, M47, kR, by rw [← kc, hk8 c10]; exact hD2.tell, ⟨⟨bf.1.1, bf.1.2.2⟩, bf.2.1, ⟨bf.2.2.1, bf.2.2.2.2.1, bf.2.2.2.2.2.1, bf.2.2.2.2.2.2.1, bf.2.2.2.2.2.2.2⟩⟩⟩)
              · have c10 : (g2.2 9) < 7 := Nat.not_le.mp (fun zz => c10 ((nI_leI (a := 7) (b := (g2.2 9)) (by omega) (by omega)).mpr zz))
                have hf1 : g2.2 1 = g.2 1 := bf.2.2.2.1
                refine lv_aload_n cx.x cx.b d_Mo_body_111 rfl (lv_at hl 4 rfl) ?_
                refine gf_Mo_122_Mo cx M2.1.1 rfl d_Mo_body_112 ?_
                refine lv_goto (tgt := 120) cx.x cx.b d_Mo_body_115 (by decide) ?_
                refine hx_callv (iv_Mo_169_Mo cx (c_Mo_tell l hE M2.1 (x := g2.2 9) (y := num) (z := (g2.2 10)) (show g2.2 1 < 1000 by omega)) M2.1.1 rfl hl.1 rfl (Nat.le_of_ble_eq_true rfl) d_Mo_body_120 ⟨Nat.le_of_ble_eq_true rfl, Nat.le_of_ble_eq_true rfl⟩ ⟨Nat.le_of_ble_eq_true rfl, Nat.le_of_ble_eq_true rfl⟩) hlo (fun _ h => h) (fun H42 locs hp41 hlo => ?_)
                have q_M43 := hp41
                have M43 : Mw E H H42 a ad (up g2.1 1 (if (g2.2 1) < 20 then updN (updN (updN (g2.1 1) (3 * (g2.2 1)) (g2.2 9)) (3 * (g2.2 1) + 1) num) (3 * (g2.2 1) + 2) (g2.2 10) else (g2.1 1)), up g2.2 1 ((g2.2 1) + 1)) := Mw.cg (M2.tr q_M43) rfl rfl rfl rfl rfl rfl rfl rfl rfl rfl rfl rfl rfl rfl rfl rfl rfl rfl rfl rfl rfl rfl rfl rfl rfl rfl
                have oM44 : hOb (eD E) classes H42 a 10 [.ref (ad 0), .int (nI (g2.2 0)), .ref (ad 1), .int (nI ((g2.2 1) + 1)), .int (nI (g2.2 2)), .ref (ad 2), .ref (ad 3), .ref (ad 4), .ref (ad 5), .ref (ad 6), .ref (ad 7), .ref (ad 8), .ref (ad 9), .ref (ad 10), .int (nI (g2.2 3)), .int (nI (g2.2 4)), .int (nI (g2.2 5)), .int (nI (g2.2 6)), .int (nI (g2.2 7)), .ref (ad 11), .int (nI (g2.2 8)), .int (nI (g2.2 9)), .int (nI (g2.2 10)), .ref (ad 12), .int (nI (g2.2 11)), .ref (ad 13)] := M43.1.1
                refine lv_iload cx.x cx.b d_Mo_body_123 (lv_at hl 0 rfl) ?_
                rw [← hQ]
                exact hx_reti cx.x cx.b cx.r cx.k rfl hlo (fun _ h => h) (Nat.le_of_ble_eq_true rfl) (Nat.le_of_ble_eq_true rfl) d_Mo_body_125 (⟨(lsV_snoc Ws u).symm, _, M43, kR, by rw [← kc, hk7 c10, ← kp c10]; exact hD2.tell, ⟨⟨bf.1.1, bf.1.2.2⟩, bf.2.1, ⟨bf.2.2.1, bf.2.2.2.2.1, bf.2.2.2.2.2.1, bf.2.2.2.2.2.2.1, bf.2.2.2.2.2.2.2⟩⟩⟩)
      · have hl : lv_has ls 8 [(5, .int (nI ((S1 - (g.2 3)) + 1))), (4, .int (bI true)), (0, .ref a), (1, .int (nI b1)), (2, .int (nI num)), (3, .int (-1))] := hl
        rw [if_pos rfl] at hQ
        refine lv_iconst (v := 1) cx.x cx.b d_Mo_body_46 (by decide) ?_
        refine lv_goto (tgt := 51) cx.x cx.b d_Mo_body_47 (by decide) ?_
        refine lv_istore (lv' := [(6, .int 1), (5, .int (nI ((S1 - (g.2 3)) + 1))), (4, .int (bI true)), (0, .ref a), (1, .int (nI b1)), (2, .int (nI num)), (3, .int (-1))]) cx.x cx.b d_Mo_body_51 hl (by decide) rfl (fun ls hl => ?_)
        refine lv_iload cx.x cx.b d_Mo_body_53 (lv_at hl 0 rfl) ?_
        refine lv_if_eq (tgt := 65) cx.x cx.b d_Mo_body_55 (by decide) (fun c => absurd c (by decide)) (fun _ => ?_)
        refine lv_iload_n cx.x cx.b d_Mo_body_58 rfl (lv_at hl 6 rfl) ?_
        refine lv_iconst (v := (-1)) cx.x cx.b d_Mo_body_59 (by decide) ?_
        refine lv_icmp_ne (tgt := 65) cx.x cx.b d_Mo_body_60 (by decide) (fun c => absurd (by decide) c) (fun _ => ?_)
        refine lv_iload_n cx.x cx.b d_Mo_body_63 rfl (lv_at hl 6 rfl) ?_
        rw [← hQ]
        exact hx_reti cx.x cx.b cx.r cx.k rfl hlo (fun _ h => h) (Nat.le_of_ble_eq_true rfl) (Nat.le_of_ble_eq_true rfl) d_Mo_body_64 (⟨rfl, _, M16, hU, hD, ⟨⟨rfl, rfl⟩, fun _ _ _ _ h => h, ⟨rfl, rfl, rfl, rfl, rfl⟩⟩⟩)
  · rw [if_neg c_S1] at M8
    rw [decide_eq_false c_S1] at rq_M8
    subst rq_M8
    have oM11 : hOb (eD E) classes H6 a 10 [.ref (ad 0), .int (nI (g.2 0)), .ref (ad 1), .int (nI (g.2 1)), .int (nI (g.2 2)), .ref (ad 2), .ref (ad 3), .ref (ad 4), .ref (ad 5), .ref (ad 6), .ref (ad 7), .ref (ad 8), .ref (ad 9), .ref (ad 10), .int (nI (g.2 3)), .int (nI (g.2 4)), .int (nI S1), .int (nI (g.2 3)), .int (nI (g.2 7)), .ref (ad 11), .int (nI (g.2 8)), .int (nI (g.2 9)), .int (nI (g.2 10)), .ref (ad 12), .int (nI (g.2 11)), .ref (ad 13)] := M8.1.1
    exact absurd hws c_S1
