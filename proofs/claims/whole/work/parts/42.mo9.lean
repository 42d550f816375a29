theorem trimE_no {txt : List Nat} {st : Nat} : ∀ {e : Nat}, e ≤ st → trimE txt st e = e
  | 0, _ => rfl
  | e + 1, h => by unfold trimE; rw [if_neg (fun z => by omega)]
theorem trimE_st {txt : List Nat} {st : Nat} : ∀ {e : Nat}, st < e → trimE txt st e = if txt.getD (e - 1) 0 = 32 then trimE txt st (e - 1) else e
  | 0, h => by omega
  | e + 1, h => by
    show (if st < e + 1 ∧ txt.getD e 0 = 32 then trimE txt st e else e + 1) = if txt.getD e 0 = 32 then trimE txt st e else e + 1
    by_cases c : txt.getD e 0 = 32
    · rw [if_pos c, if_pos ⟨h, c⟩]
    · rw [if_neg c, if_neg (fun z => c z.2)]
theorem trim_aft {txt : List Nat} {st j : Nat} (h : txt.getD j 0 ≠ 36) : ∀ {n : Nat}, n ≤ j → (∀ i, n ≤ i → i < j → txt.getD i 0 = 32) → txt.getD (trimE txt st n) 0 ≠ 36
  | 0, hn, ha => by
    show txt.getD 0 0 ≠ 36
    by_cases c : 0 = j
    · subst c; exact h
    · rw [ha 0 (Nat.le_refl _) (by omega)]; decide
  | n + 1, hn, ha => by
    unfold trimE
    by_cases c : st < n + 1 ∧ txt.getD n 0 = 32
    · rw [if_pos c]
      exact trim_aft h (by omega) (fun i h1 h2 => by
        by_cases e : i = n
        · rw [e]; exact c.2
        · exact ha i (by omega) h2)
    · rw [if_neg c]
      by_cases e : n + 1 = j
      · rw [e]; exact h
      · rw [ha (n + 1) (Nat.le_refl _) (by omega)]; decide
theorem nxl_36 {txt : List Nat} {i : Nat} (h : i ≤ txt.length) : txt.getD (nxl txt i) 0 ≠ 36 := by
  rcases nxl_at (txt.length - i) i rfl h with z | z
  · rw [z, getD_out (Nat.le_refl _)]; decide
  · rw [z.2]; decide
theorem rdL1_fmt {txt : List Nat} {num i en ws we : Nat} {s : RSt} (h : s.2.1 = false → s.1 = 2) : (rdL1 txt num i en ws we s).2.1 = false → (rdL1 txt num i en ws we s).1 = 2 := by
  unfold rdL1
  by_cases c : we ≤ ws ∨ txt.getD ws 0 = 33
  · rw [if_pos c]; exact h
  · rw [if_neg c]
    by_cases c2 : s.2.1 = true
    · rw [if_pos c2]
      have hb := rdB_fix (txt := txt) (num := num) (i := i) (en := en) (ws := ws) (we := we) (s := s)
      rw [hb.1, hb.2.1]; exact h
    · rw [if_neg c2]
      unfold rdL2
      cases (rdF txt en ws we).1 with
      | some f => intro z; cases z
      | none =>
        have hb := rdB_fix (txt := txt) (num := num) (i := i) (en := en) (ws := ws) (we := we) (s := (s.1, true, s.2.2.1, s.2.2.2.1, s.2.2.2.2 ++ [(1, num, ws - i + 1)]))
        intro z
        have z : (rdB txt num i en ws we (s.1, true, s.2.2.1, s.2.2.2.1, s.2.2.2.2 ++ [(1, num, ws - i + 1)])).2.1 = false := z
        rw [hb.2.1] at z; cases z
/-- what read leaves as it was -/
def Rfr (b : Nat) (g g2 : MS) : Prop := g2.1 0 = g.1 0 ∧ (∀ b2 U2, b2 < 2 → b2 ≠ b → Rows g.1 b2 U2 → Rows g2.1 b2 U2) ∧ (∀ b2, b2 ≠ b → g2.1 3 b2 = g.1 3 b2) ∧ g2.2 0 = g.2 0 ∧ g2.2 2 = g.2 2
theorem Rfr.tr {b : Nat} {g g2 g3 : MS} (h : Rfr b g g2) (k : Rfr b g2 g3) : Rfr b g g3 := ⟨k.1.trans h.1, fun b2 U2 h1 h2 h3 => k.2.1 b2 U2 h1 h2 (h.2.1 b2 U2 h1 h2 h3), fun b2 h2 => (k.2.2.1 b2 h2).trans (h.2.2.1 b2 h2), k.2.2.2.1.trans h.2.2.2.1, k.2.2.2.2.trans h.2.2.2.2⟩
theorem Cfr.rfr {b : Nat} {g g2 : MS} (h : Cfr b g g2) : Rfr b g g2 := ⟨h.1.1, h.2.1, fun b2 _ => by rw [h.1.2], h.2.2.1, h.2.2.2.1⟩
theorem FiQ.rfr {b num i ws : Nat} {g g2 : MS} {F : Option Nat} (h : FiQ b num i ws g g2 F) : Rfr b g g2 := ⟨h.1 0 (by omega) (by omega) (by omega), fun b2 U2 h1 h2 h3 => h3.fr (by rw [h.1 2 (by omega) (by omega) (by omega)]) (fun t _ => by rw [h.1 10 (by omega) (by omega) (by omega)]) (fun r _ _ => by
  refine ⟨?_, ?_, ?_, ?_, fun i _ => ⟨?_, ?_⟩⟩
  · rw [h.1 6 (by omega) (by omega) (by omega)]
  · rw [h.1 7 (by omega) (by omega) (by omega)]
  · rw [h.1 8 (by omega) (by omega) (by omega)]
  · rw [h.1 9 (by omega) (by omega) (by omega)]
  · rw [h.1 4 (by omega) (by omega) (by omega)]
  · rw [h.1 5 (by omega) (by omega) (by omega)]), h.2.2.2.2.1, h.2.1.1, h.2.1.2.1⟩
theorem FiQ.rows {b num i ws : Nat} {g g2 : MS} {F : Option Nat} (h : FiQ b num i ws g g2 F) {b2 : Nat} {U2 : List TU} (h3 : Rows g.1 b2 U2) : Rows g2.1 b2 U2 := h3.fr (by rw [h.1 2 (by omega) (by omega) (by omega)]) (fun t _ => by rw [h.1 10 (by omega) (by omega) (by omega)]) (fun r _ _ => by
  refine ⟨?_, ?_, ?_, ?_, fun i _ => ⟨?_, ?_⟩⟩
  · rw [h.1 6 (by omega) (by omega) (by omega)]
  · rw [h.1 7 (by omega) (by omega) (by omega)]
  · rw [h.1 8 (by omega) (by omega) (by omega)]
  · rw [h.1 9 (by omega) (by omega) (by omega)]
  · rw [h.1 4 (by omega) (by omega) (by omega)]
  · rw [h.1 5 (by omega) (by omega) (by omega)])
/-- the model while it reads: the lines' outcome so far -/
def RdS (b num : Nat) (g : MS) (s : RSt) : Prop := Rows g.1 b s.2.2.2.1 ∧ DgR (g.1 1) (g.2 1) s.2.2.2.2 ∧ g.1 3 b = s.1 ∧ (s.2.1 = true → g.2 7 = s.1) ∧ (s.1 = 1 ∨ s.1 = 2) ∧ (s.2.1 = false → s.1 = 2) ∧ s.2.2.2.2.length ≤ num + pastN s.2.1
set_option maxHeartbeats 4000000 in
set_option maxRecDepth 100000 in
theorem c_Mo_read (l : Launch) {E : hE} (hE : EnvOk E) {H : Heap} {a : Nat} {ad : Nat → Nat} {g : MS} (M : Mo E H a ad g) {txt : List Nat} (hx : Tx (g.1 0) txt) (hxc : ∀ x ∈ txt, okC x = true) (hxl : txt.length ≤ 480) (hsz : g.2 0 = txt.length) (hcr : g.2 2 = 0 ∨ g.2 2 = 1) {b : Nat} (hb : b < 2) : Ct l E y_Mo_read b_Mo_read 9 (some .int) (rmA 7 0 0) [.ref a, .int (nI b)] H (hQi (fun r H1 => r = nI (rdA txt).2.2.2.2.length ∧ ∃ g2 : MS, Mw E H H1 a ad g2 ∧ Rows g2.1 (if g.2 2 = 0 then b else 1 - b) (rdA txt).2.2.2.1 ∧ DgR (g2.1 1) (g2.2 1) (rdA txt).2.2.2.2 ∧ g2.1 3 (if g.2 2 = 0 then b else 1 - b) = (rdA txt).1 ∧ Rfr (if g.2 2 = 0 then b else 1 - b) g g2)) := by
  refine hx_enter hE (by decide) (Nat.le_of_ble_eq_true rfl) ?_
  intro p e s m args below meth c ls cx hnm hl
  have hl : lv_has ls 9 [(0, .ref a), (1, .int (nI b))] := hl
  have hlo : hLo (eB E) [] := hLo.nil
  generalize hQ : MQ below _ args s _ _ _ = Q
  have M0 : Mw E H H a ad g := ⟨M, hCh.rf, rfl⟩
  refine lv_iload_n cx.x cx.b d_Mo_read_0 rfl (lv_at hl 1 rfl) ?_
  refine hx_calli (iv_Mo_173 cx (c_Mo_none l hE (H := H) (nI b)) rfl hl.1 rfl (Nat.le_of_ble_eq_true rfl) d_Mo_read_1 ⟨Nat.le_of_ble_eq_true rfl, Nat.le_of_ble_eq_true rfl⟩ ⟨Nat.le_of_ble_eq_true rfl, Nat.le_of_ble_eq_true rfl⟩) hlo (fun _ h => h) (fun r3 H2 locs hp1 hlo => ?_)
  obtain ⟨hp1, hH9⟩ := hp1
  have hH9 := hH9.symm
  subst hH9
  rw [show decide (¬ (nI b = 0 ∨ nI b = 1)) = false from decide_eq_false (fun z => z (by rcases (show b = 0 ∨ b = 1 by omega) with e | e; rw [e]; exact Or.inl rfl; rw [e]; exact Or.inr rfl))] at hp1
  subst hp1
  refine lv_if_eq (tgt := 9) cx.x cx.b d_Mo_read_4 (by decide) (fun _ => ?_) (fun c => absurd (by decide) c)
  refine lv_aload_n cx.x cx.b d_Mo_read_9 rfl (lv_at hl 0 rfl) ?_
  refine lv_iload_n cx.x cx.b d_Mo_read_10 rfl (lv_at hl 1 rfl) ?_
  refine hx_calli (iv_Mo_176_Mo cx (c_Mo_side l hE M hcr hb) M0.1.1 rfl hl.1 rfl (Nat.le_of_ble_eq_true rfl) d_Mo_read_11 ⟨Nat.le_of_ble_eq_true rfl, Nat.le_of_ble_eq_true rfl⟩ ⟨Nat.le_of_ble_eq_true rfl, Nat.le_of_ble_eq_true rfl⟩) hlo (fun _ h => h) (fun r6 H5 locs hp4 hlo => ?_)
  obtain ⟨hp4, hH9⟩ := hp4
  have hH9 := hH9.symm
  subst hH9
  have hb1 : (if g.2 2 = 0 then b else 1 - b) < 2 := by by_cases c : (g.2 2) = 0; rw [if_pos c]; exact hb; rw [if_neg c]; omega
  generalize (if g.2 2 = 0 then b else 1 - b) = b1 at *
  subst hp4
  have hGA : rdLp txt (txt.length + 1 - 0) 0 0 0 (2, false, false, [], []) = rdA txt := rfl
  generalize rdA txt = GA at hQ hGA
  have LP : ∀ (k : Nat) (locs : List Loc) (num : Nat) (s9 : RSt) (g5 : MS) (H5 : Heap), hLo (eB E) locs → (txt.length + 1 - g5.2 3 < k) → (g5.2 3 ≤ txt.length + 1 ∧ num ≤ g5.2 3) → (Mw E H H5 a ad g5) → (RdS b1 num g5 s9) → (Rfr b1 g g5) → (rdLp txt (txt.length + 1 - g5.2 3) (g5.2 3) (g5.2 3) num s9 = GA) → ∀ ls, lv_has ls 9 [(5, .int (nI num)), (4, .int (lastV s9.2.2.1 s9.2.2.2.1)), (3, .int (bI s9.2.1)), (2, .int (nI b1)), (0, .ref a)] → W p l e (rmA 7 0 0) s m args below meth c H5 locs 0 0 Q (F0 m 48 ls []) := by
    intro k
    induction k with
    | zero => intro locs num s9 g5 H5 hlo hk hfr M5 hR hF hj; exact absurd hk (by omega)
    | succ k ih =>
      intro locs num s9 g5 H5 hlo hk hfr M5 hR hF hj ls hl
      have hs5 : g5.2 0 = txt.length := hF.2.2.2.1.trans hsz
      have hx : Tx (g5.1 0) txt := by rw [hF.1]; exact hx
      obtain ⟨r1, r2, r3, r4, r5, r6, r7⟩ := hR
      have hpn : pastN s9.2.1 ≤ 1 := by cases s9.2.1 <;> decide
      have hdn := r2.1
      refine lv_aload_n cx.x cx.b d_Mo_read_48 rfl (lv_at hl 4 rfl) ?_
      refine gf_Mo_119_Mo cx M5.1.1 rfl d_Mo_read_49 ?_
      refine lv_aload_n cx.x cx.b d_Mo_read_52 rfl (lv_at hl 4 rfl) ?_
      refine gf_Mo_52_Mo cx M5.1.1 rfl d_Mo_read_53 ?_
      rw [hs5]
      refine lv_icmp_ge (tgt := 243) cx.x cx.b d_Mo_read_56 (by decide) (fun c1 => ?_) (fun c1 => ?_)
      · have c1 : txt.length ≤ (g5.2 3) := (nI_leI (a := txt.length) (b := (g5.2 3)) (by omega) (by omega)).mp c1
        rw [rdLp_end c1 hfr.1] at hj
        subst hj
        refine lv_aload_n cx.x cx.b d_Mo_read_243 rfl (lv_at hl 4 rfl) ?_
        refine gf_Mo_113_Mo cx M5.1.1 rfl d_Mo_read_244 ?_
        rw [← hQ]
        exact hx_reti cx.x cx.b cx.r cx.k rfl hlo (fun _ h => h) (Nat.le_of_ble_eq_true rfl) (Nat.le_of_ble_eq_true rfl) d_Mo_read_247 (⟨congrArg nI r2.1, g5, M5, r1, r2, r3, hF⟩)
      · have c1 : (g5.2 3) < txt.length := Nat.not_le.mp (fun zz => c1 ((nI_leI (a := txt.length) (b := (g5.2 3)) (by omega) (by omega)).mpr zz))
        rw [rdLp_line (txt.length - g5.2 3) (g5.2 3) rfl (by omega)] at hj
        have hnx := nxl_le (txt := txt) (i := g5.2 3) (by omega)
        have h36 := nxl_36 (txt := txt) (i := g5.2 3) (by omega)
        generalize hNL : nxl txt (g5.2 3) = NL at hj hnx h36
        have NX : ∀ (locs : List Loc) (s6 : RSt) (g6 : MS) (H6 : Heap), hLo (eB E) locs → (Mw E H H6 a ad g6) → (RdS b1 (num + 1) g6 s6) → (Rfr b1 g g6) → (g6.2 3 = g5.2 3) → (rdLp txt (txt.length - NL) (NL + 1) (NL + 1) (num + 1) s6 = GA) → ∀ ls, lv_has ls 9 [(6, .int (nI NL)), (5, .int (nI (num + 1))), (4, .int (lastV s6.2.2.1 s6.2.2.2.1)), (3, .int (bI s6.2.1)), (2, .int (nI b1)), (0, .ref a)] → W p l e (rmA 7 0 0) s m args below meth c H6 locs 0 0 Q (F0 m 232 ls []) := by
          intro locs s6 g6 H6 hlo M6 hR6 hF6 h63 hj6 ls hl
          refine lv_aload_n cx.x cx.b d_Mo_read_232 rfl (lv_at hl 5 rfl) ?_
          refine lv_iload cx.x cx.b d_Mo_read_233 (lv_at hl 0 rfl) ?_
          refine lv_iconst (v := 1) cx.x cx.b d_Mo_read_235 (by decide) ?_
          refine lv_iadd cx.x cx.b d_Mo_read_236 ?_
          refine lv_topi (fun x7 e_x7 => ?_)
          have e_x7 : x7 = nI (NL + 1) := e_x7.trans (nI_add NL 1)
          subst e_x7
          refine pf_Mo_119_Mo cx M6.1.1 hlo M6.1.2.2.1 (Nat.le_of_ble_eq_true rfl) d_Mo_read_237 (fun H8 locs ho9 z_H8 o_H8 hlo => ?_)
          have ho9 : hOb (eD E) classes H8 a 10 [.ref (ad 0), .int (nI (g6.2 0)), .ref (ad 1), .int (nI (g6.2 1)), .int (nI (g6.2 2)), .ref (ad 2), .ref (ad 3), .ref (ad 4), .ref (ad 5), .ref (ad 6), .ref (ad 7), .ref (ad 8), .ref (ad 9), .ref (ad 10), .int (nI (NL + 1)), .int (nI (g6.2 4)), .int (nI (g6.2 5)), .int (nI (g6.2 6)), .int (nI (g6.2 7)), .ref (ad 11), .int (nI (g6.2 8)), .int (nI (g6.2 9)), .int (nI (g6.2 10)), .ref (ad 12), .int (nI (g6.2 11)), .ref (ad 13)] := ho9
          have M10 : Mw E H H8 a ad (g6.1, up g6.2 3 (NL + 1)) := M6.sc (g6.1, up g6.2 3 (NL + 1)) ho9 z_H8 o_H8 rfl
          have oM11 : hOb (eD E) classes H8 a 10 [.ref (ad 0), .int (nI (g6.2 0)), .ref (ad 1), .int (nI (g6.2 1)), .int (nI (g6.2 2)), .ref (ad 2), .ref (ad 3), .ref (ad 4), .ref (ad 5), .ref (ad 6), .ref (ad 7), .ref (ad 8), .ref (ad 9), .ref (ad 10), .int (nI (NL + 1)), .int (nI (g6.2 4)), .int (nI (g6.2 5)), .int (nI (g6.2 6)), .int (nI (g6.2 7)), .ref (ad 11), .int (nI (g6.2 8)), .int (nI (g6.2 9)), .int (nI (g6.2 10)), .ref (ad 12), .int (nI (g6.2 11)), .ref (ad 13)] := M10.1.1
          refine lv_goto (tgt := 48) cx.x cx.b d_Mo_read_240 (by decide) ?_
          exact ih _ (num + 1) s6 _ _ hlo (show txt.length + 1 - (NL + 1) < k by omega) ⟨show NL + 1 ≤ txt.length + 1 by omega, show num + 1 ≤ NL + 1 by omega⟩ M10 hR6 hF6 (show rdLp txt (txt.length + 1 - (NL + 1)) (NL + 1) (NL + 1) (num + 1) s6 = GA by rw [show txt.length + 1 - (NL + 1) = txt.length - NL by omega]; exact hj6) _ (lv_sub hl [1, 2, 3, 4, 5] rfl)
        have htr := trimE_le txt (g5.2 3) NL
        have h36t := trim_aft (st := g5.2 3) h36 (Nat.le_refl NL) (fun i h1 h2 => by omega)
        have hln : rdLn txt (num + 1) (g5.2 3) NL s9 = rdL1 txt (num + 1) (g5.2 3) (trimE txt (g5.2 3) NL) (wdS (txt.take (trimE txt (g5.2 3) NL)) (g5.2 3)) (wdE (txt.take (trimE txt (g5.2 3) NL)) (wdS (txt.take (trimE txt (g5.2 3) NL)) (g5.2 3))) s9 := rfl
        rw [hln] at hj
        generalize hEN : (trimE txt (g5.2 3) NL) = EN at hj htr h36t
        clear hln
        have WD : ∀ (locs : List Loc) (H6 : Heap), hLo (eB E) locs → (Mw E H H6 a ad (g5.1, up g5.2 4 EN)) → ∀ ls, lv_has ls 9 [(6, .int (nI NL)), (5, .int (nI (num + 1))), (4, .int (lastV s9.2.2.1 s9.2.2.2.1)), (3, .int (bI s9.2.1)), (2, .int (nI b1)), (0, .ref a)] → W p l e (rmA 7 0 0) s m args below meth c H6 locs 0 0 Q (F0 m 141 ls []) := by
          intro locs H6 hlo M6 ls hl
          have oM12 : hOb (eD E) classes H6 a 10 [.ref (ad 0), .int (nI (g5.2 0)), .ref (ad 1), .int (nI (g5.2 1)), .int (nI (g5.2 2)), .ref (ad 2), .ref (ad 3), .ref (ad 4), .ref (ad 5), .ref (ad 6), .ref (ad 7), .ref (ad 8), .ref (ad 9), .ref (ad 10), .int (nI (g5.2 3)), .int (nI EN), .int (nI (g5.2 5)), .int (nI (g5.2 6)), .int (nI (g5.2 7)), .ref (ad 11), .int (nI (g5.2 8)), .int (nI (g5.2 9)), .int (nI (g5.2 10)), .ref (ad 12), .int (nI (g5.2 11)), .ref (ad 13)] := M6.1.1
          have hen : EN ≤ txt.length := by omega
          have hT := len_take hen
          have hst := htr.2 (by omega)
          refine lv_aload_n cx.x cx.b d_Mo_read_141 rfl (lv_at hl 5 rfl) ?_
          refine lv_aload_n cx.x cx.b d_Mo_read_142 rfl (lv_at hl 5 rfl) ?_
          refine gf_Mo_119_Mo cx oM12 rfl d_Mo_read_143 ?_
          refine pf_Mo_62_Mo cx oM12 hlo M6.1.2.2.1 (Nat.le_of_ble_eq_true rfl) d_Mo_read_146 (fun H13 locs ho14 z_H13 o_H13 hlo => ?_)
          have ho14 : hOb (eD E) classes H13 a 10 [.ref (ad 0), .int (nI (g5.2 0)), .ref (ad 1), .int (nI (g5.2 1)), .int (nI (g5.2 2)), .ref (ad 2), .ref (ad 3), .ref (ad 4), .ref (ad 5), .ref (ad 6), .ref (ad 7), .ref (ad 8), .ref (ad 9), .ref (ad 10), .int (nI (g5.2 3)), .int (nI EN), .int (nI (g5.2 5)), .int (nI (g5.2 3)), .int (nI (g5.2 7)), .ref (ad 11), .int (nI (g5.2 8)), .int (nI (g5.2 9)), .int (nI (g5.2 10)), .ref (ad 12), .int (nI (g5.2 11)), .ref (ad 13)] := ho14
          have M15 : Mw E H H13 a ad (g5.1, up (up g5.2 4 EN) 6 (g5.2 3)) := M6.sc (g5.1, up (up g5.2 4 EN) 6 (g5.2 3)) ho14 z_H13 o_H13 rfl
          have oM16 : hOb (eD E) classes H13 a 10 [.ref (ad 0), .int (nI (g5.2 0)), .ref (ad 1), .int (nI (g5.2 1)), .int (nI (g5.2 2)), .ref (ad 2), .ref (ad 3), .ref (ad 4), .ref (ad 5), .ref (ad 6), .ref (ad 7), .ref (ad 8), .ref (ad 9), .ref (ad 10), .int (nI (g5.2 3)), .int (nI EN), .int (nI (g5.2 5)), .int (nI (g5.2 3)), .int (nI (g5.2 7)), .ref (ad 11), .int (nI (g5.2 8)), .int (nI (g5.2 9)), .int (nI (g5.2 10)), .ref (ad 12), .int (nI (g5.2 11)), .ref (ad 13)] := M15.1.1
          refine lv_aload_n cx.x cx.b d_Mo_read_149 rfl (lv_at hl 5 rfl) ?_
          refine hx_calli (iv_Mo_125_Mo cx (c_Mo_next l hE M15.1 hx hxc hxl (show g5.2 3 ≤ EN by omega) hen) oM16 rfl hl.1 rfl (Nat.le_of_ble_eq_true rfl) d_Mo_read_150 ⟨Nat.le_of_ble_eq_true rfl, Nat.le_of_ble_eq_true rfl⟩ ⟨Nat.le_of_ble_eq_true rfl, Nat.le_of_ble_eq_true rfl⟩) hlo (fun _ h => h) (fun r19 H18 locs hp17 hlo => ?_)
          obtain ⟨rq_M20, q_M20⟩ := hp17
          have rq_M20 : r19 = bI (decide (wdS (txt.take EN) (g5.2 3) < EN)) := rq_M20
          have M20 : Mw E H H18 a ad (g5.1, up (up (up g5.2 4 EN) 5 (wdS (txt.take EN) (g5.2 3))) 6 (if wdS (txt.take EN) (g5.2 3) < EN then wdE (txt.take EN) (wdS (txt.take EN) (g5.2 3)) else g5.2 3)) := Mw.cg (M15.tr q_M20) rfl rfl rfl rfl rfl rfl rfl rfl rfl rfl rfl rfl rfl rfl rfl rfl rfl rfl rfl rfl rfl rfl rfl rfl rfl rfl
          have oM21 : hOb (eD E) classes H18 a 10 [.ref (ad 0), .int (nI (g5.2 0)), .ref (ad 1), .int (nI (g5.2 1)), .int (nI (g5.2 2)), .ref (ad 2), .ref (ad 3), .ref (ad 4), .ref (ad 5), .ref (ad 6), .ref (ad 7), .ref (ad 8), .ref (ad 9), .ref (ad 10), .int (nI (g5.2 3)), .int (nI EN), .int (nI (wdS (txt.take EN) (g5.2 3))), .int (nI (if wdS (txt.take EN) (g5.2 3) < EN then wdE (txt.take EN) (wdS (txt.take EN) (g5.2 3)) else g5.2 3)), .int (nI (g5.2 7)), .ref (ad 11), .int (nI (g5.2 8)), .int (nI (g5.2 9)), .int (nI (g5.2 10)), .ref (ad 12), .int (nI (g5.2 11)), .ref (ad 13)] := M20.1.1
          have a_S1 := wdS_le (L := (txt.take EN)) (i := g5.2 3) (by omega)
          have n_S1 := wdS_not (i := g5.2 3) hen (EN - (g5.2 3)) rfl (by omega)
          have b_S1 := wdE_le (L := (txt.take EN)) (i := wdS (txt.take EN) (g5.2 3)) (by omega)
          generalize h_S1 : wdS (txt.take EN) (g5.2 3) = S1 at rq_M20 M20 a_S1 n_S1 b_S1 hj
          by_cases c_S1 : S1 < EN
          · rw [if_pos c_S1] at M20
            rw [decide_eq_true c_S1] at rq_M20
            subst rq_M20
            have oM22 : hOb (eD E) classes H18 a 10 [.ref (ad 0), .int (nI (g5.2 0)), .ref (ad 1), .int (nI (g5.2 1)), .int (nI (g5.2 2)), .ref (ad 2), .ref (ad 3), .ref (ad 4), .ref (ad 5), .ref (ad 6), .ref (ad 7), .ref (ad 8), .ref (ad 9), .ref (ad 10), .int (nI (g5.2 3)), .int (nI EN), .int (nI S1), .int (nI (wdE (txt.take EN) S1)), .int (nI (g5.2 7)), .ref (ad 11), .int (nI (g5.2 8)), .int (nI (g5.2 9)), .int (nI (g5.2 10)), .ref (ad 12), .int (nI (g5.2 11)), .ref (ad 13)] := M20.1.1
            refine lv_if_eq (tgt := 174) cx.x cx.b d_Mo_read_153 (by decide) (fun c => absurd c (by decide)) (fun _ => ?_)
            refine lv_aload_n cx.x cx.b d_Mo_read_156 rfl (lv_at hl 5 rfl) ?_
            refine gf_Mo_7_Mo cx oM22 rfl d_Mo_read_157 ?_
            refine lv_aload_n cx.x cx.b d_Mo_read_160 rfl (lv_at hl 5 rfl) ?_
            refine gf_Mo_68_Mo cx oM22 rfl d_Mo_read_161 ?_
            refine hx_iald cx.x cx.b cx.K 0 (M20.1.2.1 0 (by decide)) rfl (show vp_in (nI S1) 480 from vp_in_nI (show S1 < 480 by omega) (by decide)) d_Mo_read_164 ?_
            refine lv_topi (fun x24 e_x24 => ?_)
            have hb9 : txt.getD S1 0 < 128 := okC_lt (hxc _ (getD_mem (show S1 < txt.length by omega)))
            have e_x24 : x24 = nI (txt.getD S1 0) := e_x24.trans (congrArg nI ((congrArg (g5.1 0) (nI_clamp (n := S1) (by omega))).trans (hx S1 (by omega))))
            subst e_x24
            refine lv_bipush (v := 33) cx.x cx.b d_Mo_read_165 (by decide) ?_
            refine lv_icmp_eq (tgt := 174) cx.x cx.b d_Mo_read_167 (by decide) (fun c3 => ?_) (fun c3 => ?_)
            · have c3 : (txt.getD S1 0) = 33 := (nI_eq (a := (txt.getD S1 0)) (b := 33) (by omega) (by omega)).mp c3
              rw [show rdL1 txt (num + 1) (g5.2 3) EN S1 (wdE (txt.take EN) S1) s9 = s9 from if_pos (Or.inr c3)] at hj
              refine lv_iconst (v := 0) cx.x cx.b d_Mo_read_174 (by decide) ?_
              refine lv_istore (lv' := [(7, .int 0), (6, .int (nI NL)), (5, .int (nI (num + 1))), (4, .int (lastV s9.2.2.1 s9.2.2.2.1)), (3, .int (bI s9.2.1)), (2, .int (nI b1)), (0, .ref a)]) cx.x cx.b d_Mo_read_175 hl (by decide) rfl (fun ls hl => ?_)
              refine lv_iload cx.x cx.b d_Mo_read_177 (lv_at hl 0 rfl) ?_
              refine lv_if_eq (tgt := 201) cx.x cx.b d_Mo_read_179 (by decide) (fun _ => ?_) (fun c => absurd (by decide) c)
              refine lv_iconst (v := 0) cx.x cx.b d_Mo_read_201 (by decide) ?_
              refine lv_istore (lv' := [(8, .int 0), (7, .int 0), (6, .int (nI NL)), (5, .int (nI (num + 1))), (4, .int (lastV s9.2.2.1 s9.2.2.2.1)), (3, .int (bI s9.2.1)), (2, .int (nI b1)), (0, .ref a)]) cx.x cx.b d_Mo_read_202 hl (by decide) rfl (fun ls hl => ?_)
              refine lv_iload cx.x cx.b d_Mo_read_204 (lv_at hl 1 rfl) ?_
              refine lv_if_eq (tgt := 211) cx.x cx.b d_Mo_read_206 (by decide) (fun _ => ?_) (fun c => absurd (by decide) c)
              refine lv_iload cx.x cx.b d_Mo_read_211 (lv_at hl 1 rfl) ?_
              refine lv_if_eq (tgt := 232) cx.x cx.b d_Mo_read_213 (by decide) (fun _ => ?_) (fun c => absurd (by decide) c)
              exact NX _ s9 _ _ hlo M20 ⟨r1, r2, r3, r4, r5, r6, by omega⟩ (hF.tr ⟨rfl, fun _ _ _ _ h => h, fun _ _ => rfl, rfl, rfl⟩) rfl hj _ (lv_sub hl [2, 3, 4, 5, 6, 7] rfl)
            · have c3 : (txt.getD S1 0) ≠ 33 := fun zz => c3 ((nI_eq (a := (txt.getD S1 0)) (b := 33) (by omega) (by omega)).mpr zz)
              have hgt := wdE_gt hen c_S1 (n_S1 c_S1)
              have hnb : ¬ (wdE (txt.take EN) S1 ≤ S1 ∨ txt.getD S1 0 = 33) := fun z => by rcases z with z | z; omega; exact c3 z
              have hfm6 := rdL1_fmt (txt := txt) (num := num + 1) (i := g5.2 3) (en := EN) (ws := S1) (we := wdE (txt.take EN) S1) (s := s9) r6
              rw [show rdL1 txt (num + 1) (g5.2 3) EN S1 (wdE (txt.take EN) S1) s9 = (if s9.2.1 = true then rdB txt (num + 1) (g5.2 3) EN S1 (wdE (txt.take EN) S1) s9 else rdL2 txt (num + 1) (g5.2 3) EN S1 (wdE (txt.take EN) S1) s9 (rdF txt EN S1 (wdE (txt.take EN) S1)).1) from if_neg hnb] at hj hfm6
              obtain ⟨fm9, past, brk, U9, ds9⟩ := s9
              have hl : lv_has ls 9 [(6, .int (nI NL)), (5, .int (nI (num + 1))), (4, .int (lastV brk U9)), (3, .int (bI past)), (2, .int (nI b1)), (0, .ref a)] := hl
              rcases past with _ | _
              · have h2 : fm9 = 2 := r6 rfl
                subst h2
                rw [if_neg (show ¬ (false = true) by decide)] at hj hfm6
                have r7 : ds9.length ≤ num + 0 := r7
                refine lv_iconst (v := 1) cx.x cx.b d_Mo_read_170 (by decide) ?_
                refine lv_goto (tgt := 175) cx.x cx.b d_Mo_read_171 (by decide) ?_
                refine lv_istore (lv' := [(7, .int 1), (6, .int (nI NL)), (5, .int (nI (num + 1))), (4, .int (lastV brk U9)), (3, .int (bI false)), (2, .int (nI b1)), (0, .ref a)]) cx.x cx.b d_Mo_read_175 hl (by decide) rfl (fun ls hl => ?_)
                refine lv_iload cx.x cx.b d_Mo_read_177 (lv_at hl 0 rfl) ?_
                refine lv_if_eq (tgt := 201) cx.x cx.b d_Mo_read_179 (by decide) (fun c => absurd c (by decide)) (fun _ => ?_)
                refine lv_iload_n cx.x cx.b d_Mo_read_182 rfl (lv_at hl 4 rfl) ?_
                refine lv_if_ne (tgt := 201) cx.x cx.b d_Mo_read_183 (by decide) (fun c => absurd (by decide) c) (fun _ => ?_)
                refine lv_aload_n cx.x cx.b d_Mo_read_186 rfl (lv_at hl 6 rfl) ?_
                refine lv_iload_n cx.x cx.b d_Mo_read_187 rfl (lv_at hl 5 rfl) ?_
                refine lv_iload cx.x cx.b d_Mo_read_188 (lv_at hl 2 rfl) ?_
                refine hx_calli (iv_Mo_179_Mo cx (c_Mo_first l hE M20.1 (txt := txt) hx hxc hxl (show g5.2 3 ≤ EN by omega) hen (show (wdS (txt.take EN) (g5.2 3)) < EN by rw [h_S1]; exact c_S1) (b1 := b1) (num := num + 1) hb1 (show g5.2 1 < 1000 by omega)) oM22 rfl hl.1 rfl (Nat.le_of_ble_eq_true rfl) d_Mo_read_190 ⟨Nat.le_of_ble_eq_true rfl, Nat.le_of_ble_eq_true rfl⟩ ⟨Nat.le_of_ble_eq_true rfl, Nat.le_of_ble_eq_true rfl⟩) hlo (fun _ h => h) (fun r30 H29 locs hp28 hlo => ?_)
                obtain ⟨rF, g7, q7, fi⟩ := hp28
                have M7 : Mw E H H29 a ad g7 := M20.tr q7
                have rF : r30 = bI (rdF txt EN (wdS (txt.take EN) (g5.2 3)) (wdE (txt.take EN) (wdS (txt.take EN) (g5.2 3)))).1.isSome := rF
                have fi : FiQ b1 (num + 1) (g5.2 3) (wdS (txt.take EN) (g5.2 3)) (g5.1, up (up (up g5.2 4 EN) 5 S1) 6 (wdE (txt.take EN) S1)) g7 (rdF txt EN (wdS (txt.take EN) (g5.2 3)) (wdE (txt.take EN) (wdS (txt.take EN) (g5.2 3)))).1 := fi
                rw [h_S1] at rF fi
                have hff := rdF_fm txt EN S1 (wdE (txt.take EN) S1)
                generalize (rdF txt EN S1 (wdE (txt.take EN) S1)).1 = F9 at rF fi hj hfm6 hff
                rcases F9 with _ | f9
                · have rF : r30 = bI false := rF
                  subst rF
                  refine lv_iconst (v := 1) cx.x cx.b d_Mo_read_193 (by decide) ?_
                  refine lv_icmp_ne (tgt := 201) cx.x cx.b d_Mo_read_194 (by decide) (fun _ => ?_) (fun c => absurd c (by decide))
                  refine lv_iconst (v := 0) cx.x cx.b d_Mo_read_201 (by decide) ?_
                  refine lv_istore (lv' := [(8, .int 0), (7, .int 1), (6, .int (nI NL)), (5, .int (nI (num + 1))), (4, .int (lastV brk U9)), (3, .int (bI false)), (2, .int (nI b1)), (0, .ref a)]) cx.x cx.b d_Mo_read_202 hl (by decide) rfl (fun ls hl => ?_)
                  refine lv_iload cx.x cx.b d_Mo_read_204 (lv_at hl 1 rfl) ?_
                  refine lv_if_eq (tgt := 211) cx.x cx.b d_Mo_read_206 (by decide) (fun c => absurd c (by decide)) (fun _ => ?_)
                  refine lv_iconst (v := 1) cx.x cx.b d_Mo_read_209 (by decide) ?_
                  refine lv_istore_n (lv' := [(3, .int 1), (8, .int 0), (7, .int 1), (6, .int (nI NL)), (5, .int (nI (num + 1))), (4, .int (lastV brk U9)), (2, .int (nI b1)), (0, .ref a)]) cx.x cx.b d_Mo_read_210 rfl hl (by decide) rfl (fun ls hl => ?_)
                  refine lv_iload cx.x cx.b d_Mo_read_211 (lv_at hl 2 rfl) ?_
                  refine lv_if_eq (tgt := 232) cx.x cx.b d_Mo_read_213 (by decide) (fun c => absurd c (by decide)) (fun _ => ?_)
                  refine lv_iload cx.x cx.b d_Mo_read_216 (lv_at hl 1 rfl) ?_
                  refine lv_if_ne (tgt := 232) cx.x cx.b d_Mo_read_218 (by decide) (fun c => absurd (by decide) c) (fun _ => ?_)
                  refine lv_aload_n cx.x cx.b d_Mo_read_221 rfl (lv_at hl 7 rfl) ?_
                  refine lv_iload_n cx.x cx.b d_Mo_read_222 rfl (lv_at hl 6 rfl) ?_
                  refine lv_iload cx.x cx.b d_Mo_read_223 (lv_at hl 4 rfl) ?_
                  refine lv_iload cx.x cx.b d_Mo_read_225 (lv_at hl 5 rfl) ?_
                  have kd := fi.2.2.2.2.2 ds9 r2
                  rw [if_pos rfl] at kd
                  have e3 : g7.2 3 = g5.2 3 := fi.2.1.2.2.1
                  have e4 : g7.2 4 = EN := fi.2.1.2.2.2
                  have e7 : g7.2 7 = 2 := fi.2.2.1
                  have e0 : g7.1 0 = g5.1 0 := fi.1 0 (by omega) (by omega) (by omega)
                  refine hx_calli (iv_Mo_182_Mo cx (c_Mo_body l hE M7.1 (txt := txt) (by rw [e0]; exact hx) hxc hxl (by rw [e3, e4]; omega) (by rw [e4]; exact hen) (by rw [e4]; exact h36t) (Or.inr e7) (by rw [e3, e4, h_S1]; exact c_S1) (b1 := b1) (num := num + 1) (past := true) (brk := brk) (U := U9) (ds := (ds9 ++ [(1, num + 1, S1 - g5.2 3 + 1)])) hb1 (fi.rows r1) kd (by rw [List.length_append, List.length_singleton]; omega)) M7.1.1 rfl hl.1 rfl (Nat.le_of_ble_eq_true rfl) d_Mo_read_227 ⟨Nat.le_of_ble_eq_true rfl, Nat.le_of_ble_eq_true rfl⟩ ⟨Nat.le_of_ble_eq_true rfl, Nat.le_of_ble_eq_true rfl⟩) hlo (fun _ h => h) (fun r33 H32 locs hp31 hlo => ?_)
                  obtain ⟨rB, g8, q8, k1, k2, k3⟩ := hp31
                  have M8 : Mw E H H32 a ad g8 := M7.tr q8
                  rw [e3, e4, h_S1, e7] at rB k1 k2
                  subst rB
                  refine lv_istore (lv' := [(4, .int (lastV (rdB txt (num + 1) (g5.2 3) EN S1 (wdE (txt.take EN) S1) (2, true, brk, U9, (ds9 ++ [(1, num + 1, S1 - g5.2 3 + 1)]))).2.2.1 (rdB txt (num + 1) (g5.2 3) EN S1 (wdE (txt.take EN) S1) (2, true, brk, U9, (ds9 ++ [(1, num + 1, S1 - g5.2 3 + 1)]))).2.2.2.1)), (3, .int 1), (8, .int 0), (7, .int 1), (6, .int (nI NL)), (5, .int (nI (num + 1))), (2, .int (nI b1)), (0, .ref a)]) cx.x cx.b d_Mo_read_230 hl (by decide) rfl (fun ls hl => ?_)
                  have e21 : (rdB txt (num + 1) (g5.2 3) EN S1 (wdE (txt.take EN) S1) (2, true, brk, U9, (ds9 ++ [(1, num + 1, S1 - g5.2 3 + 1)]))).2.1 = true := rdB_fix.2.1
                  have e1x : (rdB txt (num + 1) (g5.2 3) EN S1 (wdE (txt.take EN) S1) (2, true, brk, U9, (ds9 ++ [(1, num + 1, S1 - g5.2 3 + 1)]))).1 = 2 := rdB_fix.1
                  have hl2 : lv_has ls 9 [(6, .int (nI NL)), (5, .int (nI (num + 1))), (4, .int (lastV (rdB txt (num + 1) (g5.2 3) EN S1 (wdE (txt.take EN) S1) (2, true, brk, U9, (ds9 ++ [(1, num + 1, S1 - g5.2 3 + 1)]))).2.2.1 (rdB txt (num + 1) (g5.2 3) EN S1 (wdE (txt.take EN) S1) (2, true, brk, U9, (ds9 ++ [(1, num + 1, S1 - g5.2 3 + 1)]))).2.2.2.1)), (3, .int (bI (rdB txt (num + 1) (g5.2 3) EN S1 (wdE (txt.take EN) S1) (2, true, brk, U9, (ds9 ++ [(1, num + 1, S1 - g5.2 3 + 1)]))).2.1)), (2, .int (nI b1)), (0, .ref a)] := by rw [e21]; exact lv_sub hl [4, 5, 0, 1, 6, 7] rfl
                  exact NX _ (rdB txt (num + 1) (g5.2 3) EN S1 (wdE (txt.take EN) S1) (2, true, brk, U9, (ds9 ++ [(1, num + 1, S1 - g5.2 3 + 1)]))) g8 _ hlo M8 ⟨k1, k2, ((congrFun k3.1.2 b1).trans fi.2.2.2.1).trans e1x.symm, fun _ => (k3.2.2.2.2.2.2.trans e7).trans e1x.symm, by rw [e1x]; exact Or.inr rfl, hfm6, by rw [e21]; exact Nat.le_trans rdB_fix.2.2 (show (ds9 ++ [(1, num + 1, S1 - g5.2 3 + 1)]).length + 1 ≤ num + 1 + 1 by rw [List.length_append, List.length_singleton]; omega)⟩ (((hF.tr ⟨rfl, fun _ _ _ _ h => h, fun _ _ => rfl, rfl, rfl⟩).tr fi.rfr).tr k3.rfr) (k3.2.2.2.2.1.trans e3) hj _ hl2
                · have rF : r30 = bI true := rF
                  subst rF
                  refine lv_iconst (v := 1) cx.x cx.b d_Mo_read_193 (by decide) ?_
                  refine lv_icmp_ne (tgt := 201) cx.x cx.b d_Mo_read_194 (by decide) (fun c => absurd (by decide) c) (fun _ => ?_)
                  refine lv_iconst (v := 1) cx.x cx.b d_Mo_read_197 (by decide) ?_
                  refine lv_goto (tgt := 202) cx.x cx.b d_Mo_read_198 (by decide) ?_
                  refine lv_istore (lv' := [(8, .int 1), (7, .int 1), (6, .int (nI NL)), (5, .int (nI (num + 1))), (4, .int (lastV brk U9)), (3, .int (bI false)), (2, .int (nI b1)), (0, .ref a)]) cx.x cx.b d_Mo_read_202 hl (by decide) rfl (fun ls hl => ?_)
                  refine lv_iload cx.x cx.b d_Mo_read_204 (lv_at hl 1 rfl) ?_
                  refine lv_if_eq (tgt := 211) cx.x cx.b d_Mo_read_206 (by decide) (fun c => absurd c (by decide)) (fun _ => ?_)
                  refine lv_iconst (v := 1) cx.x cx.b d_Mo_read_209 (by decide) ?_
                  refine lv_istore_n (lv' := [(3, .int 1), (8, .int 1), (7, .int 1), (6, .int (nI NL)), (5, .int (nI (num + 1))), (4, .int (lastV brk U9)), (2, .int (nI b1)), (0, .ref a)]) cx.x cx.b d_Mo_read_210 rfl hl (by decide) rfl (fun ls hl => ?_)
                  refine lv_iload cx.x cx.b d_Mo_read_211 (lv_at hl 2 rfl) ?_
                  refine lv_if_eq (tgt := 232) cx.x cx.b d_Mo_read_213 (by decide) (fun c => absurd c (by decide)) (fun _ => ?_)
                  refine lv_iload cx.x cx.b d_Mo_read_216 (lv_at hl 1 rfl) ?_
                  refine lv_if_ne (tgt := 232) cx.x cx.b d_Mo_read_218 (by decide) (fun _ => ?_) (fun c => absurd c (by decide))
                  have hff : f9 = 1 ∨ f9 = 2 := by rcases hff with e | e | e <;> cases e; exact Or.inl rfl; exact Or.inr rfl
                  have kd := fi.2.2.2.2.2 ds9 r2
                  rw [if_neg (by simp)] at kd
                  exact NX _ (f9, true, brk, U9, ds9) g7 _ hlo M7 ⟨fi.rows r1, kd, fi.2.2.2.1, fun _ => fi.2.2.1, hff, (fun z => by cases z), show ds9.length ≤ num + 1 + 1 by omega⟩ ((hF.tr ⟨rfl, fun _ _ _ _ h => h, fun _ _ => rfl, rfl, rfl⟩).tr fi.rfr) fi.2.1.2.2.1 hj _ (lv_sub hl [3, 4, 5, 0, 6, 7] rfl)
              · have hg7 : g5.2 7 = fm9 := r4 rfl
                subst hg7
                rw [if_pos rfl] at hj hfm6
                refine lv_iconst (v := 1) cx.x cx.b d_Mo_read_170 (by decide) ?_
                refine lv_goto (tgt := 175) cx.x cx.b d_Mo_read_171 (by decide) ?_
                refine lv_istore (lv' := [(7, .int 1), (6, .int (nI NL)), (5, .int (nI (num + 1))), (4, .int (lastV brk U9)), (3, .int (bI true)), (2, .int (nI b1)), (0, .ref a)]) cx.x cx.b d_Mo_read_175 hl (by decide) rfl (fun ls hl => ?_)
                refine lv_iload cx.x cx.b d_Mo_read_177 (lv_at hl 0 rfl) ?_
                refine lv_if_eq (tgt := 201) cx.x cx.b d_Mo_read_179 (by decide) (fun c => absurd c (by decide)) (fun _ => ?_)
                refine lv_iload_n cx.x cx.b d_Mo_read_182 rfl (lv_at hl 4 rfl) ?_
                refine lv_if_ne (tgt := 201) cx.x cx.b d_Mo_read_183 (by decide) (fun _ => ?_) (fun c => absurd c (by decide))
                refine lv_iconst (v := 0) cx.x cx.b d_Mo_read_201 (by decide) ?_
                refine lv_istore (lv' := [(8, .int 0), (7, .int 1), (6, .int (nI NL)), (5, .int (nI (num + 1))), (4, .int (lastV brk U9)), (3, .int (bI true)), (2, .int (nI b1)), (0, .ref a)]) cx.x cx.b d_Mo_read_202 hl (by decide) rfl (fun ls hl => ?_)
                refine lv_iload cx.x cx.b d_Mo_read_204 (lv_at hl 1 rfl) ?_
                refine lv_if_eq (tgt := 211) cx.x cx.b d_Mo_read_206 (by decide) (fun c => absurd c (by decide)) (fun _ => ?_)
                refine lv_iconst (v := 1) cx.x cx.b d_Mo_read_209 (by decide) ?_
                refine lv_istore_n (lv' := [(3, .int 1), (8, .int 0), (7, .int 1), (6, .int (nI NL)), (5, .int (nI (num + 1))), (4, .int (lastV brk U9)), (2, .int (nI b1)), (0, .ref a)]) cx.x cx.b d_Mo_read_210 rfl hl (by decide) rfl (fun ls hl => ?_)
                refine lv_iload cx.x cx.b d_Mo_read_211 (lv_at hl 2 rfl) ?_
                refine lv_if_eq (tgt := 232) cx.x cx.b d_Mo_read_213 (by decide) (fun c => absurd c (by decide)) (fun _ => ?_)
                refine lv_iload cx.x cx.b d_Mo_read_216 (lv_at hl 1 rfl) ?_
                refine lv_if_ne (tgt := 232) cx.x cx.b d_Mo_read_218 (by decide) (fun c => absurd (by decide) c) (fun _ => ?_)
                refine lv_aload_n cx.x cx.b d_Mo_read_221 rfl (lv_at hl 7 rfl) ?_
                refine lv_iload_n cx.x cx.b d_Mo_read_222 rfl (lv_at hl 6 rfl) ?_
                refine lv_iload cx.x cx.b d_Mo_read_223 (lv_at hl 4 rfl) ?_
                refine lv_iload cx.x cx.b d_Mo_read_225 (lv_at hl 5 rfl) ?_
                have r7 : ds9.length ≤ num + 1 := r7
                refine hx_calli (iv_Mo_182_Mo cx (c_Mo_body l hE M20.1 (txt := txt) hx hxc hxl (show g5.2 3 ≤ EN by omega) hen h36t r5 (show (wdS (txt.take EN) (g5.2 3)) < EN by rw [h_S1]; exact c_S1) (b1 := b1) (num := num + 1) (past := true) (brk := brk) (U := U9) (ds := ds9) hb1 r1 r2 (by omega)) oM22 rfl hl.1 rfl (Nat.le_of_ble_eq_true rfl) d_Mo_read_227 ⟨Nat.le_of_ble_eq_true rfl, Nat.le_of_ble_eq_true rfl⟩ ⟨Nat.le_of_ble_eq_true rfl, Nat.le_of_ble_eq_true rfl⟩) hlo (fun _ h => h) (fun r27 H26 locs hp25 hlo => ?_)
                obtain ⟨rB, g8, q8, k1, k2, k3⟩ := hp25
                have M8 : Mw E H H26 a ad g8 := M20.tr q8
                have rB : r27 = lastV (rdB txt (num + 1) (g5.2 3) EN (wdS (txt.take EN) (g5.2 3)) (wdE (txt.take EN) (wdS (txt.take EN) (g5.2 3))) (g5.2 7, true, brk, U9, ds9)).2.2.1 (rdB txt (num + 1) (g5.2 3) EN (wdS (txt.take EN) (g5.2 3)) (wdE (txt.take EN) (wdS (txt.take EN) (g5.2 3))) (g5.2 7, true, brk, U9, ds9)).2.2.2.1 := rB
                have k1 : Rows g8.1 b1 (rdB txt (num + 1) (g5.2 3) EN (wdS (txt.take EN) (g5.2 3)) (wdE (txt.take EN) (wdS (txt.take EN) (g5.2 3))) (g5.2 7, true, brk, U9, ds9)).2.2.2.1 := k1
                have k2 : DgR (g8.1 1) (g8.2 1) (rdB txt (num + 1) (g5.2 3) EN (wdS (txt.take EN) (g5.2 3)) (wdE (txt.take EN) (wdS (txt.take EN) (g5.2 3))) (g5.2 7, true, brk, U9, ds9)).2.2.2.2 := k2
                rw [h_S1] at rB k1 k2
                subst rB
                refine lv_istore (lv' := [(4, .int (lastV (rdB txt (num + 1) (g5.2 3) EN S1 (wdE (txt.take EN) S1) (g5.2 7, true, brk, U9, ds9)).2.2.1 (rdB txt (num + 1) (g5.2 3) EN S1 (wdE (txt.take EN) S1) (g5.2 7, true, brk, U9, ds9)).2.2.2.1)), (3, .int 1), (8, .int 0), (7, .int 1), (6, .int (nI NL)), (5, .int (nI (num + 1))), (2, .int (nI b1)), (0, .ref a)]) cx.x cx.b d_Mo_read_230 hl (by decide) rfl (fun ls hl => ?_)
                have e21 : (rdB txt (num + 1) (g5.2 3) EN S1 (wdE (txt.take EN) S1) (g5.2 7, true, brk, U9, ds9)).2.1 = true := rdB_fix.2.1
                have e1x : (rdB txt (num + 1) (g5.2 3) EN S1 (wdE (txt.take EN) S1) (g5.2 7, true, brk, U9, ds9)).1 = g5.2 7 := rdB_fix.1
                have hl2 : lv_has ls 9 [(6, .int (nI NL)), (5, .int (nI (num + 1))), (4, .int (lastV (rdB txt (num + 1) (g5.2 3) EN S1 (wdE (txt.take EN) S1) (g5.2 7, true, brk, U9, ds9)).2.2.1 (rdB txt (num + 1) (g5.2 3) EN S1 (wdE (txt.take EN) S1) (g5.2 7, true, brk, U9, ds9)).2.2.2.1)), (3, .int (bI (rdB txt (num + 1) (g5.2 3) EN S1 (wdE (txt.take EN) S1) (g5.2 7, true, brk, U9, ds9)).2.1)), (2, .int (nI b1)), (0, .ref a)] := by rw [e21]; exact lv_sub hl [4, 5, 0, 1, 6, 7] rfl
                exact NX _ (rdB txt (num + 1) (g5.2 3) EN S1 (wdE (txt.take EN) S1) (g5.2 7, true, brk, U9, ds9)) g8 _ hlo M8 ⟨k1, k2, ((congrFun k3.1.2 b1).trans r3).trans e1x.symm, fun _ => (show g8.2 7 = g5.2 7 from k3.2.2.2.2.2.2).trans e1x.symm, by rw [e1x]; exact r5, hfm6, by rw [e21]; exact Nat.le_trans rdB_fix.2.2 (show ds9.length + 1 ≤ num + 1 + 1 by omega)⟩ ((hF.tr ⟨rfl, fun _ _ _ _ h => h, fun _ _ => rfl, rfl, rfl⟩).tr k3.rfr) (k3.2.2.2.2.1) hj _ hl2
          · rw [if_neg c_S1] at M20
            rw [decide_eq_false c_S1] at rq_M20
            subst rq_M20
            have oM23 : hOb (eD E) classes H18 a 10 [.ref (ad 0), .int (nI (g5.2 0)), .ref (ad 1), .int (nI (g5.2 1)), .int (nI (g5.2 2)), .ref (ad 2), .ref (ad 3), .ref (ad 4), .ref (ad 5), .ref (ad 6), .ref (ad 7), .ref (ad 8), .ref (ad 9), .ref (ad 10), .int (nI (g5.2 3)), .int (nI EN), .int (nI S1), .int (nI (g5.2 3)), .int (nI (g5.2 7)), .ref (ad 11), .int (nI (g5.2 8)), .int (nI (g5.2 9)), .int (nI (g5.2 10)), .ref (ad 12), .int (nI (g5.2 11)), .ref (ad 13)] := M20.1.1
            refine lv_if_eq (tgt := 174) cx.x cx.b d_Mo_read_153 (by decide) (fun _ => ?_) (fun c => absurd (by decide) c)
            rw [show rdL1 txt (num + 1) (g5.2 3) EN S1 (wdE (txt.take EN) S1) s9 = s9 from if_pos (Or.inl (by rw [wdE_end (show (txt.take EN).length ≤ S1 by omega)]; exact Nat.le_refl _))] at hj
            refine lv_iconst (v := 0) cx.x cx.b d_Mo_read_174 (by decide) ?_
            refine lv_istore (lv' := [(7, .int 0), (6, .int (nI NL)), (5, .int (nI (num + 1))), (4, .int (lastV s9.2.2.1 s9.2.2.2.1)), (3, .int (bI s9.2.1)), (2, .int (nI b1)), (0, .ref a)]) cx.x cx.b d_Mo_read_175 hl (by decide) rfl (fun ls hl => ?_)
            refine lv_iload cx.x cx.b d_Mo_read_177 (lv_at hl 0 rfl) ?_
            refine lv_if_eq (tgt := 201) cx.x cx.b d_Mo_read_179 (by decide) (fun _ => ?_) (fun c => absurd (by decide) c)
            refine lv_iconst (v := 0) cx.x cx.b d_Mo_read_201 (by decide) ?_
            refine lv_istore (lv' := [(8, .int 0), (7, .int 0), (6, .int (nI NL)), (5, .int (nI (num + 1))), (4, .int (lastV s9.2.2.1 s9.2.2.2.1)), (3, .int (bI s9.2.1)), (2, .int (nI b1)), (0, .ref a)]) cx.x cx.b d_Mo_read_202 hl (by decide) rfl (fun ls hl => ?_)
            refine lv_iload cx.x cx.b d_Mo_read_204 (lv_at hl 1 rfl) ?_
            refine lv_if_eq (tgt := 211) cx.x cx.b d_Mo_read_206 (by decide) (fun _ => ?_) (fun c => absurd (by decide) c)
            refine lv_iload cx.x cx.b d_Mo_read_211 (lv_at hl 1 rfl) ?_
            refine lv_if_eq (tgt := 232) cx.x cx.b d_Mo_read_213 (by decide) (fun _ => ?_) (fun c => absurd (by decide) c)
            exact NX _ s9 _ _ hlo M20 ⟨r1, r2, r3, r4, r5, r6, by omega⟩ (hF.tr ⟨rfl, fun _ _ _ _ h => h, fun _ _ => rfl, rfl, rfl⟩) rfl hj _ (lv_sub hl [2, 3, 4, 5, 6, 7] rfl)
        have TR : ∀ (k : Nat) (locs : List Loc) (e1 : Nat) (H6 : Heap), hLo (eB E) locs → (e1 < k) → (e1 ≤ NL) → (Mw E H H6 a ad (g5.1, up g5.2 4 e1)) → (trimE txt (g5.2 3) e1 = EN) → ∀ ls, lv_has ls 9 [(6, .int (nI NL)), (5, .int (nI (num + 1))), (4, .int (lastV s9.2.2.1 s9.2.2.2.1)), (3, .int (bI s9.2.1)), (2, .int (nI b1)), (0, .ref a)] → W p l e (rmA 7 0 0) s m args below meth c H6 locs 0 0 Q (F0 m 101 ls []) := by
          intro k
          induction k with
          | zero => intro locs e1 H6 hlo hk2 he1 M6 ht; exact absurd hk2 (by omega)
          | succ k ih =>
            intro locs e1 H6 hlo hk2 he1 M6 ht ls hl
            have oM34 : hOb (eD E) classes H6 a 10 [.ref (ad 0), .int (nI (g5.2 0)), .ref (ad 1), .int (nI (g5.2 1)), .int (nI (g5.2 2)), .ref (ad 2), .ref (ad 3), .ref (ad 4), .ref (ad 5), .ref (ad 6), .ref (ad 7), .ref (ad 8), .ref (ad 9), .ref (ad 10), .int (nI (g5.2 3)), .int (nI e1), .int (nI (g5.2 5)), .int (nI (g5.2 6)), .int (nI (g5.2 7)), .ref (ad 11), .int (nI (g5.2 8)), .int (nI (g5.2 9)), .int (nI (g5.2 10)), .ref (ad 12), .int (nI (g5.2 11)), .ref (ad 13)] := M6.1.1
            refine lv_aload_n cx.x cx.b d_Mo_read_101 rfl (lv_at hl 5 rfl) ?_
            refine gf_Mo_65_Mo cx oM34 rfl d_Mo_read_102 ?_
            refine lv_aload_n cx.x cx.b d_Mo_read_105 rfl (lv_at hl 5 rfl) ?_
            refine gf_Mo_119_Mo cx oM34 rfl d_Mo_read_106 ?_
            refine lv_icmp_le (tgt := 141) cx.x cx.b d_Mo_read_109 (by decide) (fun c5 => ?_) (fun c5 => ?_)
            · have c5 : e1 ≤ (g5.2 3) := (nI_leI (a := e1) (b := (g5.2 3)) (by omega) (by omega)).mp c5
              rw [trimE_no c5] at ht
              subst ht
              exact WD _ _ hlo M6 _ (lv_sub hl [0, 1, 2, 3, 4, 5] rfl)
            · have c5 : (g5.2 3) < e1 := Nat.not_le.mp (fun zz => c5 ((nI_leI (a := e1) (b := (g5.2 3)) (by omega) (by omega)).mpr zz))
              rw [trimE_st c5] at ht
              refine lv_aload_n cx.x cx.b d_Mo_read_112 rfl (lv_at hl 5 rfl) ?_
              refine gf_Mo_7_Mo cx oM34 rfl d_Mo_read_113 ?_
              refine lv_aload_n cx.x cx.b d_Mo_read_116 rfl (lv_at hl 5 rfl) ?_
              refine gf_Mo_65_Mo cx oM34 rfl d_Mo_read_117 ?_
              refine lv_iconst (v := 1) cx.x cx.b d_Mo_read_120 (by decide) ?_
              refine lv_isub cx.x cx.b d_Mo_read_121 ?_
              refine lv_topi (fun x35 e_x35 => ?_)
              have e_x35 : x35 = nI (e1 - 1) := e_x35.trans (pk_sub (a := e1) (b := 1) (by omega))
              subst e_x35
              refine hx_iald cx.x cx.b cx.K 0 (M6.1.2.1 0 (by decide)) rfl (show vp_in (nI (e1 - 1)) 480 from vp_in_nI (show (e1 - 1) < 480 by omega) (by decide)) d_Mo_read_122 ?_
              refine lv_topi (fun x36 e_x36 => ?_)
              have hb9 : txt.getD (e1 - 1) 0 < 128 := okC_lt (hxc _ (getD_mem (show (e1 - 1) < txt.length by omega)))
              have e_x36 : x36 = nI (txt.getD (e1 - 1) 0) := e_x36.trans (congrArg nI ((congrArg (g5.1 0) (nI_clamp (n := (e1 - 1)) (by omega))).trans (hx (e1 - 1) (by omega))))
              subst e_x36
              refine lv_bipush (v := 32) cx.x cx.b d_Mo_read_123 (by decide) ?_
              refine lv_icmp_ne (tgt := 141) cx.x cx.b d_Mo_read_125 (by decide) (fun c6 => ?_) (fun c6 => ?_)
              · have c6 : (txt.getD (e1 - 1) 0) ≠ 32 := fun zz => c6 ((nI_eq (a := (txt.getD (e1 - 1) 0)) (b := 32) (by omega) (by omega)).mpr zz)
                rw [if_neg c6] at ht
                subst ht
                exact WD _ _ hlo M6 _ (lv_sub hl [0, 1, 2, 3, 4, 5] rfl)
              · have c6 : (txt.getD (e1 - 1) 0) = 32 := (nI_eq (a := (txt.getD (e1 - 1) 0)) (b := 32) (by omega) (by omega)).mp c6
                rw [if_pos c6] at ht
                refine lv_aload_n cx.x cx.b d_Mo_read_128 rfl (lv_at hl 5 rfl) ?_
                refine lv_dup cx.x cx.b d_Mo_read_129 rfl ?_
                refine gf_Mo_65_Mo cx oM34 rfl d_Mo_read_130 ?_
                refine lv_iconst (v := 1) cx.x cx.b d_Mo_read_133 (by decide) ?_
                refine lv_isub cx.x cx.b d_Mo_read_134 ?_
                refine lv_topi (fun x37 e_x37 => ?_)
                have e_x37 : x37 = nI (e1 - 1) := e_x37.trans (pk_sub (a := e1) (b := 1) (by omega))
                subst e_x37
                refine pf_Mo_65_Mo cx oM34 hlo M6.1.2.2.1 (Nat.le_of_ble_eq_true rfl) d_Mo_read_135 (fun H38 locs ho39 z_H38 o_H38 hlo => ?_)
                have ho39 : hOb (eD E) classes H38 a 10 [.ref (ad 0), .int (nI (g5.2 0)), .ref (ad 1), .int (nI (g5.2 1)), .int (nI (g5.2 2)), .ref (ad 2), .ref (ad 3), .ref (ad 4), .ref (ad 5), .ref (ad 6), .ref (ad 7), .ref (ad 8), .ref (ad 9), .ref (ad 10), .int (nI (g5.2 3)), .int (nI (e1 - 1)), .int (nI (g5.2 5)), .int (nI (g5.2 6)), .int (nI (g5.2 7)), .ref (ad 11), .int (nI (g5.2 8)), .int (nI (g5.2 9)), .int (nI (g5.2 10)), .ref (ad 12), .int (nI (g5.2 11)), .ref (ad 13)] := ho39
                have M40 : Mw E H H38 a ad (g5.1, up g5.2 4 (e1 - 1)) := M6.sc (g5.1, up g5.2 4 (e1 - 1)) ho39 z_H38 o_H38 rfl
                have oM41 : hOb (eD E) classes H38 a 10 [.ref (ad 0), .int (nI (g5.2 0)), .ref (ad 1), .int (nI (g5.2 1)), .int (nI (g5.2 2)), .ref (ad 2), .ref (ad 3), .ref (ad 4), .ref (ad 5), .ref (ad 6), .ref (ad 7), .ref (ad 8), .ref (ad 9), .ref (ad 10), .int (nI (g5.2 3)), .int (nI (e1 - 1)), .int (nI (g5.2 5)), .int (nI (g5.2 6)), .int (nI (g5.2 7)), .ref (ad 11), .int (nI (g5.2 8)), .int (nI (g5.2 9)), .int (nI (g5.2 10)), .ref (ad 12), .int (nI (g5.2 11)), .ref (ad 13)] := M40.1.1
                refine lv_goto (tgt := 101) cx.x cx.b d_Mo_read_138 (by decide) ?_
                exact ih _ (e1 - 1) _ hlo (by omega) (by omega) M40 ht _ (lv_sub hl [0, 1, 2, 3, 4, 5] rfl)
        have ST : ∀ (k : Nat) (locs : List Loc) (p1 : Nat), hLo (eB E) locs → (txt.length - p1 < k) → (p1 ≤ txt.length) → (nxl txt p1 = NL) → ∀ ls, lv_has ls 9 [(6, .int (nI p1)), (5, .int (nI num)), (4, .int (lastV s9.2.2.1 s9.2.2.2.1)), (3, .int (bI s9.2.1)), (2, .int (nI b1)), (0, .ref a)] → W p l e (rmA 7 0 0) s m args below meth c H5 locs 0 0 Q (F0 m 65 ls []) := by
          intro k
          induction k with
          | zero => intro locs p1 hlo hk3 hp1 hn1; exact absurd hk3 (by omega)
          | succ k ih =>
            intro locs p1 hlo hk3 hp1 hn1 ls hl
            refine lv_iload cx.x cx.b d_Mo_read_65 (lv_at hl 0 rfl) ?_
            refine lv_aload_n cx.x cx.b d_Mo_read_67 rfl (lv_at hl 5 rfl) ?_
            refine gf_Mo_52_Mo cx M5.1.1 rfl d_Mo_read_68 ?_
            rw [hs5]
            refine lv_icmp_ge (tgt := 92) cx.x cx.b d_Mo_read_71 (by decide) (fun c7 => ?_) (fun c7 => ?_)
            · have c7 : txt.length ≤ p1 := (nI_leI (a := txt.length) (b := p1) (by omega) (by omega)).mp c7
              rw [nxl_end c7] at hn1
              rw [show p1 = NL from hn1] at hl
              obtain ⟨x42, e_x42⟩ : ∃ y : Int32, y = nI num + 1 := ⟨_, rfl⟩
              refine lv_iinc (v := x42) (lv' := [(5, .int x42), (6, .int (nI NL)), (4, .int (lastV s9.2.2.1 s9.2.2.2.1)), (3, .int (bI s9.2.1)), (2, .int (nI b1)), (0, .ref a)]) cx.x cx.b d_Mo_read_92 hl (k := 1) rfl (by rw [e_x42]; rfl) (by decide) rfl (fun ls hl => ?_)
              have e_x42 : x42 = nI (num + 1) := e_x42.trans (nI_add num 1)
              subst e_x42
              refine lv_aload_n cx.x cx.b d_Mo_read_95 rfl (lv_at hl 5 rfl) ?_
              refine lv_iload cx.x cx.b d_Mo_read_96 (lv_at hl 1 rfl) ?_
              refine pf_Mo_65_Mo cx M5.1.1 hlo M5.1.2.2.1 (Nat.le_of_ble_eq_true rfl) d_Mo_read_98 (fun H43 locs ho44 z_H43 o_H43 hlo => ?_)
              have ho44 : hOb (eD E) classes H43 a 10 [.ref (ad 0), .int (nI (g5.2 0)), .ref (ad 1), .int (nI (g5.2 1)), .int (nI (g5.2 2)), .ref (ad 2), .ref (ad 3), .ref (ad 4), .ref (ad 5), .ref (ad 6), .ref (ad 7), .ref (ad 8), .ref (ad 9), .ref (ad 10), .int (nI (g5.2 3)), .int (nI NL), .int (nI (g5.2 5)), .int (nI (g5.2 6)), .int (nI (g5.2 7)), .ref (ad 11), .int (nI (g5.2 8)), .int (nI (g5.2 9)), .int (nI (g5.2 10)), .ref (ad 12), .int (nI (g5.2 11)), .ref (ad 13)] := ho44
              have M45 : Mw E H H43 a ad (g5.1, up g5.2 4 NL) := M5.sc (g5.1, up g5.2 4 NL) ho44 z_H43 o_H43 rfl
              have oM46 : hOb (eD E) classes H43 a 10 [.ref (ad 0), .int (nI (g5.2 0)), .ref (ad 1), .int (nI (g5.2 1)), .int (nI (g5.2 2)), .ref (ad 2), .ref (ad 3), .ref (ad 4), .ref (ad 5), .ref (ad 6), .ref (ad 7), .ref (ad 8), .ref (ad 9), .ref (ad 10), .int (nI (g5.2 3)), .int (nI NL), .int (nI (g5.2 5)), .int (nI (g5.2 6)), .int (nI (g5.2 7)), .ref (ad 11), .int (nI (g5.2 8)), .int (nI (g5.2 9)), .int (nI (g5.2 10)), .ref (ad 12), .int (nI (g5.2 11)), .ref (ad 13)] := M45.1.1
              exact TR _ _ NL _ hlo (Nat.lt_succ_self _) (Nat.le_refl _) M45 hEN _ (lv_sub hl [1, 0, 2, 3, 4, 5] rfl)
            · have c7 : p1 < txt.length := Nat.not_le.mp (fun zz => c7 ((nI_leI (a := txt.length) (b := p1) (by omega) (by omega)).mpr zz))
              rw [nxl_step c7] at hn1
              refine lv_aload_n cx.x cx.b d_Mo_read_74 rfl (lv_at hl 5 rfl) ?_
              refine gf_Mo_7_Mo cx M5.1.1 rfl d_Mo_read_75 ?_
              refine lv_iload cx.x cx.b d_Mo_read_78 (lv_at hl 0 rfl) ?_
              refine hx_iald cx.x cx.b cx.K 0 (M5.1.2.1 0 (by decide)) rfl (show vp_in (nI p1) 480 from vp_in_nI (show p1 < 480 by omega) (by decide)) d_Mo_read_80 ?_
              refine lv_topi (fun x47 e_x47 => ?_)
              have hb9 : txt.getD p1 0 < 128 := okC_lt (hxc _ (getD_mem (show p1 < txt.length by omega)))
              have e_x47 : x47 = nI (txt.getD p1 0) := e_x47.trans (congrArg nI ((congrArg (g5.1 0) (nI_clamp (n := p1) (by omega))).trans (hx p1 (by omega))))
              subst e_x47
              refine lv_bipush (v := 10) cx.x cx.b d_Mo_read_81 (by decide) ?_
              refine lv_icmp_eq (tgt := 92) cx.x cx.b d_Mo_read_83 (by decide) (fun c8 => ?_) (fun c8 => ?_)
              · have c8 : (txt.getD p1 0) = 10 := (nI_eq (a := (txt.getD p1 0)) (b := 10) (by omega) (by omega)).mp c8
                rw [if_pos c8] at hn1
                rw [show p1 = NL from hn1] at hl
                obtain ⟨x48, e_x48⟩ : ∃ y : Int32, y = nI num + 1 := ⟨_, rfl⟩
                refine lv_iinc (v := x48) (lv' := [(5, .int x48), (6, .int (nI NL)), (4, .int (lastV s9.2.2.1 s9.2.2.2.1)), (3, .int (bI s9.2.1)), (2, .int (nI b1)), (0, .ref a)]) cx.x cx.b d_Mo_read_92 hl (k := 1) rfl (by rw [e_x48]; rfl) (by decide) rfl (fun ls hl => ?_)
                have e_x48 : x48 = nI (num + 1) := e_x48.trans (nI_add num 1)
                subst e_x48
                refine lv_aload_n cx.x cx.b d_Mo_read_95 rfl (lv_at hl 5 rfl) ?_
                refine lv_iload cx.x cx.b d_Mo_read_96 (lv_at hl 1 rfl) ?_
                refine pf_Mo_65_Mo cx M5.1.1 hlo M5.1.2.2.1 (Nat.le_of_ble_eq_true rfl) d_Mo_read_98 (fun H49 locs ho50 z_H49 o_H49 hlo => ?_)
                have ho50 : hOb (eD E) classes H49 a 10 [.ref (ad 0), .int (nI (g5.2 0)), .ref (ad 1), .int (nI (g5.2 1)), .int (nI (g5.2 2)), .ref (ad 2), .ref (ad 3), .ref (ad 4), .ref (ad 5), .ref (ad 6), .ref (ad 7), .ref (ad 8), .ref (ad 9), .ref (ad 10), .int (nI (g5.2 3)), .int (nI NL), .int (nI (g5.2 5)), .int (nI (g5.2 6)), .int (nI (g5.2 7)), .ref (ad 11), .int (nI (g5.2 8)), .int (nI (g5.2 9)), .int (nI (g5.2 10)), .ref (ad 12), .int (nI (g5.2 11)), .ref (ad 13)] := ho50
                have M51 : Mw E H H49 a ad (g5.1, up g5.2 4 NL) := M5.sc (g5.1, up g5.2 4 NL) ho50 z_H49 o_H49 rfl
                have oM52 : hOb (eD E) classes H49 a 10 [.ref (ad 0), .int (nI (g5.2 0)), .ref (ad 1), .int (nI (g5.2 1)), .int (nI (g5.2 2)), .ref (ad 2), .ref (ad 3), .ref (ad 4), .ref (ad 5), .ref (ad 6), .ref (ad 7), .ref (ad 8), .ref (ad 9), .ref (ad 10), .int (nI (g5.2 3)), .int (nI NL), .int (nI (g5.2 5)), .int (nI (g5.2 6)), .int (nI (g5.2 7)), .ref (ad 11), .int (nI (g5.2 8)), .int (nI (g5.2 9)), .int (nI (g5.2 10)), .ref (ad 12), .int (nI (g5.2 11)), .ref (ad 13)] := M51.1.1
                exact TR _ _ NL _ hlo (Nat.lt_succ_self _) (Nat.le_refl _) M51 hEN _ (lv_sub hl [1, 0, 2, 3, 4, 5] rfl)
              · have c8 : (txt.getD p1 0) ≠ 10 := fun zz => c8 ((nI_eq (a := (txt.getD p1 0)) (b := 10) (by omega) (by omega)).mpr zz)
                rw [if_neg c8] at hn1
                obtain ⟨x53, e_x53⟩ : ∃ y : Int32, y = nI p1 + 1 := ⟨_, rfl⟩
                refine lv_iinc (v := x53) (lv' := [(6, .int x53), (5, .int (nI num)), (4, .int (lastV s9.2.2.1 s9.2.2.2.1)), (3, .int (bI s9.2.1)), (2, .int (nI b1)), (0, .ref a)]) cx.x cx.b d_Mo_read_86 hl (k := 0) rfl (by rw [e_x53]; rfl) (by decide) rfl (fun ls hl => ?_)
                have e_x53 : x53 = nI (p1 + 1) := e_x53.trans (nI_add p1 1)
                subst e_x53
                refine lv_goto (tgt := 65) cx.x cx.b d_Mo_read_89 (by decide) ?_
                exact ih _ (p1 + 1) hlo (by omega) (by omega) hn1 _ (lv_sub hl [0, 1, 2, 3, 4, 5] rfl)
        refine lv_aload_n cx.x cx.b d_Mo_read_59 rfl (lv_at hl 4 rfl) ?_
        refine gf_Mo_119_Mo cx M5.1.1 rfl d_Mo_read_60 ?_
        refine lv_istore (lv' := [(6, .int (nI (g5.2 3))), (5, .int (nI num)), (4, .int (lastV s9.2.2.1 s9.2.2.2.1)), (3, .int (bI s9.2.1)), (2, .int (nI b1)), (0, .ref a)]) cx.x cx.b d_Mo_read_63 hl (by decide) rfl (fun ls hl => ?_)
        exact ST _ _ (g5.2 3) hlo (Nat.lt_succ_self _) (by omega) hNL _ (lv_sub hl [0, 1, 2, 3, 4, 5] rfl)
  refine lv_istore_n (lv' := [(2, .int (nI b1)), (0, .ref a), (1, .int (nI b))]) cx.x cx.b d_Mo_read_14 rfl hl (by decide) rfl (fun ls hl => ?_)
  refine lv_aload_n cx.x cx.b d_Mo_read_15 rfl (lv_at hl 1 rfl) ?_
  refine gf_Mo_16_Mo cx M0.1.1 rfl d_Mo_read_16 ?_
  refine lv_iload_n cx.x cx.b d_Mo_read_19 rfl (lv_at hl 0 rfl) ?_
  refine lv_iconst (v := 0) cx.x cx.b d_Mo_read_20 (by decide) ?_
  refine hx_iast cx.x cx.b cx.K 0 (M0.1.2.1 2 (by decide)) hlo (M0.1.2.2.2.1 2 (by decide)).1 rfl (show vp_in (nI b1) 2 from vp_in_nI (show b1 < 2 by omega) (by decide)) d_Mo_read_21 (fun H54 locs ha55 z_H54 o_H54 hlo => ?_)
  have M56 : Mw E H H54 a ad (up g.1 2 (updN (g.1 2) b1 0), g.2) := M0.ar (up g.1 2 (updN (g.1 2) b1 0), g.2) 2 (by decide) (by have h9 := ha55; rw [show (nI b1 : Int32).toNatClampNeg = b1 from nI_clamp (n := b1) (by omega)] at h9; have h9 : hAi H54 (ad 2) (eA E 0) (arL 2) (upd (fun i => nI ((g.1 2) i)) b1 (nI 0)) := h9; rw [upd_nI] at h9; exact h9) z_H54 o_H54 rfl (fun j hj hn => arN2 hj hn rfl rfl rfl rfl rfl rfl rfl rfl rfl rfl rfl rfl rfl)
  have oM57 : hOb (eD E) classes H54 a 10 [.ref (ad 0), .int (nI (g.2 0)), .ref (ad 1), .int (nI (g.2 1)), .int (nI (g.2 2)), .ref (ad 2), .ref (ad 3), .ref (ad 4), .ref (ad 5), .ref (ad 6), .ref (ad 7), .ref (ad 8), .ref (ad 9), .ref (ad 10), .int (nI (g.2 3)), .int (nI (g.2 4)), .int (nI (g.2 5)), .int (nI (g.2 6)), .int (nI (g.2 7)), .ref (ad 11), .int (nI (g.2 8)), .int (nI (g.2 9)), .int (nI (g.2 10)), .ref (ad 12), .int (nI (g.2 11)), .ref (ad 13)] := M56.1.1
  refine lv_aload_n cx.x cx.b d_Mo_read_22 rfl (lv_at hl 1 rfl) ?_
  refine gf_Mo_19_Mo cx oM57 rfl d_Mo_read_23 ?_
  refine lv_iload_n cx.x cx.b d_Mo_read_26 rfl (lv_at hl 0 rfl) ?_
  refine lv_iconst (v := 2) cx.x cx.b d_Mo_read_27 (by decide) ?_
  refine hx_iast cx.x cx.b cx.K 0 (M56.1.2.1 3 (by decide)) hlo (M56.1.2.2.2.1 3 (by decide)).1 rfl (show vp_in (nI b1) 2 from vp_in_nI (show b1 < 2 by omega) (by decide)) d_Mo_read_28 (fun H58 locs ha59 z_H58 o_H58 hlo => ?_)
  have M60 : Mw E H H58 a ad (up (up g.1 2 (updN (g.1 2) b1 0)) 3 (updN (g.1 3) b1 2), g.2) := M56.ar (up (up g.1 2 (updN (g.1 2) b1 0)) 3 (updN (g.1 3) b1 2), g.2) 3 (by decide) (by have h9 := ha59; rw [show (nI b1 : Int32).toNatClampNeg = b1 from nI_clamp (n := b1) (by omega)] at h9; have h9 : hAi H58 (ad 3) (eA E 0) (arL 3) (upd (fun i => nI ((g.1 3) i)) b1 (nI 2)) := h9; rw [upd_nI] at h9; exact h9) z_H58 o_H58 rfl (fun j hj hn => arN3 hj hn rfl rfl rfl rfl rfl rfl rfl rfl rfl rfl rfl rfl rfl)
  have oM61 : hOb (eD E) classes H58 a 10 [.ref (ad 0), .int (nI (g.2 0)), .ref (ad 1), .int (nI (g.2 1)), .int (nI (g.2 2)), .ref (ad 2), .ref (ad 3), .ref (ad 4), .ref (ad 5), .ref (ad 6), .ref (ad 7), .ref (ad 8), .ref (ad 9), .ref (ad 10), .int (nI (g.2 3)), .int (nI (g.2 4)), .int (nI (g.2 5)), .int (nI (g.2 6)), .int (nI (g.2 7)), .ref (ad 11), .int (nI (g.2 8)), .int (nI (g.2 9)), .int (nI (g.2 10)), .ref (ad 12), .int (nI (g.2 11)), .ref (ad 13)] := M60.1.1
  refine lv_aload_n cx.x cx.b d_Mo_read_29 rfl (lv_at hl 1 rfl) ?_
  refine lv_iconst (v := 0) cx.x cx.b d_Mo_read_30 (by decide) ?_
  refine pf_Mo_113_Mo cx oM61 hlo M60.1.2.2.1 (Nat.le_of_ble_eq_true rfl) d_Mo_read_31 (fun H62 locs ho63 z_H62 o_H62 hlo => ?_)
  have ho63 : hOb (eD E) classes H62 a 10 [.ref (ad 0), .int (nI (g.2 0)), .ref (ad 1), .int 0, .int (nI (g.2 2)), .ref (ad 2), .ref (ad 3), .ref (ad 4), .ref (ad 5), .ref (ad 6), .ref (ad 7), .ref (ad 8), .ref (ad 9), .ref (ad 10), .int (nI (g.2 3)), .int (nI (g.2 4)), .int (nI (g.2 5)), .int (nI (g.2 6)), .int (nI (g.2 7)), .ref (ad 11), .int (nI (g.2 8)), .int (nI (g.2 9)), .int (nI (g.2 10)), .ref (ad 12), .int (nI (g.2 11)), .ref (ad 13)] := ho63
  have M64 : Mw E H H62 a ad (up (up g.1 2 (updN (g.1 2) b1 0)) 3 (updN (g.1 3) b1 2), up g.2 1 0) := M60.sc (up (up g.1 2 (updN (g.1 2) b1 0)) 3 (updN (g.1 3) b1 2), up g.2 1 0) ho63 z_H62 o_H62 rfl
  have oM65 : hOb (eD E) classes H62 a 10 [.ref (ad 0), .int (nI (g.2 0)), .ref (ad 1), .int (nI 0), .int (nI (g.2 2)), .ref (ad 2), .ref (ad 3), .ref (ad 4), .ref (ad 5), .ref (ad 6), .ref (ad 7), .ref (ad 8), .ref (ad 9), .ref (ad 10), .int (nI (g.2 3)), .int (nI (g.2 4)), .int (nI (g.2 5)), .int (nI (g.2 6)), .int (nI (g.2 7)), .ref (ad 11), .int (nI (g.2 8)), .int (nI (g.2 9)), .int (nI (g.2 10)), .ref (ad 12), .int (nI (g.2 11)), .ref (ad 13)] := M64.1.1
  refine lv_iconst (v := 0) cx.x cx.b d_Mo_read_34 (by decide) ?_
  refine lv_istore_n (lv' := [(3, .int 0), (2, .int (nI b1)), (0, .ref a), (1, .int (nI b))]) cx.x cx.b d_Mo_read_35 rfl hl (by decide) rfl (fun ls hl => ?_)
  refine lv_bipush (v := (-2)) cx.x cx.b d_Mo_read_36 (by decide) ?_
  refine lv_istore (lv' := [(4, .int (-2)), (3, .int 0), (2, .int (nI b1)), (0, .ref a), (1, .int (nI b))]) cx.x cx.b d_Mo_read_38 hl (by decide) rfl (fun ls hl => ?_)
  refine lv_iconst (v := 0) cx.x cx.b d_Mo_read_40 (by decide) ?_
  refine lv_istore (lv' := [(5, .int 0), (4, .int (-2)), (3, .int 0), (2, .int (nI b1)), (0, .ref a), (1, .int (nI b))]) cx.x cx.b d_Mo_read_41 hl (by decide) rfl (fun ls hl => ?_)
  refine lv_aload_n cx.x cx.b d_Mo_read_43 rfl (lv_at hl 4 rfl) ?_
  refine lv_iconst (v := 0) cx.x cx.b d_Mo_read_44 (by decide) ?_
  refine pf_Mo_119_Mo cx oM65 hlo M64.1.2.2.1 (Nat.le_of_ble_eq_true rfl) d_Mo_read_45 (fun H66 locs ho67 z_H66 o_H66 hlo => ?_)
  have ho67 : hOb (eD E) classes H66 a 10 [.ref (ad 0), .int (nI (g.2 0)), .ref (ad 1), .int (nI 0), .int (nI (g.2 2)), .ref (ad 2), .ref (ad 3), .ref (ad 4), .ref (ad 5), .ref (ad 6), .ref (ad 7), .ref (ad 8), .ref (ad 9), .ref (ad 10), .int 0, .int (nI (g.2 4)), .int (nI (g.2 5)), .int (nI (g.2 6)), .int (nI (g.2 7)), .ref (ad 11), .int (nI (g.2 8)), .int (nI (g.2 9)), .int (nI (g.2 10)), .ref (ad 12), .int (nI (g.2 11)), .ref (ad 13)] := ho67
  have M68 : Mw E H H66 a ad (up (up g.1 2 (updN (g.1 2) b1 0)) 3 (updN (g.1 3) b1 2), up (up g.2 1 0) 3 0) := M64.sc (up (up g.1 2 (updN (g.1 2) b1 0)) 3 (updN (g.1 3) b1 2), up (up g.2 1 0) 3 0) ho67 z_H66 o_H66 rfl
  have oM69 : hOb (eD E) classes H66 a 10 [.ref (ad 0), .int (nI (g.2 0)), .ref (ad 1), .int (nI 0), .int (nI (g.2 2)), .ref (ad 2), .ref (ad 3), .ref (ad 4), .ref (ad 5), .ref (ad 6), .ref (ad 7), .ref (ad 8), .ref (ad 9), .ref (ad 10), .int (nI 0), .int (nI (g.2 4)), .int (nI (g.2 5)), .int (nI (g.2 6)), .int (nI (g.2 7)), .ref (ad 11), .int (nI (g.2 8)), .int (nI (g.2 9)), .int (nI (g.2 10)), .ref (ad 12), .int (nI (g.2 11)), .ref (ad 13)] := M68.1.1
  exact LP _ _ 0 (2, false, false, [], []) _ _ hlo (Nat.lt_succ_self _) ⟨Nat.zero_le _, Nat.le_refl _⟩ M68 ⟨⟨updN_s, Nat.zero_le _, fun t ht => absurd ht (Nat.not_lt_zero t)⟩, ⟨rfl, fun i hi => absurd hi (Nat.not_lt_zero i)⟩, updN_s, (fun z => by cases z), Or.inr rfl, fun _ => rfl, Nat.zero_le _⟩ ⟨rfl, fun b2 U2 h1 h2 h3 => h3.fr (updN_n h2) (fun _ _ => rfl) (fun r _ _ => ⟨rfl, rfl, rfl, rfl, fun _ _ => ⟨rfl, rfl⟩⟩), fun b2 h2 => updN_n h2, rfl, rfl⟩ hGA _ (lv_sub hl [0, 1, 2, 3, 4] rfl)
