theorem Tx_app {T : Nat → Nat} {X Y : List Nat} (h1 : ∀ i, i < X.length → T i = X.getD i 0) (h2 : ∀ i, i < Y.length → T (X.length + i) = Y.getD i 0) : Tx T (X ++ Y) := fun i hi => by
  rw [List.length_append] at hi
  by_cases c : i < X.length
  · rw [h1 i c, List.getD_eq_getElem?_getD, List.getD_eq_getElem?_getD, List.getElem?_append_left c]
  · have h3 := h2 (i - X.length) (by omega)
    rw [show X.length + (i - X.length) = i by omega] at h3
    rw [h3, List.getD_eq_getElem?_getD, List.getD_eq_getElem?_getD, List.getElem?_append_right (by omega)]
set_option maxHeartbeats 4000000 in
set_option maxRecDepth 100000 in
theorem c_Mo_write (l : Launch) {E : hE} (hE : EnvOk E) {H : Heap} {a : Nat} {ad : Nat → Nat} {g : MS} (M : Mo E H a ad g) {txt : List Nat} (hx : Tx (g.1 0) txt) (hxc : ∀ x ∈ txt, okC x = true) (hxl : txt.length ≤ 480) (hsz : g.2 0 = txt.length) (hcr : g.2 2 = 0 ∨ g.2 2 = 1) {b : Nat} (hb : b < 2) {U C : List TU} (hU : Rows g.1 (if g.2 2 = 0 then b else 1 - b) U) (hC : Srt C U) (hI : UInv U) (hfm : g.1 3 (if g.2 2 = 0 then b else 1 - b) < 10) : Ct l E y_Mo_write b_Mo_write 6 (some .int) (rmA 4 0 0) [.ref a, .int (nI b)] H (hQi (fun r H1 => r = (if (flT (lns (g.1 3 (if g.2 2 = 0 then b else 1 - b)) C)).length ≤ 480 then nI (flT (lns (g.1 3 (if g.2 2 = 0 then b else 1 - b)) C)).length else -1) ∧ ∃ (t9 o9 : Nat → Nat) (n9 w9 : Nat), Mw E H H1 a ad (up (up g.1 0 t9) 12 o9, up (up g.2 0 n9) 11 w9) ∧ Tx t9 (if (flT (lns (g.1 3 (if g.2 2 = 0 then b else 1 - b)) C)).length ≤ 480 then (flT (lns (g.1 3 (if g.2 2 = 0 then b else 1 - b)) C)) else txt) ∧ n9 = (if (flT (lns (g.1 3 (if g.2 2 = 0 then b else 1 - b)) C)).length ≤ 480 then (flT (lns (g.1 3 (if g.2 2 = 0 then b else 1 - b)) C)) else txt).length)) := by
  refine hx_enter hE (by decide) (Nat.le_of_ble_eq_true rfl) ?_
  intro p e s m args below meth c ls cx hnm hl
  have hl : lv_has ls 6 [(0, .ref a), (1, .int (nI b))] := hl
  have hlo : hLo (eB E) [] := hLo.nil
  generalize hQ : MQ below _ args s _ _ _ = Q
  have M0 : Mw E H H a ad g := ⟨M, hCh.rf, rfl⟩
  have hb1 : (if g.2 2 = 0 then b else 1 - b) < 2 := by by_cases c : (g.2 2) = 0; rw [if_pos c]; exact hb; rw [if_neg c]; omega
  have hsd := c_Mo_side l hE M hcr hb
  generalize (if g.2 2 = 0 then b else 1 - b) = b1 at *
  obtain ⟨hL1, hL2⟩ := hC.lns hI (g.1 3 b1)
  have hFl := flT_len hL2
  generalize hF : flT (lns (g.1 3 b1) C) = F at hQ hFl
  refine lv_iload_n cx.x cx.b d_Mo_write_0 rfl (lv_at hl 1 rfl) ?_
  refine hx_calli (iv_Mo_173 cx (c_Mo_none l hE (H := H) (nI b)) rfl hl.1 rfl (Nat.le_of_ble_eq_true rfl) d_Mo_write_1 ⟨Nat.le_of_ble_eq_true rfl, Nat.le_of_ble_eq_true rfl⟩ ⟨Nat.le_of_ble_eq_true rfl, Nat.le_of_ble_eq_true rfl⟩) hlo (fun _ h => h) (fun r3 H2 locs hp1 hlo => ?_)
  obtain ⟨hp1, hH9⟩ := hp1
  have hH9 := hH9.symm
  subst hH9
  rw [show decide (¬ (nI b = 0 ∨ nI b = 1)) = false from decide_eq_false (fun z => z (by rcases (show b = 0 ∨ b = 1 by omega) with e | e; rw [e]; exact Or.inl rfl; rw [e]; exact Or.inr rfl))] at hp1
  subst hp1
  refine lv_if_eq (tgt := 9) cx.x cx.b d_Mo_write_4 (by decide) (fun _ => ?_) (fun c => absurd (by decide) c)
  refine lv_aload_n cx.x cx.b d_Mo_write_9 rfl (lv_at hl 0 rfl) ?_
  refine lv_iload_n cx.x cx.b d_Mo_write_10 rfl (lv_at hl 1 rfl) ?_
  refine hx_calli (iv_Mo_176_Mo cx (hsd) M0.1.1 rfl hl.1 rfl (Nat.le_of_ble_eq_true rfl) d_Mo_write_11 ⟨Nat.le_of_ble_eq_true rfl, Nat.le_of_ble_eq_true rfl⟩ ⟨Nat.le_of_ble_eq_true rfl, Nat.le_of_ble_eq_true rfl⟩) hlo (fun _ h => h) (fun r6 H5 locs hp4 hlo => ?_)
  obtain ⟨hp4, hH9⟩ := hp4
  have hH9 := hH9.symm
  subst hH9
  subst hp4
  refine lv_istore_n (lv' := [(2, .int (nI b1)), (0, .ref a), (1, .int (nI b))]) cx.x cx.b d_Mo_write_14 rfl hl (by decide) rfl (fun ls hl => ?_)
  refine lv_iconst (v := 0) cx.x cx.b d_Mo_write_15 (by decide) ?_
  refine lv_istore_n (lv' := [(3, .int 0), (2, .int (nI b1)), (0, .ref a), (1, .int (nI b))]) cx.x cx.b d_Mo_write_16 rfl hl (by decide) rfl (fun ls hl => ?_)
  refine lv_iconst (v := 0) cx.x cx.b d_Mo_write_17 (by decide) ?_
  refine lv_istore (lv' := [(4, .int 0), (3, .int 0), (2, .int (nI b1)), (0, .ref a), (1, .int (nI b))]) cx.x cx.b d_Mo_write_18 hl (by decide) rfl (fun ls hl => ?_)
  have MID : ∀ (locs : List Loc) (o8 : Nat → Nat) (w8 : Nat) (H5 : Heap), hLo (eB E) locs → (Mw E H H5 a ad (up g.1 12 o8, up g.2 11 w8)) → ∀ ls, lv_has ls 6 [(3, .int (nI F.length)), (2, .int (nI b1)), (0, .ref a)] → W p l e (rmA 4 0 0) s m args below meth c H5 locs 0 0 Q (F0 m 52 ls []) := by
    intro locs o8 w8 H5 hlo M5 ls hl
    have oM7 : hOb (eD E) classes H5 a 10 [.ref (ad 0), .int (nI (g.2 0)), .ref (ad 1), .int (nI (g.2 1)), .int (nI (g.2 2)), .ref (ad 2), .ref (ad 3), .ref (ad 4), .ref (ad 5), .ref (ad 6), .ref (ad 7), .ref (ad 8), .ref (ad 9), .ref (ad 10), .int (nI (g.2 3)), .int (nI (g.2 4)), .int (nI (g.2 5)), .int (nI (g.2 6)), .int (nI (g.2 7)), .ref (ad 11), .int (nI (g.2 8)), .int (nI (g.2 9)), .int (nI (g.2 10)), .ref (ad 12), .int (nI w8), .ref (ad 13)] := M5.1.1
    refine lv_iload_n cx.x cx.b d_Mo_write_52 rfl (lv_at hl 0 rfl) ?_
    refine lv_sipush (v := 480) cx.x cx.b d_Mo_write_53 (by decide) ?_
    refine lv_icmp_le (tgt := 61) cx.x cx.b d_Mo_write_56 (by decide) (fun c1 => ?_) (fun c1 => ?_)
    · have c1 : F.length ≤ 480 := (nI_leI (a := F.length) (b := 480) (by omega) (by omega)).mp c1
      rw [if_pos c1, if_pos c1] at hQ
      refine lv_aload_n cx.x cx.b d_Mo_write_61 rfl (lv_at hl 2 rfl) ?_
      refine lv_iconst (v := 0) cx.x cx.b d_Mo_write_62 (by decide) ?_
      refine pf_Mo_52_Mo cx oM7 hlo M5.1.2.2.1 (Nat.le_of_ble_eq_true rfl) d_Mo_write_63 (fun H8 locs ho9 z_H8 o_H8 hlo => ?_)
      have ho9 : hOb (eD E) classes H8 a 10 [.ref (ad 0), .int 0, .ref (ad 1), .int (nI (g.2 1)), .int (nI (g.2 2)), .ref (ad 2), .ref (ad 3), .ref (ad 4), .ref (ad 5), .ref (ad 6), .ref (ad 7), .ref (ad 8), .ref (ad 9), .ref (ad 10), .int (nI (g.2 3)), .int (nI (g.2 4)), .int (nI (g.2 5)), .int (nI (g.2 6)), .int (nI (g.2 7)), .ref (ad 11), .int (nI (g.2 8)), .int (nI (g.2 9)), .int (nI (g.2 10)), .ref (ad 12), .int (nI w8), .ref (ad 13)] := ho9
      have M10 : Mw E H H8 a ad (up g.1 12 o8, up (up g.2 0 0) 11 w8) := M5.sc (up g.1 12 o8, up (up g.2 0 0) 11 w8) ho9 z_H8 o_H8 rfl
      have oM11 : hOb (eD E) classes H8 a 10 [.ref (ad 0), .int (nI 0), .ref (ad 1), .int (nI (g.2 1)), .int (nI (g.2 2)), .ref (ad 2), .ref (ad 3), .ref (ad 4), .ref (ad 5), .ref (ad 6), .ref (ad 7), .ref (ad 8), .ref (ad 9), .ref (ad 10), .int (nI (g.2 3)), .int (nI (g.2 4)), .int (nI (g.2 5)), .int (nI (g.2 6)), .int (nI (g.2 7)), .ref (ad 11), .int (nI (g.2 8)), .int (nI (g.2 9)), .int (nI (g.2 10)), .ref (ad 12), .int (nI w8), .ref (ad 13)] := M10.1.1
      refine lv_iconst (v := 0) cx.x cx.b d_Mo_write_66 (by decide) ?_
      refine lv_istore (lv' := [(4, .int 0), (3, .int (nI F.length)), (2, .int (nI b1)), (0, .ref a)]) cx.x cx.b d_Mo_write_67 hl (by decide) rfl (fun ls hl => ?_)
      have LQ : ∀ (k : Nat) (locs : List Loc) (k1 w7 : Nat) (X9 : List Nat) (T9 o7 : Nat → Nat) (H6 : Heap), hLo (eB E) locs → (110 - k1 < k) → (k1 ≤ 110) → (Mw E H H6 a ad (up (up g.1 0 T9) 12 o7, up (up g.2 0 X9.length) 11 w7)) → (Tx T9 X9) → (X9 ++ flT ((lns (g.1 3 b1) C).drop k1) = F) → ∀ ls, lv_has ls 6 [(4, .int (nI k1)), (2, .int (nI b1)), (0, .ref a)] → W p l e (rmA 4 0 0) s m args below meth c H6 locs 0 0 Q (F0 m 69 ls []) := by
        intro k
        induction k with
        | zero => intro locs k1 w7 X9 T9 o7 H6 hlo hk hk1 M6 hT hX; exact absurd hk (by omega)
        | succ k ih =>
          intro locs k1 w7 X9 T9 o7 H6 hlo hk hk1 M6 hT hX ls hl
          have oM12 : hOb (eD E) classes H6 a 10 [.ref (ad 0), .int (nI X9.length), .ref (ad 1), .int (nI (g.2 1)), .int (nI (g.2 2)), .ref (ad 2), .ref (ad 3), .ref (ad 4), .ref (ad 5), .ref (ad 6), .ref (ad 7), .ref (ad 8), .ref (ad 9), .ref (ad 10), .int (nI (g.2 3)), .int (nI (g.2 4)), .int (nI (g.2 5)), .int (nI (g.2 6)), .int (nI (g.2 7)), .ref (ad 11), .int (nI (g.2 8)), .int (nI (g.2 9)), .int (nI (g.2 10)), .ref (ad 12), .int (nI w7), .ref (ad 13)] := M6.1.1
          refine lv_iload cx.x cx.b d_Mo_write_69 (lv_at hl 0 rfl) ?_
          refine lv_bipush (v := 110) cx.x cx.b d_Mo_write_71 (by decide) ?_
          refine lv_icmp_ge (tgt := 148) cx.x cx.b d_Mo_write_73 (by decide) (fun c2 => ?_) (fun c2 => ?_)
          · have c2 : 110 ≤ k1 := (nI_leI (a := 110) (b := k1) (by omega) (by omega)).mp c2
            rw [flT_none (List.getElem?_eq_none_iff.mpr (by omega))] at hX
            rw [List.append_nil] at hX
            rw [← hX] at hQ
            refine lv_aload_n cx.x cx.b d_Mo_write_148 rfl (lv_at hl 2 rfl) ?_
            refine gf_Mo_52_Mo cx oM12 rfl d_Mo_write_149 ?_
            rw [← hQ]
            exact hx_reti cx.x cx.b cx.r cx.k rfl hlo (fun _ h => h) (Nat.le_of_ble_eq_true rfl) (Nat.le_of_ble_eq_true rfl) d_Mo_write_152 (⟨rfl, T9, _, _, _, M6, hT, rfl⟩)
          · have c2 : k1 < 110 := Nat.not_le.mp (fun zz => c2 ((nI_leI (a := 110) (b := k1) (by omega) (by omega)).mpr zz))
            refine lv_aload_n cx.x cx.b d_Mo_write_76 rfl (lv_at hl 2 rfl) ?_
            refine lv_iload_n cx.x cx.b d_Mo_write_77 rfl (lv_at hl 1 rfl) ?_
            refine lv_iload cx.x cx.b d_Mo_write_78 (lv_at hl 0 rfl) ?_
            refine hx_calli (iv_Mo_226_Mo cx (c_Mo_lineOf l hE M6.1 (b1 := b1) hb1 hU hC hI hfm (n1 := k1) (by omega)) oM12 rfl hl.1 rfl (Nat.le_of_ble_eq_true rfl) d_Mo_write_80 ⟨Nat.le_of_ble_eq_true rfl, Nat.le_of_ble_eq_true rfl⟩ ⟨Nat.le_of_ble_eq_true rfl, Nat.le_of_ble_eq_true rfl⟩) hlo (fun _ h => h) (fun r15 H14 locs hp13 hlo => ?_)
            obtain ⟨o17, n18, q_M16, pl0⟩ := hp13
            have M16 : Mw E H H14 a ad (up (up g.1 0 T9) 12 o17, up (up g.2 0 X9.length) 11 n18) := Mw.cg (M6.tr q_M16) rfl rfl rfl rfl rfl rfl rfl rfl rfl rfl rfl rfl rfl rfl rfl rfl rfl rfl rfl rfl rfl rfl rfl rfl rfl rfl
            have pl1 : LnO (lns (g.1 3 b1) C)[k1]? r15 o17 n18 := pl0
            clear pl0
            rcases hq : (lns (g.1 3 b1) C)[k1]? with _ | x9
            · rw [hq] at pl1
              obtain ⟨pr, pl⟩ := pl1
              subst pr
              have oM19 : hOb (eD E) classes H14 a 10 [.ref (ad 0), .int (nI X9.length), .ref (ad 1), .int (nI (g.2 1)), .int (nI (g.2 2)), .ref (ad 2), .ref (ad 3), .ref (ad 4), .ref (ad 5), .ref (ad 6), .ref (ad 7), .ref (ad 8), .ref (ad 9), .ref (ad 10), .int (nI (g.2 3)), .int (nI (g.2 4)), .int (nI (g.2 5)), .int (nI (g.2 6)), .int (nI (g.2 7)), .ref (ad 11), .int (nI (g.2 8)), .int (nI (g.2 9)), .int (nI (g.2 10)), .ref (ad 12), .int (nI n18), .ref (ad 13)] := M16.1.1
              rw [flT_none hq] at hX
              refine lv_if_eq (tgt := 148) cx.x cx.b d_Mo_write_83 (by decide) (fun _ => ?_) (fun c => absurd (by decide) c)
              rw [List.append_nil] at hX
              rw [← hX] at hQ
              refine lv_aload_n cx.x cx.b d_Mo_write_148 rfl (lv_at hl 2 rfl) ?_
              refine gf_Mo_52_Mo cx oM19 rfl d_Mo_write_149 ?_
              rw [← hQ]
              exact hx_reti cx.x cx.b cx.r cx.k rfl hlo (fun _ h => h) (Nat.le_of_ble_eq_true rfl) (Nat.le_of_ble_eq_true rfl) d_Mo_write_152 (⟨rfl, T9, _, _, _, M16, hT, rfl⟩)
            · rw [hq] at pl1
              obtain ⟨pr, pl⟩ := pl1
              subst pr
              have oM20 : hOb (eD E) classes H14 a 10 [.ref (ad 0), .int (nI X9.length), .ref (ad 1), .int (nI (g.2 1)), .int (nI (g.2 2)), .ref (ad 2), .ref (ad 3), .ref (ad 4), .ref (ad 5), .ref (ad 6), .ref (ad 7), .ref (ad 8), .ref (ad 9), .ref (ad 10), .int (nI (g.2 3)), .int (nI (g.2 4)), .int (nI (g.2 5)), .int (nI (g.2 6)), .int (nI (g.2 7)), .ref (ad 11), .int (nI (g.2 8)), .int (nI (g.2 9)), .int (nI (g.2 10)), .ref (ad 12), .int (nI n18), .ref (ad 13)] := M16.1.1
              have hx9 := hL2 x9 (List.mem_of_getElem? hq)
              have hn9 := pl.1
              rw [flT_some hq] at hX
              have hXl := congrArg List.length hX
              rw [List.length_append, List.length_append, List.length_append, List.length_singleton] at hXl
              refine lv_if_eq (tgt := 148) cx.x cx.b d_Mo_write_83 (by decide) (fun c => absurd c (by decide)) (fun _ => ?_)
              refine lv_aload_n cx.x cx.b d_Mo_write_86 rfl (lv_at hl 2 rfl) ?_
              refine lv_bipush (v := 10) cx.x cx.b d_Mo_write_87 (by decide) ?_
              refine hx_callv (iv_Mo_198_Mo cx (c_Mo_put l hE M16.1 (x := 10) (show n18 < 300 by omega)) oM20 rfl hl.1 rfl (Nat.le_of_ble_eq_true rfl) d_Mo_write_89 ⟨Nat.le_of_ble_eq_true rfl, Nat.le_of_ble_eq_true rfl⟩ ⟨Nat.le_of_ble_eq_true rfl, Nat.le_of_ble_eq_true rfl⟩) hlo (fun _ h => h) (fun H22 locs hp21 hlo => ?_)
              have q_M23 := hp21
              have M23 : Mw E H H22 a ad (up (up g.1 0 T9) 12 (updN o17 n18 10), up (up g.2 0 X9.length) 11 (n18 + 1)) := Mw.cg (M16.tr q_M23) rfl rfl rfl rfl rfl rfl rfl rfl rfl rfl rfl rfl rfl rfl rfl rfl rfl rfl rfl rfl rfl rfl rfl rfl rfl rfl
              have oM24 : hOb (eD E) classes H22 a 10 [.ref (ad 0), .int (nI X9.length), .ref (ad 1), .int (nI (g.2 1)), .int (nI (g.2 2)), .ref (ad 2), .ref (ad 3), .ref (ad 4), .ref (ad 5), .ref (ad 6), .ref (ad 7), .ref (ad 8), .ref (ad 9), .ref (ad 10), .int (nI (g.2 3)), .int (nI (g.2 4)), .int (nI (g.2 5)), .int (nI (g.2 6)), .int (nI (g.2 7)), .ref (ad 11), .int (nI (g.2 8)), .int (nI (g.2 9)), .int (nI (g.2 10)), .ref (ad 12), .int (nI (n18 + 1)), .ref (ad 13)] := M23.1.1
              have pl := pl.put (x := 10)
              have ihO := ih
              refine lv_iconst (v := 0) cx.x cx.b d_Mo_write_92 (by decide) ?_
              refine lv_istore (lv' := [(5, .int 0), (4, .int (nI k1)), (2, .int (nI b1)), (0, .ref a)]) cx.x cx.b d_Mo_write_93 hl (by decide) rfl (fun ls hl => ?_)
              have LC : ∀ (k : Nat) (locs : List Loc) (j1 : Nat) (T8 : Nat → Nat) (H7 : Heap), hLo (eB E) locs → (n18 + 1 - j1 < k) → (j1 ≤ n18 + 1) → (Mw E H H7 a ad (up (up g.1 0 T8) 12 (updN o17 n18 10), up (up g.2 0 X9.length) 11 (n18 + 1))) → (∀ i, i < X9.length → T8 i = X9.getD i 0) → (∀ i, i < j1 → T8 (X9.length + i) = (x9 ++ [10]).getD i 0) → ∀ ls, lv_has ls 6 [(5, .int (nI j1)), (4, .int (nI k1)), (2, .int (nI b1)), (0, .ref a)] → W p l e (rmA 4 0 0) s m args below meth c H7 locs 0 0 Q (F0 m 95 ls []) := by
                intro k
                induction k with
                | zero => intro locs j1 T8 H7 hlo hk2 hj1 M7 h81 h82; exact absurd hk2 (by omega)
                | succ k ih =>
                  intro locs j1 T8 H7 hlo hk2 hj1 M7 h81 h82 ls hl
                  have oM25 : hOb (eD E) classes H7 a 10 [.ref (ad 0), .int (nI X9.length), .ref (ad 1), .int (nI (g.2 1)), .int (nI (g.2 2)), .ref (ad 2), .ref (ad 3), .ref (ad 4), .ref (ad 5), .ref (ad 6), .ref (ad 7), .ref (ad 8), .ref (ad 9), .ref (ad 10), .int (nI (g.2 3)), .int (nI (g.2 4)), .int (nI (g.2 5)), .int (nI (g.2 6)), .int (nI (g.2 7)), .ref (ad 11), .int (nI (g.2 8)), .int (nI (g.2 9)), .int (nI (g.2 10)), .ref (ad 12), .int (nI (n18 + 1)), .ref (ad 13)] := M7.1.1
                  refine lv_iload cx.x cx.b d_Mo_write_95 (lv_at hl 0 rfl) ?_
                  refine lv_aload_n cx.x cx.b d_Mo_write_97 rfl (lv_at hl 3 rfl) ?_
                  refine gf_Mo_195_Mo cx oM25 rfl d_Mo_write_98 ?_
                  refine lv_icmp_ge (tgt := 129) cx.x cx.b d_Mo_write_101 (by decide) (fun c3 => ?_) (fun c3 => ?_)
                  · have c3 : (n18 + 1) ≤ j1 := (nI_leI (a := (n18 + 1)) (b := j1) (by omega) (by omega)).mp c3
                    refine lv_aload_n cx.x cx.b d_Mo_write_129 rfl (lv_at hl 3 rfl) ?_
                    refine lv_dup cx.x cx.b d_Mo_write_130 rfl ?_
                    refine gf_Mo_52_Mo cx oM25 rfl d_Mo_write_131 ?_
                    refine lv_aload_n cx.x cx.b d_Mo_write_134 rfl (lv_at hl 3 rfl) ?_
                    refine gf_Mo_195_Mo cx oM25 rfl d_Mo_write_135 ?_
                    refine lv_iadd cx.x cx.b d_Mo_write_138 ?_
                    refine lv_topi (fun x26 e_x26 => ?_)
                    have e_x26 : x26 = nI (X9.length + (n18 + 1)) := e_x26.trans (nI_add X9.length (n18 + 1))
                    subst e_x26
                    refine pf_Mo_52_Mo cx oM25 hlo M7.1.2.2.1 (Nat.le_of_ble_eq_true rfl) d_Mo_write_139 (fun H27 locs ho28 z_H27 o_H27 hlo => ?_)
                    have ho28 : hOb (eD E) classes H27 a 10 [.ref (ad 0), .int (nI (X9.length + (n18 + 1))), .ref (ad 1), .int (nI (g.2 1)), .int (nI (g.2 2)), .ref (ad 2), .ref (ad 3), .ref (ad 4), .ref (ad 5), .ref (ad 6), .ref (ad 7), .ref (ad 8), .ref (ad 9), .ref (ad 10), .int (nI (g.2 3)), .int (nI (g.2 4)), .int (nI (g.2 5)), .int (nI (g.2 6)), .int (nI (g.2 7)), .ref (ad 11), .int (nI (g.2 8)), .int (nI (g.2 9)), .int (nI (g.2 10)), .ref (ad 12), .int (nI (n18 + 1)), .ref (ad 13)] := ho28
                    have M29 : Mw E H H27 a ad (up (up g.1 0 T8) 12 (updN o17 n18 10), up (up g.2 0 (X9.length + (n18 + 1))) 11 (n18 + 1)) := M7.sc (up (up g.1 0 T8) 12 (updN o17 n18 10), up (up g.2 0 (X9.length + (n18 + 1))) 11 (n18 + 1)) ho28 z_H27 o_H27 rfl
                    have oM30 : hOb (eD E) classes H27 a 10 [.ref (ad 0), .int (nI (X9.length + (n18 + 1))), .ref (ad 1), .int (nI (g.2 1)), .int (nI (g.2 2)), .ref (ad 2), .ref (ad 3), .ref (ad 4), .ref (ad 5), .ref (ad 6), .ref (ad 7), .ref (ad 8), .ref (ad 9), .ref (ad 10), .int (nI (g.2 3)), .int (nI (g.2 4)), .int (nI (g.2 5)), .int (nI (g.2 6)), .int (nI (g.2 7)), .ref (ad 11), .int (nI (g.2 8)), .int (nI (g.2 9)), .int (nI (g.2 10)), .ref (ad 12), .int (nI (n18 + 1)), .ref (ad 13)] := M29.1.1
                    obtain ⟨x31, e_x31⟩ : ∃ y : Int32, y = nI k1 + 1 := ⟨_, rfl⟩
                    refine lv_iinc (v := x31) (lv' := [(4, .int x31), (5, .int (nI j1)), (2, .int (nI b1)), (0, .ref a)]) cx.x cx.b d_Mo_write_142 hl (k := 1) rfl (by rw [e_x31]; rfl) (by decide) rfl (fun ls hl => ?_)
                    have e_x31 : x31 = nI (k1 + 1) := e_x31.trans (nI_add k1 1)
                    subst e_x31
                    refine lv_goto (tgt := 69) cx.x cx.b d_Mo_write_145 (by decide) ?_
                    exact ihO _ (k1 + 1) _ (X9 ++ (x9 ++ [10])) _ _ _ hlo (by omega) (by omega) (Mw.cg M29 rfl rfl rfl rfl rfl rfl rfl rfl rfl rfl rfl rfl rfl rfl (show (X9 ++ (x9 ++ [10])).length = X9.length + (n18 + 1) by rw [List.length_append, List.length_append, List.length_singleton, hn9]) rfl rfl rfl rfl rfl rfl rfl rfl rfl rfl rfl) (Tx_app h81 (fun i hi => h82 i (by rw [List.length_append, List.length_singleton] at hi; omega))) (by rw [List.append_assoc]; exact hX) _ (lv_sub hl [0, 2, 3] rfl)
                  · have c3 : j1 < (n18 + 1) := Nat.not_le.mp (fun zz => c3 ((nI_leI (a := (n18 + 1)) (b := j1) (by omega) (by omega)).mpr zz))
                    refine lv_aload_n cx.x cx.b d_Mo_write_104 rfl (lv_at hl 3 rfl) ?_
                    refine gf_Mo_7_Mo cx oM25 rfl d_Mo_write_105 ?_
                    refine lv_aload_n cx.x cx.b d_Mo_write_108 rfl (lv_at hl 3 rfl) ?_
                    refine gf_Mo_52_Mo cx oM25 rfl d_Mo_write_109 ?_
                    refine lv_iload cx.x cx.b d_Mo_write_112 (lv_at hl 0 rfl) ?_
                    refine lv_iadd cx.x cx.b d_Mo_write_114 ?_
                    refine lv_topi (fun x32 e_x32 => ?_)
                    have e_x32 : x32 = nI (X9.length + j1) := e_x32.trans (nI_add X9.length j1)
                    subst e_x32
                    refine lv_aload_n cx.x cx.b d_Mo_write_115 rfl (lv_at hl 3 rfl) ?_
                    refine gf_Mo_46_Mo cx oM25 rfl d_Mo_write_116 ?_
                    refine lv_iload cx.x cx.b d_Mo_write_119 (lv_at hl 0 rfl) ?_
                    refine hx_iald cx.x cx.b cx.K 0 (M7.1.2.1 12 (by decide)) rfl (show vp_in (nI j1) 300 from vp_in_nI (show j1 < 300 by omega) (by decide)) d_Mo_write_121 ?_
                    refine lv_topi (fun x33 e_x33 => ?_)
                    have e_x33 : x33 = nI ((x9 ++ [10]).getD j1 0) := e_x33.trans (congrArg nI ((congrArg (updN o17 n18 10) (nI_clamp (n := j1) (by omega))).trans (pl.2 j1 (by rw [List.length_append, List.length_singleton]; omega))))
                    subst e_x33
                    refine hx_iast cx.x cx.b cx.K 0 (M7.1.2.1 0 (by decide)) hlo (M7.1.2.2.2.1 0 (by decide)).1 rfl (show vp_in (nI (X9.length + j1)) 480 from vp_in_nI (show (X9.length + j1) < 480 by omega) (by decide)) d_Mo_write_122 (fun H34 locs ha35 z_H34 o_H34 hlo => ?_)
                    have M36 : Mw E H H34 a ad (up (up g.1 0 (updN T8 (X9.length + j1) ((x9 ++ [10]).getD j1 0))) 12 (updN o17 n18 10), up (up g.2 0 X9.length) 11 (n18 + 1)) := M7.ar (up (up g.1 0 (updN T8 (X9.length + j1) ((x9 ++ [10]).getD j1 0))) 12 (updN o17 n18 10), up (up g.2 0 X9.length) 11 (n18 + 1)) 0 (by decide) (by have h9 := ha35; rw [show (nI (X9.length + j1) : Int32).toNatClampNeg = (X9.length + j1) from nI_clamp (n := (X9.length + j1)) (by omega)] at h9; have h9 : hAi H34 (ad 0) (eA E 0) (arL 0) (upd (fun i => nI (T8 i)) (X9.length + j1) (nI ((x9 ++ [10]).getD j1 0))) := h9; rw [upd_nI] at h9; exact h9) z_H34 o_H34 rfl (fun j hj hn => arN0 hj hn rfl rfl rfl rfl rfl rfl rfl rfl rfl rfl rfl rfl rfl)
                    have oM37 : hOb (eD E) classes H34 a 10 [.ref (ad 0), .int (nI X9.length), .ref (ad 1), .int (nI (g.2 1)), .int (nI (g.2 2)), .ref (ad 2), .ref (ad 3), .ref (ad 4), .ref (ad 5), .ref (ad 6), .ref (ad 7), .ref (ad 8), .ref (ad 9), .ref (ad 10), .int (nI (g.2 3)), .int (nI (g.2 4)), .int (nI (g.2 5)), .int (nI (g.2 6)), .int (nI (g.2 7)), .ref (ad 11), .int (nI (g.2 8)), .int (nI (g.2 9)), .int (nI (g.2 10)), .ref (ad 12), .int (nI (n18 + 1)), .ref (ad 13)] := M36.1.1
                    obtain ⟨x38, e_x38⟩ : ∃ y : Int32, y = nI j1 + 1 := ⟨_, rfl⟩
                    refine lv_iinc (v := x38) (lv' := [(5, .int x38), (4, .int (nI k1)), (2, .int (nI b1)), (0, .ref a)]) cx.x cx.b d_Mo_write_123 hl (k := 0) rfl (by rw [e_x38]; rfl) (by decide) rfl (fun ls hl => ?_)
                    have e_x38 : x38 = nI (j1 + 1) := e_x38.trans (nI_add j1 1)
                    subst e_x38
                    refine lv_goto (tgt := 95) cx.x cx.b d_Mo_write_126 (by decide) ?_
                    exact ih _ (j1 + 1) _ _ hlo (by omega) (by omega) M36 (fun i hi => (updN_n (by omega)).trans (h81 i hi)) (fun i hi => by by_cases e : i = j1; rw [e]; exact updN_s; exact (updN_n (by omega)).trans (h82 i (by omega))) _ (lv_sub hl [0, 1, 2, 3] rfl)
              exact LC _ _ 0 T9 _ hlo (Nat.lt_succ_self _) (Nat.zero_le _) M23 hT (fun i hi => absurd hi (Nat.not_lt_zero i)) _ (lv_sub hl [0, 1, 2, 3] rfl)
      exact LQ _ _ 0 w8 [] (g.1 0) o8 _ hlo (Nat.lt_succ_self _) (Nat.zero_le _) (Mw.cg M10 rfl rfl rfl rfl rfl rfl rfl rfl rfl rfl rfl rfl rfl rfl rfl rfl rfl rfl rfl rfl rfl rfl rfl rfl rfl rfl) (fun i hi => absurd hi (Nat.not_lt_zero i)) hF _ (lv_sub hl [0, 2, 3] rfl)
    · have c1 : 480 < F.length := Nat.not_le.mp (fun zz => c1 ((nI_leI (a := F.length) (b := 480) (by omega) (by omega)).mpr zz))
      rw [if_neg (by omega), if_neg (by omega)] at hQ
      refine lv_iconst (v := (-1)) cx.x cx.b d_Mo_write_59 (by decide) ?_
      rw [← hQ]
      exact hx_reti cx.x cx.b cx.r cx.k rfl hlo (fun _ h => h) (Nat.le_of_ble_eq_true rfl) (Nat.le_of_ble_eq_true rfl) d_Mo_write_60 (⟨rfl, g.1 0, o8, g.2 0, w8, Mw.cg M5 rfl rfl rfl rfl rfl rfl rfl rfl rfl rfl rfl rfl rfl rfl rfl rfl rfl rfl rfl rfl rfl rfl rfl rfl rfl rfl, hx, hsz⟩)
  have LP : ∀ (k : Nat) (locs : List Loc) (k1 s1 w8 : Nat) (o8 : Nat → Nat) (H5 : Heap), hLo (eB E) locs → (110 - k1 < k) → (k1 ≤ 110) → (Mw E H H5 a ad (up g.1 12 o8, up g.2 11 w8)) → (s1 + (flT ((lns (g.1 3 b1) C).drop k1)).length = F.length) → ∀ ls, lv_has ls 6 [(4, .int (nI k1)), (3, .int (nI s1)), (2, .int (nI b1)), (0, .ref a)] → W p l e (rmA 4 0 0) s m args below meth c H5 locs 0 0 Q (F0 m 20 ls []) := by
    intro k
    induction k with
    | zero => intro locs k1 s1 w8 o8 H5 hlo hk hk1 M5 hs; exact absurd hk (by omega)
    | succ k ih =>
      intro locs k1 s1 w8 o8 H5 hlo hk hk1 M5 hs ls hl
      have oM39 : hOb (eD E) classes H5 a 10 [.ref (ad 0), .int (nI (g.2 0)), .ref (ad 1), .int (nI (g.2 1)), .int (nI (g.2 2)), .ref (ad 2), .ref (ad 3), .ref (ad 4), .ref (ad 5), .ref (ad 6), .ref (ad 7), .ref (ad 8), .ref (ad 9), .ref (ad 10), .int (nI (g.2 3)), .int (nI (g.2 4)), .int (nI (g.2 5)), .int (nI (g.2 6)), .int (nI (g.2 7)), .ref (ad 11), .int (nI (g.2 8)), .int (nI (g.2 9)), .int (nI (g.2 10)), .ref (ad 12), .int (nI w8), .ref (ad 13)] := M5.1.1
      refine lv_iload cx.x cx.b d_Mo_write_20 (lv_at hl 0 rfl) ?_
      refine lv_bipush (v := 110) cx.x cx.b d_Mo_write_22 (by decide) ?_
      refine lv_icmp_ge (tgt := 52) cx.x cx.b d_Mo_write_24 (by decide) (fun c1 => ?_) (fun c1 => ?_)
      · have c1 : 110 ≤ k1 := (nI_leI (a := 110) (b := k1) (by omega) (by omega)).mp c1
        rw [flT_none (List.getElem?_eq_none_iff.mpr (by omega))] at hs
        have hs : s1 = F.length := hs
        rw [hs] at hl
        exact MID _ o8 w8 _ hlo M5 _ (lv_sub hl [1, 2, 3] rfl)
      · have c1 : k1 < 110 := Nat.not_le.mp (fun zz => c1 ((nI_leI (a := 110) (b := k1) (by omega) (by omega)).mpr zz))
        refine lv_aload_n cx.x cx.b d_Mo_write_27 rfl (lv_at hl 3 rfl) ?_
        refine lv_iload_n cx.x cx.b d_Mo_write_28 rfl (lv_at hl 2 rfl) ?_
        refine lv_iload cx.x cx.b d_Mo_write_29 (lv_at hl 0 rfl) ?_
        refine hx_calli (iv_Mo_226_Mo cx (c_Mo_lineOf l hE M5.1 (b1 := b1) hb1 hU hC hI hfm (n1 := k1) (by omega)) oM39 rfl hl.1 rfl (Nat.le_of_ble_eq_true rfl) d_Mo_write_31 ⟨Nat.le_of_ble_eq_true rfl, Nat.le_of_ble_eq_true rfl⟩ ⟨Nat.le_of_ble_eq_true rfl, Nat.le_of_ble_eq_true rfl⟩) hlo (fun _ h => h) (fun r42 H41 locs hp40 hlo => ?_)
        obtain ⟨o44, n45, q_M43, pl0⟩ := hp40
        have M43 : Mw E H H41 a ad (up g.1 12 o44, up g.2 11 n45) := Mw.cg (M5.tr q_M43) rfl rfl rfl rfl rfl rfl rfl rfl rfl rfl rfl rfl rfl rfl rfl rfl rfl rfl rfl rfl rfl rfl rfl rfl rfl rfl
        have pl1 : LnO (lns (g.1 3 b1) C)[k1]? r42 o44 n45 := pl0
        clear pl0
        rcases hq : (lns (g.1 3 b1) C)[k1]? with _ | x9
        · rw [hq] at pl1
          obtain ⟨pr, pl⟩ := pl1
          subst pr
          have oM46 : hOb (eD E) classes H41 a 10 [.ref (ad 0), .int (nI (g.2 0)), .ref (ad 1), .int (nI (g.2 1)), .int (nI (g.2 2)), .ref (ad 2), .ref (ad 3), .ref (ad 4), .ref (ad 5), .ref (ad 6), .ref (ad 7), .ref (ad 8), .ref (ad 9), .ref (ad 10), .int (nI (g.2 3)), .int (nI (g.2 4)), .int (nI (g.2 5)), .int (nI (g.2 6)), .int (nI (g.2 7)), .ref (ad 11), .int (nI (g.2 8)), .int (nI (g.2 9)), .int (nI (g.2 10)), .ref (ad 12), .int (nI n45), .ref (ad 13)] := M43.1.1
          rw [flT_none hq] at hs
          refine lv_if_eq (tgt := 52) cx.x cx.b d_Mo_write_34 (by decide) (fun _ => ?_) (fun c => absurd (by decide) c)
          have hs : s1 = F.length := hs
          rw [hs] at hl
          exact MID _ o44 n45 _ hlo M43 _ (lv_sub hl [1, 2, 3] rfl)
        · rw [hq] at pl1
          obtain ⟨pr, pl⟩ := pl1
          subst pr
          have oM47 : hOb (eD E) classes H41 a 10 [.ref (ad 0), .int (nI (g.2 0)), .ref (ad 1), .int (nI (g.2 1)), .int (nI (g.2 2)), .ref (ad 2), .ref (ad 3), .ref (ad 4), .ref (ad 5), .ref (ad 6), .ref (ad 7), .ref (ad 8), .ref (ad 9), .ref (ad 10), .int (nI (g.2 3)), .int (nI (g.2 4)), .int (nI (g.2 5)), .int (nI (g.2 6)), .int (nI (g.2 7)), .ref (ad 11), .int (nI (g.2 8)), .int (nI (g.2 9)), .int (nI (g.2 10)), .ref (ad 12), .int (nI n45), .ref (ad 13)] := M43.1.1
          have hx9 := hL2 x9 (List.mem_of_getElem? hq)
          have hn9 := pl.1
          rw [flT_some hq, List.length_append, List.length_append, List.length_singleton] at hs
          refine lv_if_eq (tgt := 52) cx.x cx.b d_Mo_write_34 (by decide) (fun c => absurd c (by decide)) (fun _ => ?_)
          refine lv_iload_n cx.x cx.b d_Mo_write_37 rfl (lv_at hl 1 rfl) ?_
          refine lv_aload_n cx.x cx.b d_Mo_write_38 rfl (lv_at hl 3 rfl) ?_
          refine gf_Mo_195_Mo cx oM47 rfl d_Mo_write_39 ?_
          refine lv_iconst (v := 1) cx.x cx.b d_Mo_write_42 (by decide) ?_
          refine lv_iadd cx.x cx.b d_Mo_write_43 ?_
          refine lv_topi (fun x48 e_x48 => ?_)
          have e_x48 : x48 = nI (n45 + 1) := e_x48.trans (nI_add n45 1)
          subst e_x48
          refine lv_iadd cx.x cx.b d_Mo_write_44 ?_
          refine lv_topi (fun x49 e_x49 => ?_)
          have e_x49 : x49 = nI (s1 + (n45 + 1)) := e_x49.trans (nI_add s1 (n45 + 1))
          subst e_x49
          refine lv_istore_n (lv' := [(3, .int (nI (s1 + (n45 + 1)))), (4, .int (nI k1)), (2, .int (nI b1)), (0, .ref a)]) cx.x cx.b d_Mo_write_45 rfl hl (by decide) rfl (fun ls hl => ?_)
          obtain ⟨x50, e_x50⟩ : ∃ y : Int32, y = nI k1 + 1 := ⟨_, rfl⟩
          refine lv_iinc (v := x50) (lv' := [(4, .int x50), (3, .int (nI (s1 + (n45 + 1)))), (2, .int (nI b1)), (0, .ref a)]) cx.x cx.b d_Mo_write_46 hl (k := 1) rfl (by rw [e_x50]; rfl) (by decide) rfl (fun ls hl => ?_)
          have e_x50 : x50 = nI (k1 + 1) := e_x50.trans (nI_add k1 1)
          subst e_x50
          refine lv_goto (tgt := 20) cx.x cx.b d_Mo_write_49 (by decide) ?_
          exact ih _ (k1 + 1) (s1 + (n45 + 1)) _ _ _ hlo (by omega) (by omega) M43 (by omega) _ (lv_sub hl [0, 1, 2, 3] rfl)
  exact LP _ _ 0 0 (g.2 11) (g.1 12) _ hlo (Nat.lt_succ_self _) (Nat.zero_le _) (Mw.cg M0 rfl rfl rfl rfl rfl rfl rfl rfl rfl rfl rfl rfl rfl rfl rfl rfl rfl rfl rfl rfl rfl rfl rfl rfl rfl rfl) (by rw [List.drop_zero, Nat.zero_add, hF]) _ (lv_sub hl [0, 1, 2, 3] rfl)
