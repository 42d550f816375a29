theorem lcE {x : List Nat} (hx : okW x) (i K : Nat) (hi : i < 14) (hK : K = wnum (strL i)) (hc : lg_cmp (lN (wrd x)) (lN K) = 0) : x = strL i := by
  have h3 := wnum_lt (fun c hc => ((strL_w i hi).1 c hc).2) (strL_w i hi).2.1
  exact (wrd_is hx i K hi hK).mp ((pk_lEQ (wrd_lt (fun c hc => (hx c hc).2)) (by omega)).mp ((lg_cmp_eq _ _).mp hc))
theorem lcN {x : List Nat} (hx : okW x) (i K : Nat) (hi : i < 14) (hK : K = wnum (strL i)) (hc : ¬ lg_cmp (lN (wrd x)) (lN K) = 0) : ¬ x = strL i := fun z => hc ((lg_cmp_eq _ _).mpr (congrArg lN ((wrd_is hx i K hi hK).mpr z)))
theorem wdO_snoc {txt : List Nat} {i q : Nat} (h1 : i ≤ q) (h2 : q < txt.length) : wdO txt i (q + 1) = wdO txt i q ++ [txt.getD q 0] := by
  unfold wdO
  rw [List.take_add_one, List.drop_append_of_le_length (by rw [List.length_take]; omega), List.getElem?_eq_getElem h2, List.getD_eq_getElem?_getD, List.getElem?_eq_getElem h2]
  rfl
theorem wdO_self (txt : List Nat) (i : Nat) : wdO txt i i = [] := by unfold wdO; rw [List.drop_eq_nil_of_le (by rw [List.length_take]; omega)]
theorem wdO_okW {txt : List Nat} {i j : Nat} (h : ∀ x ∈ txt, okC x = true) : okW (wdO txt i j) := fun c hc => by
  have := h c (List.mem_of_mem_take (List.mem_of_mem_drop hc))
  unfold okC at this
  rw [decide_eq_true_eq] at this
  omega
set_option maxHeartbeats 4000000 in
set_option maxRecDepth 100000 in
theorem c_Mo_next (l : Launch) {E : hE} (hE : EnvOk E) {H : Heap} {a : Nat} {ad : Nat → Nat} {g : MS} (M : Mo E H a ad g) {txt : List Nat} (hx : Tx (g.1 0) txt) (hxc : ∀ x ∈ txt, okC x = true) (hxl : txt.length ≤ 480) (hwe : g.2 6 ≤ g.2 4) (hen : g.2 4 ≤ txt.length) : Ct l E y_Mo_next b_Mo_next 2 (some .boolean) (rmA 0 0 0) [.ref a] H (hQi (fun r H1 => r = bI (decide (wdS (txt.take (g.2 4)) (g.2 6) < g.2 4)) ∧ Mw E H H1 a ad (g.1, up (up g.2 5 (wdS (txt.take (g.2 4)) (g.2 6))) 6 (if wdS (txt.take (g.2 4)) (g.2 6) < g.2 4 then wdE (txt.take (g.2 4)) (wdS (txt.take (g.2 4)) (g.2 6)) else g.2 6)))) := by
  refine hx_enter hE (by decide) (Nat.le_of_ble_eq_true rfl) ?_
  intro p e s m args below meth c ls cx hnm hl
  have hl : lv_has ls 2 [(0, .ref a)] := hl
  have hlo : hLo (eB E) [] := hLo.nil
  generalize hQ : MQ below _ args s _ _ _ = Q
  have M0 : Mw E H H a ad g := ⟨M, hCh.rf, rfl⟩
  have hT := len_take hen
  have a1 := wdS_le (L := (txt.take (g.2 4))) (i := g.2 6) (by omega)
  generalize hS9 : wdS (txt.take (g.2 4)) (g.2 6) = S at hQ a1
  have hS9 : skBl ((txt.take (g.2 4)).drop (g.2 6)) (g.2 6) = S := hS9
  have ED : ∀ (locs : List Loc) , hLo (eB E) locs → ∀ ls, lv_has ls 2 [(1, .int (nI S)), (0, .ref a)] → W p l e (rmA 0 0 0) s m args below meth c H locs 0 0 Q (F0 m 30 ls []) := by
    intro locs  hlo  ls hl
    refine lv_aload_n cx.x cx.b d_Mo_next_30 rfl (lv_at hl 1 rfl) ?_
    refine lv_iload_n cx.x cx.b d_Mo_next_31 rfl (lv_at hl 0 rfl) ?_
    refine pf_Mo_68_Mo cx M0.1.1 hlo M0.1.2.2.1 (Nat.le_of_ble_eq_true rfl) d_Mo_next_32 (fun H1 locs ho2 z_H1 o_H1 hlo => ?_)
    have ho2 : hOb (eD E) classes H1 a 10 [.ref (ad 0), .int (nI (g.2 0)), .ref (ad 1), .int (nI (g.2 1)), .int (nI (g.2 2)), .ref (ad 2), .ref (ad 3), .ref (ad 4), .ref (ad 5), .ref (ad 6), .ref (ad 7), .ref (ad 8), .ref (ad 9), .ref (ad 10), .int (nI (g.2 3)), .int (nI (g.2 4)), .int (nI S), .int (nI (g.2 6)), .int (nI (g.2 7)), .ref (ad 11), .int (nI (g.2 8)), .int (nI (g.2 9)), .int (nI (g.2 10)), .ref (ad 12), .int (nI (g.2 11)), .ref (ad 13)] := ho2
    have M3 : Mw E H H1 a ad (g.1, up g.2 5 S) := M0.sc (g.1, up g.2 5 S) ho2 z_H1 o_H1 rfl
    have oM4 : hOb (eD E) classes H1 a 10 [.ref (ad 0), .int (nI (g.2 0)), .ref (ad 1), .int (nI (g.2 1)), .int (nI (g.2 2)), .ref (ad 2), .ref (ad 3), .ref (ad 4), .ref (ad 5), .ref (ad 6), .ref (ad 7), .ref (ad 8), .ref (ad 9), .ref (ad 10), .int (nI (g.2 3)), .int (nI (g.2 4)), .int (nI S), .int (nI (g.2 6)), .int (nI (g.2 7)), .ref (ad 11), .int (nI (g.2 8)), .int (nI (g.2 9)), .int (nI (g.2 10)), .ref (ad 12), .int (nI (g.2 11)), .ref (ad 13)] := M3.1.1
    refine lv_iload_n cx.x cx.b d_Mo_next_35 rfl (lv_at hl 0 rfl) ?_
    refine lv_aload_n cx.x cx.b d_Mo_next_36 rfl (lv_at hl 1 rfl) ?_
    refine gf_Mo_65_Mo cx oM4 rfl d_Mo_next_37 ?_
    refine lv_icmp_lt (tgt := 45) cx.x cx.b d_Mo_next_40 (by decide) (fun c1 => ?_) (fun c1 => ?_)
    · have c1 : S < (g.2 4) := (nI_ltI (a := S) (b := (g.2 4)) (by omega) (by omega)).mp c1
      rw [decide_eq_true c1, if_pos c1] at hQ
      have a2 := wdE_le (L := (txt.take (g.2 4))) (i := S) (by omega)
      generalize hW9 : wdE (txt.take (g.2 4)) S = W9 at hQ a2
      have hW9 : edW ((txt.take (g.2 4)).drop S) S = W9 := hW9
      have LP2 : ∀ (k : Nat) (locs : List Loc) (p1 : Nat), hLo (eB E) locs → (g.2 4 - p1 < k) → (p1 ≤ g.2 4) → (edW ((txt.take (g.2 4)).drop p1) p1 = W9) → ∀ ls, lv_has ls 2 [(1, .int (nI p1)), (0, .ref a)] → W p l e (rmA 0 0 0) s m args below meth c H1 locs 0 0 Q (F0 m 45 ls []) := by
        intro k
        induction k with
        | zero => intro locs p1 hlo hk hp1 hi; exact absurd hk (by omega)
        | succ k ih =>
          intro locs p1 hlo hk hp1 hi ls hl
          refine lv_iload_n cx.x cx.b d_Mo_next_45 rfl (lv_at hl 0 rfl) ?_
          refine lv_aload_n cx.x cx.b d_Mo_next_46 rfl (lv_at hl 1 rfl) ?_
          refine gf_Mo_65_Mo cx oM4 rfl d_Mo_next_47 ?_
          refine lv_icmp_ge (tgt := 70) cx.x cx.b d_Mo_next_50 (by decide) (fun c2 => ?_) (fun c2 => ?_)
          · have c2 : (g.2 4) ≤ p1 := (nI_leI (a := (g.2 4)) (b := p1) (by omega) (by omega)).mp c2
            rw [drop_nil (by omega)] at hi
            have hi : p1 = W9 := hi
            rw [← hi] at hQ
            refine lv_aload_n cx.x cx.b d_Mo_next_70 rfl (lv_at hl 1 rfl) ?_
            refine lv_iload_n cx.x cx.b d_Mo_next_71 rfl (lv_at hl 0 rfl) ?_
            refine pf_Mo_62_Mo cx oM4 hlo M3.1.2.2.1 (Nat.le_of_ble_eq_true rfl) d_Mo_next_72 (fun H5 locs ho6 z_H5 o_H5 hlo => ?_)
            have ho6 : hOb (eD E) classes H5 a 10 [.ref (ad 0), .int (nI (g.2 0)), .ref (ad 1), .int (nI (g.2 1)), .int (nI (g.2 2)), .ref (ad 2), .ref (ad 3), .ref (ad 4), .ref (ad 5), .ref (ad 6), .ref (ad 7), .ref (ad 8), .ref (ad 9), .ref (ad 10), .int (nI (g.2 3)), .int (nI (g.2 4)), .int (nI S), .int (nI p1), .int (nI (g.2 7)), .ref (ad 11), .int (nI (g.2 8)), .int (nI (g.2 9)), .int (nI (g.2 10)), .ref (ad 12), .int (nI (g.2 11)), .ref (ad 13)] := ho6
            have M7 : Mw E H H5 a ad (g.1, up (up g.2 5 S) 6 p1) := M3.sc (g.1, up (up g.2 5 S) 6 p1) ho6 z_H5 o_H5 rfl
            have oM8 : hOb (eD E) classes H5 a 10 [.ref (ad 0), .int (nI (g.2 0)), .ref (ad 1), .int (nI (g.2 1)), .int (nI (g.2 2)), .ref (ad 2), .ref (ad 3), .ref (ad 4), .ref (ad 5), .ref (ad 6), .ref (ad 7), .ref (ad 8), .ref (ad 9), .ref (ad 10), .int (nI (g.2 3)), .int (nI (g.2 4)), .int (nI S), .int (nI p1), .int (nI (g.2 7)), .ref (ad 11), .int (nI (g.2 8)), .int (nI (g.2 9)), .int (nI (g.2 10)), .ref (ad 12), .int (nI (g.2 11)), .ref (ad 13)] := M7.1.1
            refine lv_iconst (v := 1) cx.x cx.b d_Mo_next_75 (by decide) ?_
            rw [← hQ]
            exact hx_reti cx.x cx.b cx.r cx.k rfl hlo (fun _ h => h) (Nat.le_of_ble_eq_true rfl) (Nat.le_of_ble_eq_true rfl) d_Mo_next_76 (⟨rfl, M7⟩)
          · have c2 : p1 < (g.2 4) := Nat.not_le.mp (fun zz => c2 ((nI_leI (a := (g.2 4)) (b := p1) (by omega) (by omega)).mpr zz))
            rw [edW_step (by omega), getD_take c2] at hi
            refine lv_aload_n cx.x cx.b d_Mo_next_53 rfl (lv_at hl 1 rfl) ?_
            refine gf_Mo_7_Mo cx oM4 rfl d_Mo_next_54 ?_
            refine lv_iload_n cx.x cx.b d_Mo_next_57 rfl (lv_at hl 0 rfl) ?_
            refine hx_iald cx.x cx.b cx.K 0 (M3.1.2.1 0 (by decide)) rfl (show vp_in (nI p1) 480 from vp_in_nI (show p1 < 480 by omega) (by decide)) d_Mo_next_58 ?_
            refine lv_topi (fun x9 e_x9 => ?_)
            have hb9 : txt.getD p1 0 < 128 := okC_lt (hxc _ (getD_mem (show p1 < txt.length by omega)))
            have e_x9 : x9 = nI (txt.getD p1 0) := e_x9.trans (congrArg nI ((congrArg (g.1 0) (nI_clamp (n := p1) (by omega))).trans (hx p1 (by omega))))
            subst e_x9
            refine lv_bipush (v := 32) cx.x cx.b d_Mo_next_59 (by decide) ?_
            refine lv_icmp_eq (tgt := 70) cx.x cx.b d_Mo_next_61 (by decide) (fun c3 => ?_) (fun c3 => ?_)
            · have c3 : (txt.getD p1 0) = 32 := (nI_eq (a := (txt.getD p1 0)) (b := 32) (by omega) (by omega)).mp c3
              rw [if_pos c3] at hi
              rw [← hi] at hQ
              refine lv_aload_n cx.x cx.b d_Mo_next_70 rfl (lv_at hl 1 rfl) ?_
              refine lv_iload_n cx.x cx.b d_Mo_next_71 rfl (lv_at hl 0 rfl) ?_
              refine pf_Mo_62_Mo cx oM4 hlo M3.1.2.2.1 (Nat.le_of_ble_eq_true rfl) d_Mo_next_72 (fun H10 locs ho11 z_H10 o_H10 hlo => ?_)
              have ho11 : hOb (eD E) classes H10 a 10 [.ref (ad 0), .int (nI (g.2 0)), .ref (ad 1), .int (nI (g.2 1)), .int (nI (g.2 2)), .ref (ad 2), .ref (ad 3), .ref (ad 4), .ref (ad 5), .ref (ad 6), .ref (ad 7), .ref (ad 8), .ref (ad 9), .ref (ad 10), .int (nI (g.2 3)), .int (nI (g.2 4)), .int (nI S), .int (nI p1), .int (nI (g.2 7)), .ref (ad 11), .int (nI (g.2 8)), .int (nI (g.2 9)), .int (nI (g.2 10)), .ref (ad 12), .int (nI (g.2 11)), .ref (ad 13)] := ho11
              have M12 : Mw E H H10 a ad (g.1, up (up g.2 5 S) 6 p1) := M3.sc (g.1, up (up g.2 5 S) 6 p1) ho11 z_H10 o_H10 rfl
              have oM13 : hOb (eD E) classes H10 a 10 [.ref (ad 0), .int (nI (g.2 0)), .ref (ad 1), .int (nI (g.2 1)), .int (nI (g.2 2)), .ref (ad 2), .ref (ad 3), .ref (ad 4), .ref (ad 5), .ref (ad 6), .ref (ad 7), .ref (ad 8), .ref (ad 9), .ref (ad 10), .int (nI (g.2 3)), .int (nI (g.2 4)), .int (nI S), .int (nI p1), .int (nI (g.2 7)), .ref (ad 11), .int (nI (g.2 8)), .int (nI (g.2 9)), .int (nI (g.2 10)), .ref (ad 12), .int (nI (g.2 11)), .ref (ad 13)] := M12.1.1
              refine lv_iconst (v := 1) cx.x cx.b d_Mo_next_75 (by decide) ?_
              rw [← hQ]
              exact hx_reti cx.x cx.b cx.r cx.k rfl hlo (fun _ h => h) (Nat.le_of_ble_eq_true rfl) (Nat.le_of_ble_eq_true rfl) d_Mo_next_76 (⟨rfl, M12⟩)
            · have c3 : (txt.getD p1 0) ≠ 32 := fun zz => c3 ((nI_eq (a := (txt.getD p1 0)) (b := 32) (by omega) (by omega)).mpr zz)
              rw [if_neg c3] at hi
              obtain ⟨x14, e_x14⟩ : ∃ y : Int32, y = nI p1 + 1 := ⟨_, rfl⟩
              refine lv_iinc (v := x14) (lv' := [(1, .int x14), (0, .ref a)]) cx.x cx.b d_Mo_next_64 hl (k := 0) rfl (by rw [e_x14]; rfl) (by decide) rfl (fun ls hl => ?_)
              have e_x14 : x14 = nI (p1 + 1) := e_x14.trans (nI_add p1 1)
              subst e_x14
              refine lv_goto (tgt := 45) cx.x cx.b d_Mo_next_67 (by decide) ?_
              exact ih _ (p1 + 1) hlo (by omega) (by omega) hi _ (lv_sub hl [0, 1] rfl)
      exact LP2 _ _ S hlo (Nat.lt_succ_self _) (by omega) hW9 _ hl
    · have c1 : (g.2 4) ≤ S := Nat.not_lt.mp (fun zz => c1 ((nI_ltI (a := S) (b := (g.2 4)) (by omega) (by omega)).mpr zz))
      rw [decide_eq_false (show ¬ S < g.2 4 by omega), if_neg (show ¬ S < g.2 4 by omega), show up (up g.2 5 S) 6 (g.2 6) = up g.2 5 S from up_id (up g.2 5 S) 6] at hQ
      refine lv_iconst (v := 0) cx.x cx.b d_Mo_next_43 (by decide) ?_
      rw [← hQ]
      exact hx_reti cx.x cx.b cx.r cx.k rfl hlo (fun _ h => h) (Nat.le_of_ble_eq_true rfl) (Nat.le_of_ble_eq_true rfl) d_Mo_next_44 (⟨rfl, M3⟩)
  have LP : ∀ (k : Nat) (locs : List Loc) (p1 : Nat), hLo (eB E) locs → (g.2 4 - p1 < k) → (p1 ≤ g.2 4) → (skBl ((txt.take (g.2 4)).drop p1) p1 = S) → ∀ ls, lv_has ls 2 [(1, .int (nI p1)), (0, .ref a)] → W p l e (rmA 0 0 0) s m args below meth c H locs 0 0 Q (F0 m 5 ls []) := by
    intro k
    induction k with
    | zero => intro locs p1 hlo hk hp1 hi; exact absurd hk (by omega)
    | succ k ih =>
      intro locs p1 hlo hk hp1 hi ls hl
      refine lv_iload_n cx.x cx.b d_Mo_next_5 rfl (lv_at hl 0 rfl) ?_
      refine lv_aload_n cx.x cx.b d_Mo_next_6 rfl (lv_at hl 1 rfl) ?_
      refine gf_Mo_65_Mo cx M0.1.1 rfl d_Mo_next_7 ?_
      refine lv_icmp_ge (tgt := 30) cx.x cx.b d_Mo_next_10 (by decide) (fun c2 => ?_) (fun c2 => ?_)
      · have c2 : (g.2 4) ≤ p1 := (nI_leI (a := (g.2 4)) (b := p1) (by omega) (by omega)).mp c2
        rw [drop_nil (by omega)] at hi
        have hi : p1 = S := hi
        subst hi
        exact ED _ hlo _ (lv_sub hl [0, 1] rfl)
      · have c2 : p1 < (g.2 4) := Nat.not_le.mp (fun zz => c2 ((nI_leI (a := (g.2 4)) (b := p1) (by omega) (by omega)).mpr zz))
        rw [skBl_step (by omega), getD_take c2] at hi
        refine lv_aload_n cx.x cx.b d_Mo_next_13 rfl (lv_at hl 1 rfl) ?_
        refine gf_Mo_7_Mo cx M0.1.1 rfl d_Mo_next_14 ?_
        refine lv_iload_n cx.x cx.b d_Mo_next_17 rfl (lv_at hl 0 rfl) ?_
        refine hx_iald cx.x cx.b cx.K 0 (M0.1.2.1 0 (by decide)) rfl (show vp_in (nI p1) 480 from vp_in_nI (show p1 < 480 by omega) (by decide)) d_Mo_next_18 ?_
        refine lv_topi (fun x15 e_x15 => ?_)
        have hb9 : txt.getD p1 0 < 128 := okC_lt (hxc _ (getD_mem (show p1 < txt.length by omega)))
        have e_x15 : x15 = nI (txt.getD p1 0) := e_x15.trans (congrArg nI ((congrArg (g.1 0) (nI_clamp (n := p1) (by omega))).trans (hx p1 (by omega))))
        subst e_x15
        refine lv_bipush (v := 32) cx.x cx.b d_Mo_next_19 (by decide) ?_
        refine lv_icmp_ne (tgt := 30) cx.x cx.b d_Mo_next_21 (by decide) (fun c3 => ?_) (fun c3 => ?_)
        · have c3 : (txt.getD p1 0) ≠ 32 := fun zz => c3 ((nI_eq (a := (txt.getD p1 0)) (b := 32) (by omega) (by omega)).mpr zz)
          rw [if_neg c3] at hi
          subst hi
          exact ED _ hlo _ (lv_sub hl [0, 1] rfl)
        · have c3 : (txt.getD p1 0) = 32 := (nI_eq (a := (txt.getD p1 0)) (b := 32) (by omega) (by omega)).mp c3
          rw [if_pos c3] at hi
          obtain ⟨x16, e_x16⟩ : ∃ y : Int32, y = nI p1 + 1 := ⟨_, rfl⟩
          refine lv_iinc (v := x16) (lv' := [(1, .int x16), (0, .ref a)]) cx.x cx.b d_Mo_next_24 hl (k := 0) rfl (by rw [e_x16]; rfl) (by decide) rfl (fun ls hl => ?_)
          have e_x16 : x16 = nI (p1 + 1) := e_x16.trans (nI_add p1 1)
          subst e_x16
          refine lv_goto (tgt := 5) cx.x cx.b d_Mo_next_27 (by decide) ?_
          exact ih _ (p1 + 1) hlo (by omega) (by omega) hi _ (lv_sub hl [0, 1] rfl)
  refine lv_aload_n cx.x cx.b d_Mo_next_0 rfl (lv_at hl 0 rfl) ?_
  refine gf_Mo_62_Mo cx M0.1.1 rfl d_Mo_next_1 ?_
  refine lv_istore_n (lv' := [(1, .int (nI (g.2 6))), (0, .ref a)]) cx.x cx.b d_Mo_next_4 rfl hl (by decide) rfl (fun ls hl => ?_)
  exact LP _ _ _ hlo (Nat.lt_succ_self _) hwe hS9 _ hl

set_option maxHeartbeats 4000000 in
set_option maxRecDepth 100000 in
theorem c_Mo_word (l : Launch) {E : hE} (hE : EnvOk E) {H : Heap} {a : Nat} {ad : Nat → Nat} {g : MS} (M : Mo E H a ad g) {txt : List Nat} (hx : Tx (g.1 0) txt) (hxc : ∀ x ∈ txt, okC x = true) (hxl : txt.length ≤ 480) (h1 : g.2 5 ≤ g.2 6) (h2 : g.2 6 ≤ g.2 4) (h3 : g.2 5 < g.2 4) (hen : g.2 4 ≤ txt.length) : Ct l E y_Mo_word b_Mo_word 4 (some .long) (rmA 0 0 0) [.ref a] H (hQl (fun r H1 => r = lN (wrd (wdO txt (g.2 5) (g.2 6))) ∧ H1 = H)) := by
  refine hx_enter hE (by decide) (Nat.le_of_ble_eq_true rfl) ?_
  intro p e s m args below meth c ls cx hnm hl
  have hl : lv_has ls 4 [(0, .ref a)] := hl
  have hlo : hLo (eB E) [] := hLo.nil
  generalize hQ : MQ below _ args s _ _ _ = Q
  have M0 : Mw E H H a ad g := ⟨M, hCh.rf, rfl⟩
  have hwl := wdO_len (txt := txt) (ws := g.2 5) (we := g.2 6) (by omega)
  unfold wrd at hQ
  refine lv_aload_n cx.x cx.b d_Mo_word_0 rfl (lv_at hl 0 rfl) ?_
  refine gf_Mo_62_Mo cx M0.1.1 rfl d_Mo_word_1 ?_
  refine lv_aload_n cx.x cx.b d_Mo_word_4 rfl (lv_at hl 0 rfl) ?_
  refine gf_Mo_68_Mo cx M0.1.1 rfl d_Mo_word_5 ?_
  refine lv_isub cx.x cx.b d_Mo_word_8 ?_
  refine lv_topi (fun x17 e_x17 => ?_)
  have e_x17 : x17 = nI (g.2 6 - g.2 5) := e_x17.trans (pk_sub (a := g.2 6) (b := g.2 5) h1)
  subst e_x17
  refine lv_bipush (v := 9) cx.x cx.b d_Mo_word_9 (by decide) ?_
  refine lv_icmp_gt (tgt := 25) cx.x cx.b d_Mo_word_11 (by decide) (fun c1 => ?_) (fun c1 => ?_)
  · have c1 : 9 < (g.2 6 - g.2 5) := (nI_ltI (a := 9) (b := (g.2 6 - g.2 5)) (by omega) (by omega)).mp c1
    rw [if_pos (by omega)] at hQ
    refine lv_lconst (v := 0) cx.x cx.b d_Mo_word_25 (by decide) ?_
    rw [← hQ]
    exact hx_retl cx.x cx.b cx.r cx.k hlo (fun _ h => h) (Nat.le_of_ble_eq_true rfl) (Nat.le_of_ble_eq_true rfl) d_Mo_word_26 (⟨rfl, rfl⟩)
  · have c1 : (g.2 6 - g.2 5) ≤ 9 := Nat.not_lt.mp (fun zz => c1 ((nI_ltI (a := 9) (b := (g.2 6 - g.2 5)) (by omega) (by omega)).mpr zz))
    rw [if_neg (by omega)] at hQ
    refine lv_aload_n cx.x cx.b d_Mo_word_14 rfl (lv_at hl 0 rfl) ?_
    refine gf_Mo_68_Mo cx M0.1.1 rfl d_Mo_word_15 ?_
    refine lv_aload_n cx.x cx.b d_Mo_word_18 rfl (lv_at hl 0 rfl) ?_
    refine gf_Mo_65_Mo cx M0.1.1 rfl d_Mo_word_19 ?_
    refine lv_icmp_lt (tgt := 27) cx.x cx.b d_Mo_word_22 (by decide) (fun _ => ?_) (fun c => absurd ((nI_ltI (a := g.2 5) (b := g.2 4) (by omega) (by omega)).mpr h3) c)
    refine lv_lconst (v := 0) cx.x cx.b d_Mo_word_27 (by decide) ?_
    refine lv_lstore_n (lv' := [(1, .long 0), (0, .ref a)]) cx.x cx.b d_Mo_word_28 rfl hl (by decide) rfl (fun ls hl => ?_)
    refine lv_aload_n cx.x cx.b d_Mo_word_29 rfl (lv_at hl 1 rfl) ?_
    refine gf_Mo_68_Mo cx M0.1.1 rfl d_Mo_word_30 ?_
    refine lv_istore_n (lv' := [(3, .int (nI (g.2 5))), (1, .long 0), (0, .ref a)]) cx.x cx.b d_Mo_word_33 rfl hl (by decide) rfl (fun ls hl => ?_)
    have dt : ∀ q, g.2 5 ≤ q → q < g.2 6 → wdO txt (g.2 5) (q + 1) = wdO txt (g.2 5) q ++ [txt.getD q 0] := fun q h8 h9 => wdO_snoc h8 (by omega)
    have LP : ∀ (k : Nat) (locs : List Loc) (p1 : Nat) (w1 : Int64), hLo (eB E) locs → (g.2 6 - p1 < k) → (g.2 5 ≤ p1 ∧ p1 ≤ g.2 6) → (w1 = lN (wnum (wdO txt (g.2 5) p1))) → ∀ ls, lv_has ls 4 [(3, .int (nI p1)), (1, .long w1), (0, .ref a)] → W p l e (rmA 0 0 0) s m args below meth c H locs 0 0 Q (F0 m 34 ls []) := by
      intro k
      induction k with
      | zero => intro locs p1 w1 hlo hk hp1 hi; exact absurd hk (by omega)
      | succ k ih =>
        intro locs p1 w1 hlo hk hp1 hi ls hl
        refine lv_iload_n cx.x cx.b d_Mo_word_34 rfl (lv_at hl 0 rfl) ?_
        refine lv_aload_n cx.x cx.b d_Mo_word_35 rfl (lv_at hl 2 rfl) ?_
        refine gf_Mo_62_Mo cx M0.1.1 rfl d_Mo_word_36 ?_
        refine lv_icmp_ge (tgt := 62) cx.x cx.b d_Mo_word_39 (by decide) (fun c2 => ?_) (fun c2 => ?_)
        · have c2 : (g.2 6) ≤ p1 := (nI_leI (a := (g.2 6)) (b := p1) (by omega) (by omega)).mp c2
          have e9 : p1 = g.2 6 := by omega
          rw [e9] at hi
          refine lv_lload_n cx.x cx.b d_Mo_word_62 rfl (lv_at hl 1 rfl) ?_
          rw [← hQ]
          exact hx_retl cx.x cx.b cx.r cx.k hlo (fun _ h => h) (Nat.le_of_ble_eq_true rfl) (Nat.le_of_ble_eq_true rfl) d_Mo_word_63 (⟨hi, rfl⟩)
        · have c2 : p1 < (g.2 6) := Nat.not_le.mp (fun zz => c2 ((nI_leI (a := (g.2 6)) (b := p1) (by omega) (by omega)).mpr zz))
          subst hi
          refine lv_lload_n cx.x cx.b d_Mo_word_42 rfl (lv_at hl 1 rfl) ?_
          refine lv_ldc2 cx.x cx.b cx.o (cx.ts _ tw_913) d_Mo_word_43 ?_
          refine lv_lmul cx.x cx.b d_Mo_word_46 ?_
          refine lv_topl (fun x18 e_x18 => ?_)
          refine lv_aload_n cx.x cx.b d_Mo_word_47 rfl (lv_at hl 2 rfl) ?_
          refine gf_Mo_7_Mo cx M0.1.1 rfl d_Mo_word_48 ?_
          refine lv_iload_n cx.x cx.b d_Mo_word_51 rfl (lv_at hl 0 rfl) ?_
          refine hx_iald cx.x cx.b cx.K 0 (M0.1.2.1 0 (by decide)) rfl (show vp_in (nI p1) 480 from vp_in_nI (show p1 < 480 by omega) (by decide)) d_Mo_word_52 ?_
          refine lv_topi (fun x19 e_x19 => ?_)
          have hb9 : txt.getD p1 0 < 128 := okC_lt (hxc _ (getD_mem (show p1 < txt.length by omega)))
          have e_x19 : x19 = nI (txt.getD p1 0) := e_x19.trans (congrArg nI ((congrArg (g.1 0) (nI_clamp (n := p1) (by omega))).trans (hx p1 (by omega))))
          subst e_x19
          refine lv_i2l cx.x cx.b d_Mo_word_53 rfl ?_
          refine lv_topl (fun x20 e_x20 => ?_)
          refine lv_ladd cx.x cx.b d_Mo_word_54 ?_
          refine lv_topl (fun x21 e_x21 => ?_)
          refine lv_lstore_n (lv' := [(1, .long x21), (3, .int (nI p1)), (0, .ref a)]) cx.x cx.b d_Mo_word_55 rfl hl (by decide) rfl (fun ls hl => ?_)
          obtain ⟨x22, e_x22⟩ : ∃ y : Int32, y = nI p1 + 1 := ⟨_, rfl⟩
          refine lv_iinc (v := x22) (lv' := [(3, .int x22), (1, .long x21), (0, .ref a)]) cx.x cx.b d_Mo_word_56 hl (k := 1) rfl (by rw [e_x22]; rfl) (by decide) rfl (fun ls hl => ?_)
          have e_x22 : x22 = nI (p1 + 1) := e_x22.trans (nI_add p1 1)
          subst e_x22
          refine lv_goto (tgt := 34) cx.x cx.b d_Mo_word_59 (by decide) ?_
          rw [show x21 = lN (wnum (wdO txt (g.2 5) (p1 + 1))) by rw [dt p1 hp1.1 c2, wnum_snoc, ← lN_add, ← lN_mul, e_x21, e_x18, e_x20, nI_l (by omega)]; rfl] at hl
          exact ih _ (p1 + 1) _ hlo (by omega) ⟨by omega, by omega⟩ rfl _ (lv_sub hl [0, 1, 2] rfl)
    exact LP _ _ (g.2 5) 0 hlo (Nat.lt_succ_self _) ⟨Nat.le_refl _, h1⟩ (by rw [wdO_self]; rfl) _ hl

set_option maxHeartbeats 4000000 in
set_option maxRecDepth 100000 in
theorem c_Mo_mark_f (l : Launch) {E : hE} (hE : EnvOk E) {H : Heap} {x : List Nat} (hx : okW x) : Ct l E y_Mo_mark b_Mo_mark 3 (some .int) (rmA 0 0 0) [.int (bI false), .long (lN (wrd x))] H (hQi (fun r H1 => r = nI (mkH false x) ∧ H1 = H)) := by
  refine hx_enter hE (by decide) (Nat.le_of_ble_eq_true rfl) ?_
  intro p e s m args below meth c ls cx hnm hl
  have hl : lv_has ls 3 [(0, .int (bI false)), (1, .long (lN (wrd x)))] := hl
  have hlo : hLo (eB E) [] := hLo.nil
  generalize hQ : MQ below _ args s _ _ _ = Q
  rw [mkH_f] at hQ
  refine lv_lload_n cx.x cx.b d_Mo_mark_0 rfl (lv_at hl 1 rfl) ?_
  refine lv_ldc2 cx.x cx.b cx.o (cx.ts _ tw_934) d_Mo_mark_1 ?_
  refine W.lcmp cx.x cx.b d_Mo_mark_4 ?_
  refine lv_if_ne (tgt := 10) cx.x cx.b d_Mo_mark_5 (by decide) (fun c23 => ?_) (fun c23 => ?_)
  · have c23 := lcN hx 3 3879904949475 (by decide) (by decide +kernel) c23
    rw [if_neg c23] at hQ
    refine lv_lload_n cx.x cx.b d_Mo_mark_10 rfl (lv_at hl 1 rfl) ?_
    refine lv_ldc2 cx.x cx.b cx.o (cx.ts _ tw_935) d_Mo_mark_11 ?_
    refine W.lcmp cx.x cx.b d_Mo_mark_14 ?_
    refine lv_if_ne (tgt := 29) cx.x cx.b d_Mo_mark_15 (by decide) (fun c24 => ?_) (fun c24 => ?_)
    · have c24 := lcN hx 6 27602432236 (by decide) (by decide +kernel) c24
      rw [if_neg c24] at hQ
      refine lv_lload_n cx.x cx.b d_Mo_mark_29 rfl (lv_at hl 1 rfl) ?_
      refine lv_ldc2 cx.x cx.b cx.o (cx.ts _ tw_936) d_Mo_mark_30 ?_
      refine W.lcmp cx.x cx.b d_Mo_mark_33 ?_
      refine lv_if_ne (tgt := 48) cx.x cx.b d_Mo_mark_34 (by decide) (fun c25 => ?_) (fun c25 => ?_)
      · have c25 := lcN hx 7 55041136789058036 (by decide) (by decide +kernel) c25
        rw [if_neg c25] at hQ
        refine lv_lload_n cx.x cx.b d_Mo_mark_48 rfl (lv_at hl 1 rfl) ?_
        refine lv_ldc2 cx.x cx.b cx.o (cx.ts _ tw_937) d_Mo_mark_49 ?_
        refine W.lcmp cx.x cx.b d_Mo_mark_52 ?_
        refine lv_if_ne (tgt := 62) cx.x cx.b d_Mo_mark_53 (by decide) (fun c26 => ?_) (fun c26 => ?_)
        · have c26 := lcN hx 4 8135119023151854308 (by decide) (by decide +kernel) c26
          refine lv_lload_n cx.x cx.b d_Mo_mark_62 rfl (lv_at hl 1 rfl) ?_
          refine lv_ldc2 cx.x cx.b cx.o (cx.ts _ tw_938) d_Mo_mark_63 ?_
          refine W.lcmp cx.x cx.b d_Mo_mark_66 ?_
          refine lv_if_ne (tgt := 78) cx.x cx.b d_Mo_mark_67 (by decide) (fun c28 => ?_) (fun c28 => ?_)
          · have c28 := lcN hx 5 3982713763043 (by decide) (by decide +kernel) c28
            refine lv_iconst (v := 0) cx.x cx.b d_Mo_mark_78 (by decide) ?_
            rw [← hQ]
            exact hx_reti cx.x cx.b cx.r cx.k rfl hlo (fun _ h => h) (Nat.le_of_ble_eq_true rfl) (Nat.le_of_ble_eq_true rfl) d_Mo_mark_79 (⟨rfl, rfl⟩)
          · have c28 := lcE hx 5 3982713763043 (by decide) (by decide +kernel) c28
            skip
            refine lv_iload_n cx.x cx.b d_Mo_mark_70 rfl (lv_at hl 0 rfl) ?_
            refine lv_if_eq (tgt := 78) cx.x cx.b d_Mo_mark_71 (by decide) (fun _ => ?_) (fun c => absurd (by decide) c)
            refine lv_iconst (v := 0) cx.x cx.b d_Mo_mark_78 (by decide) ?_
            rw [← hQ]
            exact hx_reti cx.x cx.b cx.r cx.k rfl hlo (fun _ h => h) (Nat.le_of_ble_eq_true rfl) (Nat.le_of_ble_eq_true rfl) d_Mo_mark_79 (⟨rfl, rfl⟩)
        · have c26 := lcE hx 4 8135119023151854308 (by decide) (by decide +kernel) c26
          skip
          refine lv_iload_n cx.x cx.b d_Mo_mark_56 rfl (lv_at hl 0 rfl) ?_
          refine lv_if_eq (tgt := 62) cx.x cx.b d_Mo_mark_57 (by decide) (fun _ => ?_) (fun c => absurd (by decide) c)
          refine lv_lload_n cx.x cx.b d_Mo_mark_62 rfl (lv_at hl 1 rfl) ?_
          refine lv_ldc2 cx.x cx.b cx.o (cx.ts _ tw_938) d_Mo_mark_63 ?_
          refine W.lcmp cx.x cx.b d_Mo_mark_66 ?_
          refine lv_if_ne (tgt := 78) cx.x cx.b d_Mo_mark_67 (by decide) (fun _ => ?_) (fun c => absurd (lcE hx 5 3982713763043 (by decide) (by decide +kernel) c) (by rw [c26]; decide))
          refine lv_iconst (v := 0) cx.x cx.b d_Mo_mark_78 (by decide) ?_
          rw [← hQ]
          exact hx_reti cx.x cx.b cx.r cx.k rfl hlo (fun _ h => h) (Nat.le_of_ble_eq_true rfl) (Nat.le_of_ble_eq_true rfl) d_Mo_mark_79 (⟨rfl, rfl⟩)
      · have c25 := lcE hx 7 55041136789058036 (by decide) (by decide +kernel) c25
        rw [if_pos c25] at hQ
        refine lv_iload_n cx.x cx.b d_Mo_mark_37 rfl (lv_at hl 0 rfl) ?_
        refine lv_if_eq (tgt := 46) cx.x cx.b d_Mo_mark_38 (by decide) (fun _ => ?_) (fun c => absurd (by decide) c)
        refine lv_iconst (v := 2) cx.x cx.b d_Mo_mark_46 (by decide) ?_
        rw [← hQ]
        exact hx_reti cx.x cx.b cx.r cx.k rfl hlo (fun _ h => h) (Nat.le_of_ble_eq_true rfl) (Nat.le_of_ble_eq_true rfl) d_Mo_mark_47 (⟨rfl, rfl⟩)
    · have c24 := lcE hx 6 27602432236 (by decide) (by decide +kernel) c24
      rw [if_pos c24] at hQ
      refine lv_iload_n cx.x cx.b d_Mo_mark_18 rfl (lv_at hl 0 rfl) ?_
      refine lv_if_eq (tgt := 27) cx.x cx.b d_Mo_mark_19 (by decide) (fun _ => ?_) (fun c => absurd (by decide) c)
      refine lv_iconst (v := 4) cx.x cx.b d_Mo_mark_27 (by decide) ?_
      rw [← hQ]
      exact hx_reti cx.x cx.b cx.r cx.k rfl hlo (fun _ h => h) (Nat.le_of_ble_eq_true rfl) (Nat.le_of_ble_eq_true rfl) d_Mo_mark_28 (⟨rfl, rfl⟩)
  · have c23 := lcE hx 3 3879904949475 (by decide) (by decide +kernel) c23
    rw [if_pos c23] at hQ
    refine lv_iconst (v := 1) cx.x cx.b d_Mo_mark_8 (by decide) ?_
    rw [← hQ]
    exact hx_reti cx.x cx.b cx.r cx.k rfl hlo (fun _ h => h) (Nat.le_of_ble_eq_true rfl) (Nat.le_of_ble_eq_true rfl) d_Mo_mark_9 (⟨rfl, rfl⟩)

set_option maxHeartbeats 4000000 in
set_option maxRecDepth 100000 in
theorem c_Mo_mark_t (l : Launch) {E : hE} (hE : EnvOk E) {H : Heap} {x : List Nat} (hx : okW x) : Ct l E y_Mo_mark b_Mo_mark 3 (some .int) (rmA 0 0 0) [.int (bI true), .long (lN (wrd x))] H (hQi (fun r H1 => r = nI (mkH true x) ∧ H1 = H)) := by
  refine hx_enter hE (by decide) (Nat.le_of_ble_eq_true rfl) ?_
  intro p e s m args below meth c ls cx hnm hl
  have hl : lv_has ls 3 [(0, .int (bI true)), (1, .long (lN (wrd x)))] := hl
  have hlo : hLo (eB E) [] := hLo.nil
  generalize hQ : MQ below _ args s _ _ _ = Q
  rw [mkH_t] at hQ
  refine lv_lload_n cx.x cx.b d_Mo_mark_0 rfl (lv_at hl 1 rfl) ?_
  refine lv_ldc2 cx.x cx.b cx.o (cx.ts _ tw_934) d_Mo_mark_1 ?_
  refine W.lcmp cx.x cx.b d_Mo_mark_4 ?_
  refine lv_if_ne (tgt := 10) cx.x cx.b d_Mo_mark_5 (by decide) (fun c29 => ?_) (fun c29 => ?_)
  · have c29 := lcN hx 3 3879904949475 (by decide) (by decide +kernel) c29
    rw [if_neg c29] at hQ
    refine lv_lload_n cx.x cx.b d_Mo_mark_10 rfl (lv_at hl 1 rfl) ?_
    refine lv_ldc2 cx.x cx.b cx.o (cx.ts _ tw_935) d_Mo_mark_11 ?_
    refine W.lcmp cx.x cx.b d_Mo_mark_14 ?_
    refine lv_if_ne (tgt := 29) cx.x cx.b d_Mo_mark_15 (by decide) (fun c30 => ?_) (fun c30 => ?_)
    · have c30 := lcN hx 6 27602432236 (by decide) (by decide +kernel) c30
      rw [if_neg c30] at hQ
      refine lv_lload_n cx.x cx.b d_Mo_mark_29 rfl (lv_at hl 1 rfl) ?_
      refine lv_ldc2 cx.x cx.b cx.o (cx.ts _ tw_936) d_Mo_mark_30 ?_
      refine W.lcmp cx.x cx.b d_Mo_mark_33 ?_
      refine lv_if_ne (tgt := 48) cx.x cx.b d_Mo_mark_34 (by decide) (fun c31 => ?_) (fun c31 => ?_)
      · have c31 := lcN hx 7 55041136789058036 (by decide) (by decide +kernel) c31
        rw [if_neg c31] at hQ
        refine lv_lload_n cx.x cx.b d_Mo_mark_48 rfl (lv_at hl 1 rfl) ?_
        refine lv_ldc2 cx.x cx.b cx.o (cx.ts _ tw_937) d_Mo_mark_49 ?_
        refine W.lcmp cx.x cx.b d_Mo_mark_52 ?_
        refine lv_if_ne (tgt := 62) cx.x cx.b d_Mo_mark_53 (by decide) (fun c32 => ?_) (fun c32 => ?_)
        · have c32 := lcN hx 4 8135119023151854308 (by decide) (by decide +kernel) c32
          rw [if_neg c32] at hQ
          refine lv_lload_n cx.x cx.b d_Mo_mark_62 rfl (lv_at hl 1 rfl) ?_
          refine lv_ldc2 cx.x cx.b cx.o (cx.ts _ tw_938) d_Mo_mark_63 ?_
          refine W.lcmp cx.x cx.b d_Mo_mark_66 ?_
          refine lv_if_ne (tgt := 78) cx.x cx.b d_Mo_mark_67 (by decide) (fun c33 => ?_) (fun c33 => ?_)
          · have c33 := lcN hx 5 3982713763043 (by decide) (by decide +kernel) c33
            rw [if_neg c33] at hQ
            refine lv_iconst (v := 0) cx.x cx.b d_Mo_mark_78 (by decide) ?_
            rw [← hQ]
            exact hx_reti cx.x cx.b cx.r cx.k rfl hlo (fun _ h => h) (Nat.le_of_ble_eq_true rfl) (Nat.le_of_ble_eq_true rfl) d_Mo_mark_79 (⟨rfl, rfl⟩)
          · have c33 := lcE hx 5 3982713763043 (by decide) (by decide +kernel) c33
            rw [if_pos c33] at hQ
            refine lv_iload_n cx.x cx.b d_Mo_mark_70 rfl (lv_at hl 0 rfl) ?_
            refine lv_if_eq (tgt := 78) cx.x cx.b d_Mo_mark_71 (by decide) (fun c => absurd c (by decide)) (fun _ => ?_)
            refine lv_iconst (v := 4) cx.x cx.b d_Mo_mark_74 (by decide) ?_
            refine lv_goto (tgt := 79) cx.x cx.b d_Mo_mark_75 (by decide) ?_
            rw [← hQ]
            exact hx_reti cx.x cx.b cx.r cx.k rfl hlo (fun _ h => h) (Nat.le_of_ble_eq_true rfl) (Nat.le_of_ble_eq_true rfl) d_Mo_mark_79 (⟨rfl, rfl⟩)
        · have c32 := lcE hx 4 8135119023151854308 (by decide) (by decide +kernel) c32
          rw [if_pos c32] at hQ
          refine lv_iload_n cx.x cx.b d_Mo_mark_56 rfl (lv_at hl 0 rfl) ?_
          refine lv_if_eq (tgt := 62) cx.x cx.b d_Mo_mark_57 (by decide) (fun c => absurd c (by decide)) (fun _ => ?_)
          refine lv_iconst (v := 2) cx.x cx.b d_Mo_mark_60 (by decide) ?_
          rw [← hQ]
          exact hx_reti cx.x cx.b cx.r cx.k rfl hlo (fun _ h => h) (Nat.le_of_ble_eq_true rfl) (Nat.le_of_ble_eq_true rfl) d_Mo_mark_61 (⟨rfl, rfl⟩)
      · have c31 := lcE hx 7 55041136789058036 (by decide) (by decide +kernel) c31
        rw [if_pos c31] at hQ
        refine lv_iload_n cx.x cx.b d_Mo_mark_37 rfl (lv_at hl 0 rfl) ?_
        refine lv_if_eq (tgt := 46) cx.x cx.b d_Mo_mark_38 (by decide) (fun c => absurd c (by decide)) (fun _ => ?_)
        refine lv_bipush (v := 16) cx.x cx.b d_Mo_mark_41 (by decide) ?_
        refine lv_goto (tgt := 47) cx.x cx.b d_Mo_mark_43 (by decide) ?_
        rw [← hQ]
        exact hx_reti cx.x cx.b cx.r cx.k rfl hlo (fun _ h => h) (Nat.le_of_ble_eq_true rfl) (Nat.le_of_ble_eq_true rfl) d_Mo_mark_47 (⟨rfl, rfl⟩)
    · have c30 := lcE hx 6 27602432236 (by decide) (by decide +kernel) c30
      rw [if_pos c30] at hQ
      refine lv_iload_n cx.x cx.b d_Mo_mark_18 rfl (lv_at hl 0 rfl) ?_
      refine lv_if_eq (tgt := 27) cx.x cx.b d_Mo_mark_19 (by decide) (fun c => absurd c (by decide)) (fun _ => ?_)
      refine lv_bipush (v := 8) cx.x cx.b d_Mo_mark_22 (by decide) ?_
      refine lv_goto (tgt := 28) cx.x cx.b d_Mo_mark_24 (by decide) ?_
      rw [← hQ]
      exact hx_reti cx.x cx.b cx.r cx.k rfl hlo (fun _ h => h) (Nat.le_of_ble_eq_true rfl) (Nat.le_of_ble_eq_true rfl) d_Mo_mark_28 (⟨rfl, rfl⟩)
  · have c29 := lcE hx 3 3879904949475 (by decide) (by decide +kernel) c29
    rw [if_pos c29] at hQ
    refine lv_iconst (v := 1) cx.x cx.b d_Mo_mark_8 (by decide) ?_
    rw [← hQ]
    exact hx_reti cx.x cx.b cx.r cx.k rfl hlo (fun _ h => h) (Nat.le_of_ble_eq_true rfl) (Nat.le_of_ble_eq_true rfl) d_Mo_mark_9 (⟨rfl, rfl⟩)

set_option maxHeartbeats 4000000 in
set_option maxRecDepth 100000 in
theorem c_Mo_kindOf_f (l : Launch) {E : hE} (hE : EnvOk E) {H : Heap} {x : List Nat} (hx : okW x) : Ct l E y_Mo_kindOf b_Mo_kindOf 3 (some .int) (rmA 0 0 0) [.int (bI false), .long (lN (wrd x))] H (hQi (fun r H1 => r = oI (kdH false x) ∧ H1 = H)) := by
  refine hx_enter hE (by decide) (Nat.le_of_ble_eq_true rfl) ?_
  intro p e s m args below meth c ls cx hnm hl
  have hl : lv_has ls 3 [(0, .int (bI false)), (1, .long (lN (wrd x)))] := hl
  have hlo : hLo (eB E) [] := hLo.nil
  generalize hQ : MQ below _ args s _ _ _ = Q
  rw [kdH_f] at hQ
  refine lv_iload_n cx.x cx.b d_Mo_kindOf_0 rfl (lv_at hl 0 rfl) ?_
  refine lv_if_eq (tgt := 30) cx.x cx.b d_Mo_kindOf_1 (by decide) (fun _ => ?_) (fun c => absurd (by decide) c)
  refine lv_lload_n cx.x cx.b d_Mo_kindOf_30 rfl (lv_at hl 1 rfl) ?_
  refine lv_ldc2 cx.x cx.b cx.o (cx.ts _ tw_948) d_Mo_kindOf_31 ?_
  refine W.lcmp cx.x cx.b d_Mo_kindOf_34 ?_
  refine lv_if_ne (tgt := 40) cx.x cx.b d_Mo_kindOf_35 (by decide) (fun c34 => ?_) (fun c34 => ?_)
  · have c34 := lcN hx 10 26803206643 (by decide) (by decide +kernel) c34
    rw [if_neg c34] at hQ
    refine lv_lload_n cx.x cx.b d_Mo_kindOf_40 rfl (lv_at hl 1 rfl) ?_
    refine lv_ldc2 cx.x cx.b cx.o (cx.ts _ tw_949) d_Mo_kindOf_41 ?_
    refine W.lcmp cx.x cx.b d_Mo_kindOf_44 ?_
    refine lv_if_ne (tgt := 50) cx.x cx.b d_Mo_kindOf_45 (by decide) (fun c35 => ?_) (fun c35 => ?_)
    · have c35 := lcN hx 11 7628485543404794341 (by decide) (by decide +kernel) c35
      rw [if_neg c35] at hQ
      refine lv_lload_n cx.x cx.b d_Mo_kindOf_50 rfl (lv_at hl 1 rfl) ?_
      refine lv_ldc2 cx.x cx.b cx.o (cx.ts _ tw_950) d_Mo_kindOf_51 ?_
      refine W.lcmp cx.x cx.b d_Mo_kindOf_54 ?_
      refine lv_if_ne (tgt := 62) cx.x cx.b d_Mo_kindOf_55 (by decide) (fun c36 => ?_) (fun c36 => ?_)
      · have c36 := lcN hx 12 213629677 (by decide) (by decide +kernel) c36
        rw [if_neg c36] at hQ
        refine lv_lload_n cx.x cx.b d_Mo_kindOf_62 rfl (lv_at hl 1 rfl) ?_
        refine lv_ldc2 cx.x cx.b cx.o (cx.ts _ tw_951) d_Mo_kindOf_63 ?_
        refine W.lcmp cx.x cx.b d_Mo_kindOf_66 ?_
        refine lv_if_ne (tgt := 74) cx.x cx.b d_Mo_kindOf_67 (by decide) (fun c37 => ?_) (fun c37 => ?_)
        · have c37 := lcN hx 13 3944331606372 (by decide) (by decide +kernel) c37
          rw [if_neg c37] at hQ
          refine lv_iconst (v := (-1)) cx.x cx.b d_Mo_kindOf_74 (by decide) ?_
          rw [← hQ]
          exact hx_reti cx.x cx.b cx.r cx.k rfl hlo (fun _ h => h) (Nat.le_of_ble_eq_true rfl) (Nat.le_of_ble_eq_true rfl) d_Mo_kindOf_75 (⟨rfl, rfl⟩)
        · have c37 := lcE hx 13 3944331606372 (by decide) (by decide +kernel) c37
          rw [if_pos c37] at hQ
          refine lv_iconst (v := 3) cx.x cx.b d_Mo_kindOf_70 (by decide) ?_
          refine lv_goto (tgt := 75) cx.x cx.b d_Mo_kindOf_71 (by decide) ?_
          rw [← hQ]
          exact hx_reti cx.x cx.b cx.r cx.k rfl hlo (fun _ h => h) (Nat.le_of_ble_eq_true rfl) (Nat.le_of_ble_eq_true rfl) d_Mo_kindOf_75 (⟨rfl, rfl⟩)
      · have c36 := lcE hx 12 213629677 (by decide) (by decide +kernel) c36
        rw [if_pos c36] at hQ
        refine lv_iconst (v := 2) cx.x cx.b d_Mo_kindOf_58 (by decide) ?_
        refine lv_goto (tgt := 75) cx.x cx.b d_Mo_kindOf_59 (by decide) ?_
        rw [← hQ]
        exact hx_reti cx.x cx.b cx.r cx.k rfl hlo (fun _ h => h) (Nat.le_of_ble_eq_true rfl) (Nat.le_of_ble_eq_true rfl) d_Mo_kindOf_75 (⟨rfl, rfl⟩)
    · have c35 := lcE hx 11 7628485543404794341 (by decide) (by decide +kernel) c35
      rw [if_pos c35] at hQ
      refine lv_iconst (v := 1) cx.x cx.b d_Mo_kindOf_48 (by decide) ?_
      rw [← hQ]
      exact hx_reti cx.x cx.b cx.r cx.k rfl hlo (fun _ h => h) (Nat.le_of_ble_eq_true rfl) (Nat.le_of_ble_eq_true rfl) d_Mo_kindOf_49 (⟨rfl, rfl⟩)
  · have c34 := lcE hx 10 26803206643 (by decide) (by decide +kernel) c34
    rw [if_pos c34] at hQ
    refine lv_iconst (v := 0) cx.x cx.b d_Mo_kindOf_38 (by decide) ?_
    rw [← hQ]
    exact hx_reti cx.x cx.b cx.r cx.k rfl hlo (fun _ h => h) (Nat.le_of_ble_eq_true rfl) (Nat.le_of_ble_eq_true rfl) d_Mo_kindOf_39 (⟨rfl, rfl⟩)

set_option maxHeartbeats 4000000 in
set_option maxRecDepth 100000 in
theorem c_Mo_kindOf_t (l : Launch) {E : hE} (hE : EnvOk E) {H : Heap} {x : List Nat} (hx : okW x) : Ct l E y_Mo_kindOf b_Mo_kindOf 3 (some .int) (rmA 0 0 0) [.int (bI true), .long (lN (wrd x))] H (hQi (fun r H1 => r = oI (kdH true x) ∧ H1 = H)) := by
  refine hx_enter hE (by decide) (Nat.le_of_ble_eq_true rfl) ?_
  intro p e s m args below meth c ls cx hnm hl
  have hl : lv_has ls 3 [(0, .int (bI true)), (1, .long (lN (wrd x)))] := hl
  have hlo : hLo (eB E) [] := hLo.nil
  generalize hQ : MQ below _ args s _ _ _ = Q
  rw [kdH_t] at hQ
  refine lv_iload_n cx.x cx.b d_Mo_kindOf_0 rfl (lv_at hl 0 rfl) ?_
  refine lv_if_eq (tgt := 30) cx.x cx.b d_Mo_kindOf_1 (by decide) (fun c => absurd c (by decide)) (fun _ => ?_)
  refine lv_lload_n cx.x cx.b d_Mo_kindOf_4 rfl (lv_at hl 1 rfl) ?_
  refine lv_ldc2 cx.x cx.b cx.o (cx.ts _ tw_946) d_Mo_kindOf_5 ?_
  refine W.lcmp cx.x cx.b d_Mo_kindOf_8 ?_
  refine lv_if_ne (tgt := 16) cx.x cx.b d_Mo_kindOf_9 (by decide) (fun c38 => ?_) (fun c38 => ?_)
  · have c38 := lcN hx 9 27602286180 (by decide) (by decide +kernel) c38
    rw [if_neg c38] at hQ
    refine lv_lload_n cx.x cx.b d_Mo_kindOf_16 rfl (lv_at hl 1 rfl) ?_
    refine lv_ldc2 cx.x cx.b cx.o (cx.ts _ tw_947) d_Mo_kindOf_17 ?_
    refine W.lcmp cx.x cx.b d_Mo_kindOf_20 ?_
    refine lv_if_ne (tgt := 28) cx.x cx.b d_Mo_kindOf_21 (by decide) (fun c39 => ?_) (fun c39 => ?_)
    · have c39 := lcN hx 8 3772568451044 (by decide) (by decide +kernel) c39
      rw [if_neg c39] at hQ
      refine lv_iconst (v := (-1)) cx.x cx.b d_Mo_kindOf_28 (by decide) ?_
      rw [← hQ]
      exact hx_reti cx.x cx.b cx.r cx.k rfl hlo (fun _ h => h) (Nat.le_of_ble_eq_true rfl) (Nat.le_of_ble_eq_true rfl) d_Mo_kindOf_29 (⟨rfl, rfl⟩)
    · have c39 := lcE hx 8 3772568451044 (by decide) (by decide +kernel) c39
      rw [if_pos c39] at hQ
      refine lv_iconst (v := 1) cx.x cx.b d_Mo_kindOf_24 (by decide) ?_
      refine lv_goto (tgt := 29) cx.x cx.b d_Mo_kindOf_25 (by decide) ?_
      rw [← hQ]
      exact hx_reti cx.x cx.b cx.r cx.k rfl hlo (fun _ h => h) (Nat.le_of_ble_eq_true rfl) (Nat.le_of_ble_eq_true rfl) d_Mo_kindOf_29 (⟨rfl, rfl⟩)
  · have c38 := lcE hx 9 27602286180 (by decide) (by decide +kernel) c38
    rw [if_pos c38] at hQ
    refine lv_iconst (v := 0) cx.x cx.b d_Mo_kindOf_12 (by decide) ?_
    refine lv_goto (tgt := 29) cx.x cx.b d_Mo_kindOf_13 (by decide) ?_
    rw [← hQ]
    exact hx_reti cx.x cx.b cx.r cx.k rfl hlo (fun _ h => h) (Nat.le_of_ble_eq_true rfl) (Nat.le_of_ble_eq_true rfl) d_Mo_kindOf_29 (⟨rfl, rfl⟩)
