theorem wdO_cons {txt : List Nat} {j k : Nat} (h : j < k) (hk : k ≤ txt.length) : wdO txt j k = txt.getD j 0 :: wdO txt (j + 1) k := by
  unfold wdO
  rw [drop_cons (by rw [len_take hk]; exact h), getD_take h]
theorem tkw_a (r : List Nat) : tkw 1 (36 :: r) = none := by
  cases r with
  | nil => rfl
  | cons d r => rfl
theorem tkw_b {d : Nat} {r : List Nat} (h : d ≠ 36) : tkw 1 (37 :: d :: r) = none := by
  show (if _ then _ else if _ then (if d = 36 then _ else none) else _) = none
  rw [if_neg (by decide), if_pos (by decide), if_neg h]
theorem tkw_c (r : List Nat) : tkw 1 (37 :: 36 :: r) = (tkw 1 r).map (36 :: ·) := rfl
theorem tkw_d {fm c : Nat} {r : List Nat} (h1 : ¬ (fm = 1 ∧ c = 36)) (h2 : ¬ (fm = 1 ∧ c = 37)) : tkw fm (c :: r) = (tkw fm r).map (c :: ·) := by
  cases r with
  | nil =>
    show (if fm = 1 ∧ (c = 36 ∨ c = 37) then none else some [c]) = _
    rw [if_neg (fun z => by rcases z.2 with e | e; exact h1 ⟨z.1, e⟩; exact h2 ⟨z.1, e⟩)]
    rfl
  | cons d r =>
    show (if fm = 1 ∧ c = 36 then none else if fm = 1 ∧ c = 37 then _ else _) = _
    rw [if_neg h1, if_neg h2]
def tkb (A : List Nat) (o : Option (List Nat)) : Option (List Nat) := o.bind (fun M => if (A ++ M).length ≤ 20 then some (A ++ M) else none)
theorem tkb_push (A : List Nat) (c : Nat) (o : Option (List Nat)) : tkb A (o.map (c :: ·)) = tkb (A ++ [c]) o := by
  cases o with
  | none => rfl
  | some M =>
    show (if (A ++ c :: M).length ≤ 20 then some (A ++ c :: M) else none) = (if (A ++ [c] ++ M).length ≤ 20 then some (A ++ [c] ++ M) else none)
    rw [List.append_assoc]; rfl
theorem tkb_full {A : List Nat} (h : 20 ≤ A.length) (c : Nat) (o : Option (List Nat)) : tkb A (o.map (c :: ·)) = none := by
  cases o with
  | none => rfl
  | some M =>
    show (if (A ++ c :: M).length ≤ 20 then _ else none) = none
    rw [if_neg (by rw [List.length_append, List.length_cons]; omega)]
theorem tkb_nil (A : List Nat) (h : A.length ≤ 20) : tkb A (some []) = some A := by
  show (if (A ++ []).length ≤ 20 then some (A ++ []) else none) = _
  rw [List.append_nil, if_pos h]
theorem hold_snoc {P : Nat → Nat} {A : List Nat} {c : Nat} (h : ∀ i, i < A.length → P i = A.getD i 0) : ∀ i, i < (A ++ [c]).length → updN P A.length c i = (A ++ [c]).getD i 0 := fun i hi => by
  rw [List.length_append, List.length_singleton] at hi
  by_cases e : i = A.length
  · rw [e, updN_s, getD_last]
  · rw [updN_n e, getD_app (by omega), h i (by omega)]
theorem len6 : ∀ {L : List Nat}, L.length = 6 → L.getD 0 0 = 60 → L.getD 1 0 = 105 → L.getD 2 0 = 110 → L.getD 3 0 = 105 → L.getD 4 0 = 116 → L.getD 5 0 = 62 → L = strL 14
  | [a, b, c, d, e, f], _, h0, h1, h2, h3, h4, h5 => by
    have h0 : a = 60 := h0
    have h1 : b = 105 := h1
    have h2 : c = 110 := h2
    have h3 : d = 105 := h3
    have h4 : e = 116 := h4
    have h5 : f = 62 := h5
    rw [h0, h1, h2, h3, h4, h5]; rfl
theorem fx_step {L : List Nat} {i : Nat} (h : i < L.length) : fx (L.drop i) i = if L.getD i 0 = 59 then i else fx (L.drop (i + 1)) (i + 1) := by rw [drop_cons h]; rfl
set_option maxHeartbeats 4000000 in
set_option maxRecDepth 100000 in
theorem c_Mo_take (l : Launch) {E : hE} (hE : EnvOk E) {H : Heap} {a : Nat} {ad : Nat → Nat} {g : MS} (M : Mo E H a ad g) {txt : List Nat} (hx : Tx (g.1 0) txt) (hxc : ∀ x ∈ txt, okC x = true) (hxl : txt.length ≤ 480) (h1 : g.2 5 ≤ g.2 6) (h2 : g.2 6 ≤ txt.length) (hfm : g.2 7 = 1 ∨ g.2 7 = 2) : Ct l E y_Mo_take b_Mo_take 3 (some .boolean) (rmA 0 0 0) [.ref a] H (hQi (fun r H1 => ∃ (P9 : Nat → Nat) (n9 : Nat), Mw E H H1 a ad (up g.1 11 P9, up g.2 8 n9) ∧ r = bI (tkL (g.2 7) (wdO txt (g.2 5) (g.2 6))).isSome ∧ n9 ≤ 20 ∧ ∀ L, tkL (g.2 7) (wdO txt (g.2 5) (g.2 6)) = some L → n9 = L.length ∧ ∀ i, i < L.length → P9 i = L.getD i 0)) := by
  refine hx_enter hE (by decide) (Nat.le_of_ble_eq_true rfl) ?_
  intro p e s m args below meth c ls cx hnm hl
  have hl : lv_has ls 3 [(0, .ref a)] := hl
  have hlo : hLo (eB E) [] := hLo.nil
  generalize hQ : MQ below _ args s _ _ _ = Q
  have M0 : Mw E H H a ad g := ⟨M, hCh.rf, rfl⟩
  have hG : tkb [] (tkw (g.2 7) (wdO txt (g.2 5) (g.2 6))) = tkL (g.2 7) (wdO txt (g.2 5) (g.2 6)) := rfl
  generalize tkL (g.2 7) (wdO txt (g.2 5) (g.2 6)) = G at hQ hG
  have LP : ∀ (k : Nat) (locs : List Loc) (p1 n9 : Nat) (P9 : Nat → Nat) (A9 : List Nat) (H5 : Heap), hLo (eB E) locs → (g.2 6 - p1 < k) → (p1 ≤ g.2 6) → (Mw E H H5 a ad (up g.1 11 P9, up g.2 8 n9)) → (n9 = A9.length ∧ n9 ≤ 20) → (∀ i, i < A9.length → P9 i = A9.getD i 0) → (tkb A9 (tkw (g.2 7) (wdO txt p1 (g.2 6))) = G) → ∀ ls, lv_has ls 3 [(1, .int (nI p1)), (0, .ref a)] → W p l e (rmA 0 0 0) s m args below meth c H5 locs 0 0 Q (F0 m 10 ls []) := by
    intro k
    induction k with
    | zero => intro locs p1 n9 P9 A9 H5 hlo hk hp1 M5 hn hP hi; exact absurd hk (by omega)
    | succ k ih =>
      intro locs p1 n9 P9 A9 H5 hlo hk hp1 M5 hn hP hi ls hl
      have oM1 : hOb (eD E) classes H5 a 10 [.ref (ad 0), .int (nI (g.2 0)), .ref (ad 1), .int (nI (g.2 1)), .int (nI (g.2 2)), .ref (ad 2), .ref (ad 3), .ref (ad 4), .ref (ad 5), .ref (ad 6), .ref (ad 7), .ref (ad 8), .ref (ad 9), .ref (ad 10), .int (nI (g.2 3)), .int (nI (g.2 4)), .int (nI (g.2 5)), .int (nI (g.2 6)), .int (nI (g.2 7)), .ref (ad 11), .int (nI n9), .int (nI (g.2 9)), .int (nI (g.2 10)), .ref (ad 12), .int (nI (g.2 11)), .ref (ad 13)] := M5.1.1
      refine lv_iload_n cx.x cx.b d_Mo_take_10 rfl (lv_at hl 0 rfl) ?_
      refine lv_aload_n cx.x cx.b d_Mo_take_11 rfl (lv_at hl 1 rfl) ?_
      refine gf_Mo_62_Mo cx oM1 rfl d_Mo_take_12 ?_
      refine lv_icmp_ge (tgt := 119) cx.x cx.b d_Mo_take_15 (by decide) (fun c1 => ?_) (fun c1 => ?_)
      · have c1 : (g.2 6) ≤ p1 := (nI_leI (a := (g.2 6)) (b := p1) (by omega) (by omega)).mp c1
        rw [show p1 = g.2 6 by omega, wdO_self] at hi
        have hi : tkb A9 (some []) = G := hi
        rw [tkb_nil A9 (by omega)] at hi
        subst hi
        refine lv_iconst (v := 1) cx.x cx.b d_Mo_take_119 (by decide) ?_
        rw [← hQ]
        exact hx_reti cx.x cx.b cx.r cx.k rfl hlo (fun _ h => h) (Nat.le_of_ble_eq_true rfl) (Nat.le_of_ble_eq_true rfl) d_Mo_take_120 (⟨P9, n9, M5, rfl, hn.2, fun L hL => by cases hL; exact ⟨hn.1, hP⟩⟩)
      · have c1 : p1 < (g.2 6) := Nat.not_le.mp (fun zz => c1 ((nI_leI (a := (g.2 6)) (b := p1) (by omega) (by omega)).mpr zz))
        rw [wdO_cons c1 h2] at hi
        have PU : ∀ (locs : List Loc) (p2 c2 : Nat), hLo (eB E) locs → (p1 ≤ p2 ∧ p2 < g.2 6) → (tkb A9 ((tkw (g.2 7) (wdO txt (p2 + 1) (g.2 6))).map (c2 :: ·)) = G) → ∀ ls, lv_has ls 3 [(2, .int (nI c2)), (1, .int (nI p2)), (0, .ref a)] → W p l e (rmA 0 0 0) s m args below meth c H5 locs 0 0 Q (F0 m 82 ls []) := by
          intro locs p2 c2 hlo hp2 hi2 ls hl
          refine lv_aload_n cx.x cx.b d_Mo_take_82 rfl (lv_at hl 2 rfl) ?_
          refine gf_Mo_95_Mo cx oM1 rfl d_Mo_take_83 ?_
          refine lv_bipush (v := 20) cx.x cx.b d_Mo_take_86 (by decide) ?_
          refine lv_icmp_ne (tgt := 93) cx.x cx.b d_Mo_take_88 (by decide) (fun c9 => ?_) (fun c9 => ?_)
          · have c9 : n9 ≠ 20 := fun zz => c9 ((nI_eq (a := n9) (b := 20) (by omega) (by omega)).mpr zz)
            rw [tkb_push] at hi2
            refine lv_aload_n cx.x cx.b d_Mo_take_93 rfl (lv_at hl 2 rfl) ?_
            refine gf_Mo_43_Mo cx oM1 rfl d_Mo_take_94 ?_
            refine lv_aload_n cx.x cx.b d_Mo_take_97 rfl (lv_at hl 2 rfl) ?_
            refine gf_Mo_95_Mo cx oM1 rfl d_Mo_take_98 ?_
            refine lv_iload_n cx.x cx.b d_Mo_take_101 rfl (lv_at hl 0 rfl) ?_
            refine hx_iast cx.x cx.b cx.K 0 (M5.1.2.1 11 (by decide)) hlo (M5.1.2.2.2.1 11 (by decide)).1 rfl (show vp_in (nI n9) 20 from vp_in_nI (show n9 < 20 by omega) (by decide)) d_Mo_take_102 (fun H2 locs ha3 z_H2 o_H2 hlo => ?_)
            have M4 : Mw E H H2 a ad (up g.1 11 (updN P9 n9 c2), up g.2 8 n9) := M5.ar (up g.1 11 (updN P9 n9 c2), up g.2 8 n9) 11 (by decide) (by have h9 := ha3; rw [show (nI n9 : Int32).toNatClampNeg = n9 from nI_clamp (n := n9) (by omega)] at h9; have h9 : hAi H2 (ad 11) (eA E 0) (arL 11) (upd (fun i => nI (P9 i)) n9 (nI c2)) := h9; rw [upd_nI] at h9; exact h9) z_H2 o_H2 rfl (fun j hj hn => arN11 hj hn rfl rfl rfl rfl rfl rfl rfl rfl rfl rfl rfl rfl rfl)
            have oM5 : hOb (eD E) classes H2 a 10 [.ref (ad 0), .int (nI (g.2 0)), .ref (ad 1), .int (nI (g.2 1)), .int (nI (g.2 2)), .ref (ad 2), .ref (ad 3), .ref (ad 4), .ref (ad 5), .ref (ad 6), .ref (ad 7), .ref (ad 8), .ref (ad 9), .ref (ad 10), .int (nI (g.2 3)), .int (nI (g.2 4)), .int (nI (g.2 5)), .int (nI (g.2 6)), .int (nI (g.2 7)), .ref (ad 11), .int (nI n9), .int (nI (g.2 9)), .int (nI (g.2 10)), .ref (ad 12), .int (nI (g.2 11)), .ref (ad 13)] := M4.1.1
            refine lv_aload_n cx.x cx.b d_Mo_take_103 rfl (lv_at hl 2 rfl) ?_
            refine lv_dup cx.x cx.b d_Mo_take_104 rfl ?_
            refine gf_Mo_95_Mo cx oM5 rfl d_Mo_take_105 ?_
            refine lv_iconst (v := 1) cx.x cx.b d_Mo_take_108 (by decide) ?_
            refine lv_iadd cx.x cx.b d_Mo_take_109 ?_
            refine lv_topi (fun x6 e_x6 => ?_)
            have e_x6 : x6 = nI (n9 + 1) := e_x6.trans (nI_add n9 1)
            subst e_x6
            refine pf_Mo_95_Mo cx oM5 hlo M4.1.2.2.1 (Nat.le_of_ble_eq_true rfl) d_Mo_take_110 (fun H7 locs ho8 z_H7 o_H7 hlo => ?_)
            have ho8 : hOb (eD E) classes H7 a 10 [.ref (ad 0), .int (nI (g.2 0)), .ref (ad 1), .int (nI (g.2 1)), .int (nI (g.2 2)), .ref (ad 2), .ref (ad 3), .ref (ad 4), .ref (ad 5), .ref (ad 6), .ref (ad 7), .ref (ad 8), .ref (ad 9), .ref (ad 10), .int (nI (g.2 3)), .int (nI (g.2 4)), .int (nI (g.2 5)), .int (nI (g.2 6)), .int (nI (g.2 7)), .ref (ad 11), .int (nI (n9 + 1)), .int (nI (g.2 9)), .int (nI (g.2 10)), .ref (ad 12), .int (nI (g.2 11)), .ref (ad 13)] := ho8
            have M9 : Mw E H H7 a ad (up g.1 11 (updN P9 n9 c2), up g.2 8 (n9 + 1)) := M4.sc (up g.1 11 (updN P9 n9 c2), up g.2 8 (n9 + 1)) ho8 z_H7 o_H7 rfl
            have oM10 : hOb (eD E) classes H7 a 10 [.ref (ad 0), .int (nI (g.2 0)), .ref (ad 1), .int (nI (g.2 1)), .int (nI (g.2 2)), .ref (ad 2), .ref (ad 3), .ref (ad 4), .ref (ad 5), .ref (ad 6), .ref (ad 7), .ref (ad 8), .ref (ad 9), .ref (ad 10), .int (nI (g.2 3)), .int (nI (g.2 4)), .int (nI (g.2 5)), .int (nI (g.2 6)), .int (nI (g.2 7)), .ref (ad 11), .int (nI (n9 + 1)), .int (nI (g.2 9)), .int (nI (g.2 10)), .ref (ad 12), .int (nI (g.2 11)), .ref (ad 13)] := M9.1.1
            obtain ⟨x11, e_x11⟩ : ∃ y : Int32, y = nI p2 + 1 := ⟨_, rfl⟩
            refine lv_iinc (v := x11) (lv' := [(1, .int x11), (2, .int (nI c2)), (0, .ref a)]) cx.x cx.b d_Mo_take_113 hl (k := 1) rfl (by rw [e_x11]; rfl) (by decide) rfl (fun ls hl => ?_)
            have e_x11 : x11 = nI (p2 + 1) := e_x11.trans (nI_add p2 1)
            subst e_x11
            refine lv_goto (tgt := 10) cx.x cx.b d_Mo_take_116 (by decide) ?_
            exact ih _ (p2 + 1) (n9 + 1) _ (A9 ++ [c2]) _ hlo (by omega) (by omega) M9 ⟨by rw [List.length_append, List.length_singleton]; omega, by omega⟩ (by rw [hn.1]; exact hold_snoc hP) hi2 _ (lv_sub hl [0, 2] rfl)
          · have c9 : n9 = 20 := (nI_eq (a := n9) (b := 20) (by omega) (by omega)).mp c9
            rw [tkb_full (by omega)] at hi2
            subst hi2
            refine lv_iconst (v := 0) cx.x cx.b d_Mo_take_91 (by decide) ?_
            rw [← hQ]
            exact hx_reti cx.x cx.b cx.r cx.k rfl hlo (fun _ h => h) (Nat.le_of_ble_eq_true rfl) (Nat.le_of_ble_eq_true rfl) d_Mo_take_92 (⟨P9, n9, M5, rfl, hn.2, fun L hL => by cases hL⟩)
        refine lv_aload_n cx.x cx.b d_Mo_take_18 rfl (lv_at hl 1 rfl) ?_
        refine gf_Mo_7_Mo cx oM1 rfl d_Mo_take_19 ?_
        refine lv_iload_n cx.x cx.b d_Mo_take_22 rfl (lv_at hl 0 rfl) ?_
        refine hx_iald cx.x cx.b cx.K 0 (M5.1.2.1 0 (by decide)) rfl (show vp_in (nI p1) 480 from vp_in_nI (show p1 < 480 by omega) (by decide)) d_Mo_take_23 ?_
        refine lv_topi (fun x12 e_x12 => ?_)
        have hb9 : txt.getD p1 0 < 128 := okC_lt (hxc _ (getD_mem (show p1 < txt.length by omega)))
        have e_x12 : x12 = nI (txt.getD p1 0) := e_x12.trans (congrArg nI ((congrArg (g.1 0) (nI_clamp (n := p1) (by omega))).trans (hx p1 (by omega))))
        subst e_x12
        refine lv_istore_n (lv' := [(2, .int (nI (txt.getD p1 0))), (1, .int (nI p1)), (0, .ref a)]) cx.x cx.b d_Mo_take_24 rfl hl (by decide) rfl (fun ls hl => ?_)
        refine lv_aload_n cx.x cx.b d_Mo_take_25 rfl (lv_at hl 2 rfl) ?_
        refine gf_Mo_98_Mo cx oM1 rfl d_Mo_take_26 ?_
        refine lv_iconst (v := 1) cx.x cx.b d_Mo_take_29 (by decide) ?_
        refine lv_icmp_ne (tgt := 41) cx.x cx.b d_Mo_take_30 (by decide) (fun c2 => ?_) (fun c2 => ?_)
        · have c2 : (g.2 7) ≠ 1 := fun zz => c2 ((nI_eq (a := (g.2 7)) (b := 1) (by omega) (by omega)).mpr zz)
          rw [tkw_d (fun z => c2 z.1) (fun z => c2 z.1)] at hi
          refine lv_aload_n cx.x cx.b d_Mo_take_41 rfl (lv_at hl 2 rfl) ?_
          refine gf_Mo_98_Mo cx oM1 rfl d_Mo_take_42 ?_
          refine lv_iconst (v := 1) cx.x cx.b d_Mo_take_45 (by decide) ?_
          refine lv_icmp_ne (tgt := 82) cx.x cx.b d_Mo_take_46 (by decide) (fun c3 => ?_) (fun c3 => ?_)
          · have c3 : (g.2 7) ≠ 1 := fun zz => c3 ((nI_eq (a := (g.2 7)) (b := 1) (by omega) (by omega)).mpr zz)
            exact PU _ p1 _ hlo ⟨Nat.le_refl _, c1⟩ hi _ (lv_sub hl [0, 1, 2] rfl)
          · have c3 : (g.2 7) = 1 := (nI_eq (a := (g.2 7)) (b := 1) (by omega) (by omega)).mp c3
            exact absurd c3 c2
        · have c2 : (g.2 7) = 1 := (nI_eq (a := (g.2 7)) (b := 1) (by omega) (by omega)).mp c2
          rw [c2] at hi
          refine lv_iload_n cx.x cx.b d_Mo_take_33 rfl (lv_at hl 0 rfl) ?_
          refine lv_bipush (v := 36) cx.x cx.b d_Mo_take_34 (by decide) ?_
          refine lv_icmp_ne (tgt := 41) cx.x cx.b d_Mo_take_36 (by decide) (fun c3 => ?_) (fun c3 => ?_)
          · have c3 : (txt.getD p1 0) ≠ 36 := fun zz => c3 ((nI_eq (a := (txt.getD p1 0)) (b := 36) (by omega) (by omega)).mpr zz)
            refine lv_aload_n cx.x cx.b d_Mo_take_41 rfl (lv_at hl 2 rfl) ?_
            refine gf_Mo_98_Mo cx oM1 rfl d_Mo_take_42 ?_
            refine lv_iconst (v := 1) cx.x cx.b d_Mo_take_45 (by decide) ?_
            refine lv_icmp_ne (tgt := 82) cx.x cx.b d_Mo_take_46 (by decide) (fun c4 => ?_) (fun c4 => ?_)
            · have c4 : (g.2 7) ≠ 1 := fun zz => c4 ((nI_eq (a := (g.2 7)) (b := 1) (by omega) (by omega)).mpr zz)
              exact absurd c2 c4
            · have c4 : (g.2 7) = 1 := (nI_eq (a := (g.2 7)) (b := 1) (by omega) (by omega)).mp c4
              refine lv_iload_n cx.x cx.b d_Mo_take_49 rfl (lv_at hl 0 rfl) ?_
              refine lv_bipush (v := 37) cx.x cx.b d_Mo_take_50 (by decide) ?_
              refine lv_icmp_ne (tgt := 82) cx.x cx.b d_Mo_take_52 (by decide) (fun c5 => ?_) (fun c5 => ?_)
              · have c5 : (txt.getD p1 0) ≠ 37 := fun zz => c5 ((nI_eq (a := (txt.getD p1 0)) (b := 37) (by omega) (by omega)).mpr zz)
                rw [tkw_d (fun z => c3 z.2) (fun z => c5 z.2)] at hi
                have hi : tkb A9 ((tkw (g.2 7) (wdO txt (p1 + 1) (g.2 6))).map (txt.getD p1 0 :: ·)) = G := by rw [c2]; exact hi
                exact PU _ p1 _ hlo ⟨Nat.le_refl _, c1⟩ hi _ (lv_sub hl [0, 1, 2] rfl)
              · have c5 : (txt.getD p1 0) = 37 := (nI_eq (a := (txt.getD p1 0)) (b := 37) (by omega) (by omega)).mp c5
                rw [c5] at hi
                obtain ⟨x13, e_x13⟩ : ∃ y : Int32, y = nI p1 + 1 := ⟨_, rfl⟩
                refine lv_iinc (v := x13) (lv' := [(1, .int x13), (2, .int (nI (txt.getD p1 0))), (0, .ref a)]) cx.x cx.b d_Mo_take_55 hl (k := 1) rfl (by rw [e_x13]; rfl) (by decide) rfl (fun ls hl => ?_)
                have e_x13 : x13 = nI (p1 + 1) := e_x13.trans (nI_add p1 1)
                subst e_x13
                refine lv_iload_n cx.x cx.b d_Mo_take_58 rfl (lv_at hl 0 rfl) ?_
                refine lv_aload_n cx.x cx.b d_Mo_take_59 rfl (lv_at hl 2 rfl) ?_
                refine gf_Mo_62_Mo cx oM1 rfl d_Mo_take_60 ?_
                refine lv_icmp_ge (tgt := 77) cx.x cx.b d_Mo_take_63 (by decide) (fun c6 => ?_) (fun c6 => ?_)
                · have c6 : (g.2 6) ≤ (p1 + 1) := (nI_leI (a := (g.2 6)) (b := (p1 + 1)) (by omega) (by omega)).mp c6
                  rw [show p1 + 1 = g.2 6 by omega, wdO_self] at hi
                  have hi : none = G := hi
                  subst hi
                  refine lv_iconst (v := 0) cx.x cx.b d_Mo_take_77 (by decide) ?_
                  rw [← hQ]
                  exact hx_reti cx.x cx.b cx.r cx.k rfl hlo (fun _ h => h) (Nat.le_of_ble_eq_true rfl) (Nat.le_of_ble_eq_true rfl) d_Mo_take_78 (⟨P9, n9, M5, rfl, hn.2, fun L hL => by cases hL⟩)
                · have c6 : (p1 + 1) < (g.2 6) := Nat.not_le.mp (fun zz => c6 ((nI_leI (a := (g.2 6)) (b := (p1 + 1)) (by omega) (by omega)).mpr zz))
                  rw [wdO_cons c6 h2] at hi
                  refine lv_aload_n cx.x cx.b d_Mo_take_66 rfl (lv_at hl 2 rfl) ?_
                  refine gf_Mo_7_Mo cx oM1 rfl d_Mo_take_67 ?_
                  refine lv_iload_n cx.x cx.b d_Mo_take_70 rfl (lv_at hl 0 rfl) ?_
                  refine hx_iald cx.x cx.b cx.K 0 (M5.1.2.1 0 (by decide)) rfl (show vp_in (nI (p1 + 1)) 480 from vp_in_nI (show (p1 + 1) < 480 by omega) (by decide)) d_Mo_take_71 ?_
                  refine lv_topi (fun x14 e_x14 => ?_)
                  have hb9 : txt.getD (p1 + 1) 0 < 128 := okC_lt (hxc _ (getD_mem (show (p1 + 1) < txt.length by omega)))
                  have e_x14 : x14 = nI (txt.getD (p1 + 1) 0) := e_x14.trans (congrArg nI ((congrArg (g.1 0) (nI_clamp (n := (p1 + 1)) (by omega))).trans (hx (p1 + 1) (by omega))))
                  subst e_x14
                  refine lv_bipush (v := 36) cx.x cx.b d_Mo_take_72 (by decide) ?_
                  refine lv_icmp_eq (tgt := 79) cx.x cx.b d_Mo_take_74 (by decide) (fun c7 => ?_) (fun c7 => ?_)
                  · have c7 : (txt.getD (p1 + 1) 0) = 36 := (nI_eq (a := (txt.getD (p1 + 1) 0)) (b := 36) (by omega) (by omega)).mp c7
                    rw [c7, tkw_c] at hi
                    have hi : tkb A9 ((tkw (g.2 7) (wdO txt (p1 + 1 + 1) (g.2 6))).map (36 :: ·)) = G := by rw [c2]; exact hi
                    refine lv_bipush (v := 36) cx.x cx.b d_Mo_take_79 (by decide) ?_
                    refine lv_istore_n (lv' := [(2, .int 36), (1, .int (nI (p1 + 1))), (0, .ref a)]) cx.x cx.b d_Mo_take_81 rfl hl (by decide) rfl (fun ls hl => ?_)
                    exact PU _ (p1 + 1) 36 hlo ⟨by omega, c6⟩ hi _ (lv_sub hl [0, 1, 2] rfl)
                  · have c7 : (txt.getD (p1 + 1) 0) ≠ 36 := fun zz => c7 ((nI_eq (a := (txt.getD (p1 + 1) 0)) (b := 36) (by omega) (by omega)).mpr zz)
                    rw [tkw_b c7] at hi
                    have hi : none = G := hi
                    subst hi
                    refine lv_iconst (v := 0) cx.x cx.b d_Mo_take_77 (by decide) ?_
                    rw [← hQ]
                    exact hx_reti cx.x cx.b cx.r cx.k rfl hlo (fun _ h => h) (Nat.le_of_ble_eq_true rfl) (Nat.le_of_ble_eq_true rfl) d_Mo_take_78 (⟨P9, n9, M5, rfl, hn.2, fun L hL => by cases hL⟩)
          · have c3 : (txt.getD p1 0) = 36 := (nI_eq (a := (txt.getD p1 0)) (b := 36) (by omega) (by omega)).mp c3
            rw [c3, tkw_a] at hi
            have hi : none = G := hi
            subst hi
            refine lv_iconst (v := 0) cx.x cx.b d_Mo_take_39 (by decide) ?_
            rw [← hQ]
            exact hx_reti cx.x cx.b cx.r cx.k rfl hlo (fun _ h => h) (Nat.le_of_ble_eq_true rfl) (Nat.le_of_ble_eq_true rfl) d_Mo_take_40 (⟨P9, n9, M5, rfl, hn.2, fun L hL => by cases hL⟩)
  refine lv_aload_n cx.x cx.b d_Mo_take_0 rfl (lv_at hl 0 rfl) ?_
  refine lv_iconst (v := 0) cx.x cx.b d_Mo_take_1 (by decide) ?_
  refine pf_Mo_95_Mo cx M0.1.1 hlo M0.1.2.2.1 (Nat.le_of_ble_eq_true rfl) d_Mo_take_2 (fun H15 locs ho16 z_H15 o_H15 hlo => ?_)
  have ho16 : hOb (eD E) classes H15 a 10 [.ref (ad 0), .int (nI (g.2 0)), .ref (ad 1), .int (nI (g.2 1)), .int (nI (g.2 2)), .ref (ad 2), .ref (ad 3), .ref (ad 4), .ref (ad 5), .ref (ad 6), .ref (ad 7), .ref (ad 8), .ref (ad 9), .ref (ad 10), .int (nI (g.2 3)), .int (nI (g.2 4)), .int (nI (g.2 5)), .int (nI (g.2 6)), .int (nI (g.2 7)), .ref (ad 11), .int 0, .int (nI (g.2 9)), .int (nI (g.2 10)), .ref (ad 12), .int (nI (g.2 11)), .ref (ad 13)] := ho16
  have M17 : Mw E H H15 a ad (g.1, up g.2 8 0) := M0.sc (g.1, up g.2 8 0) ho16 z_H15 o_H15 rfl
  have oM18 : hOb (eD E) classes H15 a 10 [.ref (ad 0), .int (nI (g.2 0)), .ref (ad 1), .int (nI (g.2 1)), .int (nI (g.2 2)), .ref (ad 2), .ref (ad 3), .ref (ad 4), .ref (ad 5), .ref (ad 6), .ref (ad 7), .ref (ad 8), .ref (ad 9), .ref (ad 10), .int (nI (g.2 3)), .int (nI (g.2 4)), .int (nI (g.2 5)), .int (nI (g.2 6)), .int (nI (g.2 7)), .ref (ad 11), .int (nI 0), .int (nI (g.2 9)), .int (nI (g.2 10)), .ref (ad 12), .int (nI (g.2 11)), .ref (ad 13)] := M17.1.1
  refine lv_aload_n cx.x cx.b d_Mo_take_5 rfl (lv_at hl 0 rfl) ?_
  refine gf_Mo_68_Mo cx oM18 rfl d_Mo_take_6 ?_
  refine lv_istore_n (lv' := [(1, .int (nI (g.2 5))), (0, .ref a)]) cx.x cx.b d_Mo_take_9 rfl hl (by decide) rfl (fun ls hl => ?_)
  exact LP _ _ (g.2 5) 0 (g.1 11) [] _ hlo (Nat.lt_succ_self _) h1 (by have h9 := M17; rw [show up g.1 11 (g.1 11) = g.1 from up_id g.1 11]; exact h9) ⟨rfl, by omega⟩ (fun i hi => absurd hi (Nat.not_lt_zero i)) hG _ hl

set_option maxHeartbeats 4000000 in
set_option maxRecDepth 100000 in
theorem c_Mo_dotted (l : Launch) {E : hE} (hE : EnvOk E) {H : Heap} {a : Nat} {ad : Nat → Nat} {g : MS} (M : Mo E H a ad g) {L : List Nat} (hp : ∀ i, i < L.length → g.1 11 i = L.getD i 0) (hps : g.2 8 = L.length) (hpl : L.length ≤ 20) (hpc : ∀ x ∈ L, x < 128) {a1 b1 sp : Nat} (h1 : a1 ≤ b1) (h2 : b1 ≤ L.length) (h3 : sp < 128) : Ct l E y_Mo_dotted b_Mo_dotted 7 (some .boolean) (rmA 1 0 0) [.ref a, .int (nI a1), .int (nI b1), .int (nI sp)] H (hQi (fun r H1 => r = bI (dtF sp ((L.take b1).drop a1) true) ∧ H1 = H)) := by
  refine hx_enter hE (by decide) (Nat.le_of_ble_eq_true rfl) ?_
  intro p e s m args below meth c ls cx hnm hl
  have hl : lv_has ls 7 [(0, .ref a), (1, .int (nI a1)), (2, .int (nI b1)), (3, .int (nI sp))] := hl
  have hlo : hLo (eB E) [] := hLo.nil
  generalize hQ : MQ below _ args s _ _ _ = Q
  have M0 : Mw E H H a ad g := ⟨M, hCh.rf, rfl⟩
  have hlt := len_take h2
  generalize hG : dtF sp ((L.take b1).drop a1) true = G at hQ
  have LP : ∀ (k : Nat) (locs : List Loc) (q1 : Nat) (fr : Bool), hLo (eB E) locs → (b1 - q1 < k) → (q1 ≤ b1) → (dtF sp ((L.take b1).drop q1) fr = G) → ∀ ls, lv_has ls 7 [(5, .int (nI q1)), (4, .int (bI fr)), (0, .ref a), (2, .int (nI b1)), (3, .int (nI sp))] → W p l e (rmA 1 0 0) s m args below meth c H locs 0 0 Q (F0 m 6 ls []) := by
    intro k
    induction k with
    | zero => intro locs q1 fr hlo hk hq hi; exact absurd hk (by omega)
    | succ k ih =>
      intro locs q1 fr hlo hk hq hi ls hl
      refine lv_iload cx.x cx.b d_Mo_dotted_6 (lv_at hl 0 rfl) ?_
      refine lv_iload_n cx.x cx.b d_Mo_dotted_8 rfl (lv_at hl 3 rfl) ?_
      refine lv_icmp_ge (tgt := 79) cx.x cx.b d_Mo_dotted_9 (by decide) (fun c1 => ?_) (fun c1 => ?_)
      · have c1 : b1 ≤ q1 := (nI_leI (a := b1) (b := q1) (by omega) (by omega)).mp c1
        rw [drop_nil (by omega)] at hi
        cases fr
        · have hi : true = G := hi
          subst hi
          refine lv_iload cx.x cx.b d_Mo_dotted_79 (lv_at hl 1 rfl) ?_
          refine lv_if_ne (tgt := 88) cx.x cx.b d_Mo_dotted_81 (by decide) (fun c => absurd (by decide) c) (fun _ => ?_)
          refine lv_iconst (v := 1) cx.x cx.b d_Mo_dotted_84 (by decide) ?_
          refine lv_goto (tgt := 89) cx.x cx.b d_Mo_dotted_85 (by decide) ?_
          rw [← hQ]
          exact hx_reti cx.x cx.b cx.r cx.k rfl hlo (fun _ h => h) (Nat.le_of_ble_eq_true rfl) (Nat.le_of_ble_eq_true rfl) d_Mo_dotted_89 (⟨rfl, rfl⟩)
        · have hi : false = G := hi
          subst hi
          refine lv_iload cx.x cx.b d_Mo_dotted_79 (lv_at hl 1 rfl) ?_
          refine lv_if_ne (tgt := 88) cx.x cx.b d_Mo_dotted_81 (by decide) (fun _ => ?_) (fun c => absurd c (by decide))
          refine lv_iconst (v := 0) cx.x cx.b d_Mo_dotted_88 (by decide) ?_
          rw [← hQ]
          exact hx_reti cx.x cx.b cx.r cx.k rfl hlo (fun _ h => h) (Nat.le_of_ble_eq_true rfl) (Nat.le_of_ble_eq_true rfl) d_Mo_dotted_89 (⟨rfl, rfl⟩)
      · have c1 : q1 < b1 := Nat.not_le.mp (fun zz => c1 ((nI_leI (a := b1) (b := q1) (by omega) (by omega)).mpr zz))
        rw [drop_cons (by omega), getD_take c1] at hi
        unfold dtF at hi
        cases fr
        · refine lv_aload_n cx.x cx.b d_Mo_dotted_12 rfl (lv_at hl 2 rfl) ?_
          refine gf_Mo_43_Mo cx M0.1.1 rfl d_Mo_dotted_13 ?_
          refine lv_iload cx.x cx.b d_Mo_dotted_16 (lv_at hl 0 rfl) ?_
          refine hx_iald cx.x cx.b cx.K 0 (M0.1.2.1 11 (by decide)) rfl (show vp_in (nI q1) 20 from vp_in_nI (show q1 < 20 by omega) (by decide)) d_Mo_dotted_18 ?_
          refine lv_topi (fun x19 e_x19 => ?_)
          have hb9 : L.getD q1 0 < 128 := hpc _ (getD_mem (show q1 < L.length by omega))
          have e_x19 : x19 = nI (L.getD q1 0) := e_x19.trans (congrArg nI ((congrArg (g.1 11) (nI_clamp (n := q1) (by omega))).trans (hp q1 (by omega))))
          subst e_x19
          refine lv_istore (lv' := [(6, .int (nI (L.getD q1 0))), (5, .int (nI q1)), (4, .int (bI false)), (0, .ref a), (2, .int (nI b1)), (3, .int (nI sp))]) cx.x cx.b d_Mo_dotted_19 hl (by decide) rfl (fun ls hl => ?_)
          refine lv_iload cx.x cx.b d_Mo_dotted_21 (lv_at hl 0 rfl) ?_
          refine lv_iload_n cx.x cx.b d_Mo_dotted_23 rfl (lv_at hl 5 rfl) ?_
          refine lv_icmp_ne (tgt := 38) cx.x cx.b d_Mo_dotted_24 (by decide) (fun c2 => ?_) (fun c2 => ?_)
          · have c2 : (L.getD q1 0) ≠ sp := fun zz => c2 ((nI_eq (a := (L.getD q1 0)) (b := sp) (by omega) (by omega)).mpr zz)
            rw [if_neg (fun z => c2 z.1)] at hi
            refine lv_iload cx.x cx.b d_Mo_dotted_38 (lv_at hl 0 rfl) ?_
            refine hx_calli (iv_Mo_101 cx (c_Mo_begins l hE (H := H) (x := L.getD q1 0) (by omega)) rfl hl.1 rfl (Nat.le_of_ble_eq_true rfl) d_Mo_dotted_40 ⟨Nat.le_of_ble_eq_true rfl, Nat.le_of_ble_eq_true rfl⟩ ⟨Nat.le_of_ble_eq_true rfl, Nat.le_of_ble_eq_true rfl⟩) hlo (fun _ h => h) (fun r22 H21 locs hp20 hlo => ?_)
            obtain ⟨hp20, hH9⟩ := hp20
            have hH9 := hH9.symm
            subst hH9
            subst hp20
            cases hlt9 : isLt (L.getD q1 0)
            · refine lv_if_ne (tgt := 65) cx.x cx.b d_Mo_dotted_43 (by decide) (fun c => absurd (by decide) c) (fun _ => ?_)
              refine lv_iload cx.x cx.b d_Mo_dotted_46 (lv_at hl 2 rfl) ?_
              refine lv_if_ne (tgt := 71) cx.x cx.b d_Mo_dotted_48 (by decide) (fun c => absurd (by decide) c) (fun _ => ?_)
              refine lv_iload cx.x cx.b d_Mo_dotted_51 (lv_at hl 0 rfl) ?_
              refine lv_bipush (v := 48) cx.x cx.b d_Mo_dotted_53 (by decide) ?_
              refine lv_icmp_lt (tgt := 71) cx.x cx.b d_Mo_dotted_55 (by decide) (fun c3 => ?_) (fun c3 => ?_)
              · have c3 : (L.getD q1 0) < 48 := (nI_ltI (a := (L.getD q1 0)) (b := 48) (by omega) (by omega)).mp c3
                rw [if_neg (by rw [hlt9, show isDg (L.getD q1 0) = false from decide_eq_false (by omega)]; decide)] at hi
                subst hi
                refine lv_iconst (v := 0) cx.x cx.b d_Mo_dotted_71 (by decide) ?_
                rw [← hQ]
                exact hx_reti cx.x cx.b cx.r cx.k rfl hlo (fun _ h => h) (Nat.le_of_ble_eq_true rfl) (Nat.le_of_ble_eq_true rfl) d_Mo_dotted_72 (⟨rfl, rfl⟩)
              · have c3 : 48 ≤ (L.getD q1 0) := Nat.not_lt.mp (fun zz => c3 ((nI_ltI (a := (L.getD q1 0)) (b := 48) (by omega) (by omega)).mpr zz))
                refine lv_iload cx.x cx.b d_Mo_dotted_58 (lv_at hl 0 rfl) ?_
                refine lv_bipush (v := 57) cx.x cx.b d_Mo_dotted_60 (by decide) ?_
                refine lv_icmp_gt (tgt := 71) cx.x cx.b d_Mo_dotted_62 (by decide) (fun c4 => ?_) (fun c4 => ?_)
                · have c4 : 57 < (L.getD q1 0) := (nI_ltI (a := 57) (b := (L.getD q1 0)) (by omega) (by omega)).mp c4
                  rw [if_neg (by rw [hlt9, show isDg (L.getD q1 0) = false from decide_eq_false (by omega)]; decide)] at hi
                  subst hi
                  refine lv_iconst (v := 0) cx.x cx.b d_Mo_dotted_71 (by decide) ?_
                  rw [← hQ]
                  exact hx_reti cx.x cx.b cx.r cx.k rfl hlo (fun _ h => h) (Nat.le_of_ble_eq_true rfl) (Nat.le_of_ble_eq_true rfl) d_Mo_dotted_72 (⟨rfl, rfl⟩)
                · have c4 : (L.getD q1 0) ≤ 57 := Nat.not_lt.mp (fun zz => c4 ((nI_ltI (a := 57) (b := (L.getD q1 0)) (by omega) (by omega)).mpr zz))
                  rw [if_pos (by rw [hlt9, show isDg (L.getD q1 0) = true from decide_eq_true (by omega)]; rfl)] at hi
                  refine lv_iconst (v := 0) cx.x cx.b d_Mo_dotted_65 (by decide) ?_
                  refine lv_istore (lv' := [(4, .int 0), (6, .int (nI (L.getD q1 0))), (5, .int (nI q1)), (0, .ref a), (2, .int (nI b1)), (3, .int (nI sp))]) cx.x cx.b d_Mo_dotted_66 hl (by decide) rfl (fun ls hl => ?_)
                  refine lv_goto (tgt := 73) cx.x cx.b d_Mo_dotted_68 (by decide) ?_
                  obtain ⟨x24, e_x24⟩ : ∃ y : Int32, y = nI q1 + 1 := ⟨_, rfl⟩
                  refine lv_iinc (v := x24) (lv' := [(5, .int x24), (4, .int 0), (6, .int (nI (L.getD q1 0))), (0, .ref a), (2, .int (nI b1)), (3, .int (nI sp))]) cx.x cx.b d_Mo_dotted_73 hl (k := 2) rfl (by rw [e_x24]; rfl) (by decide) rfl (fun ls hl => ?_)
                  have e_x24 : x24 = nI (q1 + 1) := e_x24.trans (nI_add q1 1)
                  subst e_x24
                  refine lv_goto (tgt := 6) cx.x cx.b d_Mo_dotted_76 (by decide) ?_
                  exact ih _ (q1 + 1) false hlo (by omega) (by omega) hi _ (lv_sub hl [0, 1, 3, 4, 5] rfl)
            · rw [if_pos (by rw [hlt9]; rfl)] at hi
              refine lv_if_ne (tgt := 65) cx.x cx.b d_Mo_dotted_43 (by decide) (fun _ => ?_) (fun c => absurd c (by decide))
              refine lv_iconst (v := 0) cx.x cx.b d_Mo_dotted_65 (by decide) ?_
              refine lv_istore (lv' := [(4, .int 0), (6, .int (nI (L.getD q1 0))), (5, .int (nI q1)), (0, .ref a), (2, .int (nI b1)), (3, .int (nI sp))]) cx.x cx.b d_Mo_dotted_66 hl (by decide) rfl (fun ls hl => ?_)
              refine lv_goto (tgt := 73) cx.x cx.b d_Mo_dotted_68 (by decide) ?_
              obtain ⟨x23, e_x23⟩ : ∃ y : Int32, y = nI q1 + 1 := ⟨_, rfl⟩
              refine lv_iinc (v := x23) (lv' := [(5, .int x23), (4, .int 0), (6, .int (nI (L.getD q1 0))), (0, .ref a), (2, .int (nI b1)), (3, .int (nI sp))]) cx.x cx.b d_Mo_dotted_73 hl (k := 2) rfl (by rw [e_x23]; rfl) (by decide) rfl (fun ls hl => ?_)
              have e_x23 : x23 = nI (q1 + 1) := e_x23.trans (nI_add q1 1)
              subst e_x23
              refine lv_goto (tgt := 6) cx.x cx.b d_Mo_dotted_76 (by decide) ?_
              exact ih _ (q1 + 1) false hlo (by omega) (by omega) hi _ (lv_sub hl [0, 1, 3, 4, 5] rfl)
          · have c2 : (L.getD q1 0) = sp := (nI_eq (a := (L.getD q1 0)) (b := sp) (by omega) (by omega)).mp c2
            refine lv_iload cx.x cx.b d_Mo_dotted_27 (lv_at hl 2 rfl) ?_
            refine lv_if_ne (tgt := 38) cx.x cx.b d_Mo_dotted_29 (by decide) (fun c => absurd (by decide) c) (fun _ => ?_)
            rw [if_pos ⟨c2, rfl⟩] at hi
            refine lv_iconst (v := 1) cx.x cx.b d_Mo_dotted_32 (by decide) ?_
            refine lv_istore (lv' := [(4, .int 1), (6, .int (nI (L.getD q1 0))), (5, .int (nI q1)), (0, .ref a), (2, .int (nI b1)), (3, .int (nI sp))]) cx.x cx.b d_Mo_dotted_33 hl (by decide) rfl (fun ls hl => ?_)
            refine lv_goto (tgt := 73) cx.x cx.b d_Mo_dotted_35 (by decide) ?_
            obtain ⟨x25, e_x25⟩ : ∃ y : Int32, y = nI q1 + 1 := ⟨_, rfl⟩
            refine lv_iinc (v := x25) (lv' := [(5, .int x25), (4, .int 1), (6, .int (nI (L.getD q1 0))), (0, .ref a), (2, .int (nI b1)), (3, .int (nI sp))]) cx.x cx.b d_Mo_dotted_73 hl (k := 2) rfl (by rw [e_x25]; rfl) (by decide) rfl (fun ls hl => ?_)
            have e_x25 : x25 = nI (q1 + 1) := e_x25.trans (nI_add q1 1)
            subst e_x25
            refine lv_goto (tgt := 6) cx.x cx.b d_Mo_dotted_76 (by decide) ?_
            exact ih _ (q1 + 1) true hlo (by omega) (by omega) hi _ (lv_sub hl [0, 1, 3, 4, 5] rfl)
        · refine lv_aload_n cx.x cx.b d_Mo_dotted_12 rfl (lv_at hl 2 rfl) ?_
          refine gf_Mo_43_Mo cx M0.1.1 rfl d_Mo_dotted_13 ?_
          refine lv_iload cx.x cx.b d_Mo_dotted_16 (lv_at hl 0 rfl) ?_
          refine hx_iald cx.x cx.b cx.K 0 (M0.1.2.1 11 (by decide)) rfl (show vp_in (nI q1) 20 from vp_in_nI (show q1 < 20 by omega) (by decide)) d_Mo_dotted_18 ?_
          refine lv_topi (fun x26 e_x26 => ?_)
          have hb9 : L.getD q1 0 < 128 := hpc _ (getD_mem (show q1 < L.length by omega))
          have e_x26 : x26 = nI (L.getD q1 0) := e_x26.trans (congrArg nI ((congrArg (g.1 11) (nI_clamp (n := q1) (by omega))).trans (hp q1 (by omega))))
          subst e_x26
          refine lv_istore (lv' := [(6, .int (nI (L.getD q1 0))), (5, .int (nI q1)), (4, .int (bI true)), (0, .ref a), (2, .int (nI b1)), (3, .int (nI sp))]) cx.x cx.b d_Mo_dotted_19 hl (by decide) rfl (fun ls hl => ?_)
          refine lv_iload cx.x cx.b d_Mo_dotted_21 (lv_at hl 0 rfl) ?_
          refine lv_iload_n cx.x cx.b d_Mo_dotted_23 rfl (lv_at hl 5 rfl) ?_
          refine lv_icmp_ne (tgt := 38) cx.x cx.b d_Mo_dotted_24 (by decide) (fun c2 => ?_) (fun c2 => ?_)
          · have c2 : (L.getD q1 0) ≠ sp := fun zz => c2 ((nI_eq (a := (L.getD q1 0)) (b := sp) (by omega) (by omega)).mpr zz)
            rw [if_neg (fun z => c2 z.1)] at hi
            refine lv_iload cx.x cx.b d_Mo_dotted_38 (lv_at hl 0 rfl) ?_
            refine hx_calli (iv_Mo_101 cx (c_Mo_begins l hE (H := H) (x := L.getD q1 0) (by omega)) rfl hl.1 rfl (Nat.le_of_ble_eq_true rfl) d_Mo_dotted_40 ⟨Nat.le_of_ble_eq_true rfl, Nat.le_of_ble_eq_true rfl⟩ ⟨Nat.le_of_ble_eq_true rfl, Nat.le_of_ble_eq_true rfl⟩) hlo (fun _ h => h) (fun r29 H28 locs hp27 hlo => ?_)
            obtain ⟨hp27, hH9⟩ := hp27
            have hH9 := hH9.symm
            subst hH9
            subst hp27
            cases hlt9 : isLt (L.getD q1 0)
            · refine lv_if_ne (tgt := 65) cx.x cx.b d_Mo_dotted_43 (by decide) (fun c => absurd (by decide) c) (fun _ => ?_)
              refine lv_iload cx.x cx.b d_Mo_dotted_46 (lv_at hl 2 rfl) ?_
              refine lv_if_ne (tgt := 71) cx.x cx.b d_Mo_dotted_48 (by decide) (fun _ => ?_) (fun c => absurd c (by decide))
              rw [if_neg (by rw [hlt9]; exact Bool.false_ne_true)] at hi
              subst hi
              refine lv_iconst (v := 0) cx.x cx.b d_Mo_dotted_71 (by decide) ?_
              rw [← hQ]
              exact hx_reti cx.x cx.b cx.r cx.k rfl hlo (fun _ h => h) (Nat.le_of_ble_eq_true rfl) (Nat.le_of_ble_eq_true rfl) d_Mo_dotted_72 (⟨rfl, rfl⟩)
            · rw [if_pos (by rw [hlt9]; rfl)] at hi
              refine lv_if_ne (tgt := 65) cx.x cx.b d_Mo_dotted_43 (by decide) (fun _ => ?_) (fun c => absurd c (by decide))
              refine lv_iconst (v := 0) cx.x cx.b d_Mo_dotted_65 (by decide) ?_
              refine lv_istore (lv' := [(4, .int 0), (6, .int (nI (L.getD q1 0))), (5, .int (nI q1)), (0, .ref a), (2, .int (nI b1)), (3, .int (nI sp))]) cx.x cx.b d_Mo_dotted_66 hl (by decide) rfl (fun ls hl => ?_)
              refine lv_goto (tgt := 73) cx.x cx.b d_Mo_dotted_68 (by decide) ?_
              obtain ⟨x30, e_x30⟩ : ∃ y : Int32, y = nI q1 + 1 := ⟨_, rfl⟩
              refine lv_iinc (v := x30) (lv' := [(5, .int x30), (4, .int 0), (6, .int (nI (L.getD q1 0))), (0, .ref a), (2, .int (nI b1)), (3, .int (nI sp))]) cx.x cx.b d_Mo_dotted_73 hl (k := 2) rfl (by rw [e_x30]; rfl) (by decide) rfl (fun ls hl => ?_)
              have e_x30 : x30 = nI (q1 + 1) := e_x30.trans (nI_add q1 1)
              subst e_x30
              refine lv_goto (tgt := 6) cx.x cx.b d_Mo_dotted_76 (by decide) ?_
              exact ih _ (q1 + 1) false hlo (by omega) (by omega) hi _ (lv_sub hl [0, 1, 3, 4, 5] rfl)
          · have c2 : (L.getD q1 0) = sp := (nI_eq (a := (L.getD q1 0)) (b := sp) (by omega) (by omega)).mp c2
            refine lv_iload cx.x cx.b d_Mo_dotted_27 (lv_at hl 2 rfl) ?_
            refine lv_if_ne (tgt := 38) cx.x cx.b d_Mo_dotted_29 (by decide) (fun _ => ?_) (fun c => absurd c (by decide))
            rw [if_neg (fun z => by cases z.2)] at hi
            refine lv_iload cx.x cx.b d_Mo_dotted_38 (lv_at hl 0 rfl) ?_
            refine hx_calli (iv_Mo_101 cx (c_Mo_begins l hE (H := H) (x := L.getD q1 0) (by omega)) rfl hl.1 rfl (Nat.le_of_ble_eq_true rfl) d_Mo_dotted_40 ⟨Nat.le_of_ble_eq_true rfl, Nat.le_of_ble_eq_true rfl⟩ ⟨Nat.le_of_ble_eq_true rfl, Nat.le_of_ble_eq_true rfl⟩) hlo (fun _ h => h) (fun r33 H32 locs hp31 hlo => ?_)
            obtain ⟨hp31, hH9⟩ := hp31
            have hH9 := hH9.symm
            subst hH9
            subst hp31
            cases hlt9 : isLt (L.getD q1 0)
            · refine lv_if_ne (tgt := 65) cx.x cx.b d_Mo_dotted_43 (by decide) (fun c => absurd (by decide) c) (fun _ => ?_)
              refine lv_iload cx.x cx.b d_Mo_dotted_46 (lv_at hl 2 rfl) ?_
              refine lv_if_ne (tgt := 71) cx.x cx.b d_Mo_dotted_48 (by decide) (fun _ => ?_) (fun c => absurd c (by decide))
              rw [if_neg (by rw [hlt9]; exact Bool.false_ne_true)] at hi
              subst hi
              refine lv_iconst (v := 0) cx.x cx.b d_Mo_dotted_71 (by decide) ?_
              rw [← hQ]
              exact hx_reti cx.x cx.b cx.r cx.k rfl hlo (fun _ h => h) (Nat.le_of_ble_eq_true rfl) (Nat.le_of_ble_eq_true rfl) d_Mo_dotted_72 (⟨rfl, rfl⟩)
            · rw [if_pos (by rw [hlt9]; rfl)] at hi
              refine lv_if_ne (tgt := 65) cx.x cx.b d_Mo_dotted_43 (by decide) (fun _ => ?_) (fun c => absurd c (by decide))
              refine lv_iconst (v := 0) cx.x cx.b d_Mo_dotted_65 (by decide) ?_
              refine lv_istore (lv' := [(4, .int 0), (6, .int (nI (L.getD q1 0))), (5, .int (nI q1)), (0, .ref a), (2, .int (nI b1)), (3, .int (nI sp))]) cx.x cx.b d_Mo_dotted_66 hl (by decide) rfl (fun ls hl => ?_)
              refine lv_goto (tgt := 73) cx.x cx.b d_Mo_dotted_68 (by decide) ?_
              obtain ⟨x34, e_x34⟩ : ∃ y : Int32, y = nI q1 + 1 := ⟨_, rfl⟩
              refine lv_iinc (v := x34) (lv' := [(5, .int x34), (4, .int 0), (6, .int (nI (L.getD q1 0))), (0, .ref a), (2, .int (nI b1)), (3, .int (nI sp))]) cx.x cx.b d_Mo_dotted_73 hl (k := 2) rfl (by rw [e_x34]; rfl) (by decide) rfl (fun ls hl => ?_)
              have e_x34 : x34 = nI (q1 + 1) := e_x34.trans (nI_add q1 1)
              subst e_x34
              refine lv_goto (tgt := 6) cx.x cx.b d_Mo_dotted_76 (by decide) ?_
              exact ih _ (q1 + 1) false hlo (by omega) (by omega) hi _ (lv_sub hl [0, 1, 3, 4, 5] rfl)
  refine lv_iconst (v := 1) cx.x cx.b d_Mo_dotted_0 (by decide) ?_
  refine lv_istore (lv' := [(4, .int 1), (0, .ref a), (1, .int (nI a1)), (2, .int (nI b1)), (3, .int (nI sp))]) cx.x cx.b d_Mo_dotted_1 hl (by decide) rfl (fun ls hl => ?_)
  refine lv_iload_n cx.x cx.b d_Mo_dotted_3 rfl (lv_at hl 2 rfl) ?_
  refine lv_istore (lv' := [(5, .int (nI a1)), (4, .int 1), (0, .ref a), (1, .int (nI a1)), (2, .int (nI b1)), (3, .int (nI sp))]) cx.x cx.b d_Mo_dotted_4 hl (by decide) rfl (fun ls hl => ?_)
  exact LP _ _ a1 true hlo (Nat.lt_succ_self _) h1 hG _ (lv_sub hl [0, 1, 2, 4, 5] rfl)

set_option maxHeartbeats 4000000 in
set_option maxRecDepth 100000 in
theorem c_Mo_init2 (l : Launch) {E : hE} (hE : EnvOk E) {H : Heap} {a : Nat} {ad : Nat → Nat} {g : MS} (M : Mo E H a ad g) {L : List Nat} (hp : ∀ i, i < L.length → g.1 11 i = L.getD i 0) (hps : g.2 8 = L.length) (hpl : L.length ≤ 20) (hpc : ∀ x ∈ L, x < 128) : Ct l E y_Mo_init2 b_Mo_init2 1 (some .boolean) (rmA 0 0 0) [.ref a] H (hQi (fun r H1 => r = bI (decide (L = strL 14)) ∧ H1 = H)) := by
  refine hx_enter hE (by decide) (Nat.le_of_ble_eq_true rfl) ?_
  intro p e s m args below meth c ls cx hnm hl
  have hl : lv_has ls 1 [(0, .ref a)] := hl
  have hlo : hLo (eB E) [] := hLo.nil
  generalize hQ : MQ below _ args s _ _ _ = Q
  have M0 : Mw E H H a ad g := ⟨M, hCh.rf, rfl⟩
  refine lv_aload_n cx.x cx.b d_Mo_init2_0 rfl (lv_at hl 0 rfl) ?_
  refine gf_Mo_95_Mo cx M0.1.1 rfl d_Mo_init2_1 ?_
  refine lv_bipush (v := 6) cx.x cx.b d_Mo_init2_4 (by decide) ?_
  rw [hps]
  refine lv_icmp_ne (tgt := 79) cx.x cx.b d_Mo_init2_6 (by decide) (fun c0 => ?_) (fun c0 => ?_)
  · have c0 : L.length ≠ 6 := fun zz => c0 ((nI_eq (a := L.length) (b := 6) (by omega) (by omega)).mpr zz)
    rw [decide_eq_false (show ¬ L = strL 14 from fun z => by rw [z] at c0; exact absurd rfl c0)] at hQ
    refine lv_iconst (v := 0) cx.x cx.b d_Mo_init2_79 (by decide) ?_
    rw [← hQ]
    exact hx_reti cx.x cx.b cx.r cx.k rfl hlo (fun _ h => h) (Nat.le_of_ble_eq_true rfl) (Nat.le_of_ble_eq_true rfl) d_Mo_init2_80 (⟨rfl, rfl⟩)
  · have c0 : L.length = 6 := (nI_eq (a := L.length) (b := 6) (by omega) (by omega)).mp c0
    refine lv_aload_n cx.x cx.b d_Mo_init2_9 rfl (lv_at hl 0 rfl) ?_
    refine gf_Mo_43_Mo cx M0.1.1 rfl d_Mo_init2_10 ?_
    refine lv_iconst (v := 0) cx.x cx.b d_Mo_init2_13 (by decide) ?_
    refine hx_iald cx.x cx.b cx.K 0 (M0.1.2.1 11 (by decide)) rfl (show vp_in (nI 0) 20 from vp_in_nI (show 0 < 20 by omega) (by decide)) d_Mo_init2_14 ?_
    refine lv_topi (fun x35 e_x35 => ?_)
    have hb9 : L.getD 0 0 < 128 := hpc _ (getD_mem (show 0 < L.length by omega))
    have e_x35 : x35 = nI (L.getD 0 0) := e_x35.trans (congrArg nI ((congrArg (g.1 11) (nI_clamp (n := 0) (by omega))).trans (hp 0 (by omega))))
    subst e_x35
    refine lv_bipush (v := 60) cx.x cx.b d_Mo_init2_15 (by decide) ?_
    refine lv_icmp_ne (tgt := 79) cx.x cx.b d_Mo_init2_17 (by decide) (fun c1 => ?_) (fun c1 => ?_)
    · have c1 : (L.getD 0 0) ≠ 60 := fun zz => c1 ((nI_eq (a := (L.getD 0 0)) (b := 60) (by omega) (by omega)).mpr zz)
      rw [decide_eq_false (show ¬ L = strL 14 from fun z => by rw [z] at c1; exact absurd rfl c1)] at hQ
      refine lv_iconst (v := 0) cx.x cx.b d_Mo_init2_79 (by decide) ?_
      rw [← hQ]
      exact hx_reti cx.x cx.b cx.r cx.k rfl hlo (fun _ h => h) (Nat.le_of_ble_eq_true rfl) (Nat.le_of_ble_eq_true rfl) d_Mo_init2_80 (⟨rfl, rfl⟩)
    · have c1 : (L.getD 0 0) = 60 := (nI_eq (a := (L.getD 0 0)) (b := 60) (by omega) (by omega)).mp c1
      refine lv_aload_n cx.x cx.b d_Mo_init2_20 rfl (lv_at hl 0 rfl) ?_
      refine gf_Mo_43_Mo cx M0.1.1 rfl d_Mo_init2_21 ?_
      refine lv_iconst (v := 1) cx.x cx.b d_Mo_init2_24 (by decide) ?_
      refine hx_iald cx.x cx.b cx.K 0 (M0.1.2.1 11 (by decide)) rfl (show vp_in (nI 1) 20 from vp_in_nI (show 1 < 20 by omega) (by decide)) d_Mo_init2_25 ?_
      refine lv_topi (fun x36 e_x36 => ?_)
      have hb9 : L.getD 1 0 < 128 := hpc _ (getD_mem (show 1 < L.length by omega))
      have e_x36 : x36 = nI (L.getD 1 0) := e_x36.trans (congrArg nI ((congrArg (g.1 11) (nI_clamp (n := 1) (by omega))).trans (hp 1 (by omega))))
      subst e_x36
      refine lv_bipush (v := 105) cx.x cx.b d_Mo_init2_26 (by decide) ?_
      refine lv_icmp_ne (tgt := 79) cx.x cx.b d_Mo_init2_28 (by decide) (fun c2 => ?_) (fun c2 => ?_)
      · have c2 : (L.getD 1 0) ≠ 105 := fun zz => c2 ((nI_eq (a := (L.getD 1 0)) (b := 105) (by omega) (by omega)).mpr zz)
        rw [decide_eq_false (show ¬ L = strL 14 from fun z => by rw [z] at c2; exact absurd rfl c2)] at hQ
        refine lv_iconst (v := 0) cx.x cx.b d_Mo_init2_79 (by decide) ?_
        rw [← hQ]
        exact hx_reti cx.x cx.b cx.r cx.k rfl hlo (fun _ h => h) (Nat.le_of_ble_eq_true rfl) (Nat.le_of_ble_eq_true rfl) d_Mo_init2_80 (⟨rfl, rfl⟩)
      · have c2 : (L.getD 1 0) = 105 := (nI_eq (a := (L.getD 1 0)) (b := 105) (by omega) (by omega)).mp c2
        refine lv_aload_n cx.x cx.b d_Mo_init2_31 rfl (lv_at hl 0 rfl) ?_
        refine gf_Mo_43_Mo cx M0.1.1 rfl d_Mo_init2_32 ?_
        refine lv_iconst (v := 2) cx.x cx.b d_Mo_init2_35 (by decide) ?_
        refine hx_iald cx.x cx.b cx.K 0 (M0.1.2.1 11 (by decide)) rfl (show vp_in (nI 2) 20 from vp_in_nI (show 2 < 20 by omega) (by decide)) d_Mo_init2_36 ?_
        refine lv_topi (fun x37 e_x37 => ?_)
        have hb9 : L.getD 2 0 < 128 := hpc _ (getD_mem (show 2 < L.length by omega))
        have e_x37 : x37 = nI (L.getD 2 0) := e_x37.trans (congrArg nI ((congrArg (g.1 11) (nI_clamp (n := 2) (by omega))).trans (hp 2 (by omega))))
        subst e_x37
        refine lv_bipush (v := 110) cx.x cx.b d_Mo_init2_37 (by decide) ?_
        refine lv_icmp_ne (tgt := 79) cx.x cx.b d_Mo_init2_39 (by decide) (fun c3 => ?_) (fun c3 => ?_)
        · have c3 : (L.getD 2 0) ≠ 110 := fun zz => c3 ((nI_eq (a := (L.getD 2 0)) (b := 110) (by omega) (by omega)).mpr zz)
          rw [decide_eq_false (show ¬ L = strL 14 from fun z => by rw [z] at c3; exact absurd rfl c3)] at hQ
          refine lv_iconst (v := 0) cx.x cx.b d_Mo_init2_79 (by decide) ?_
          rw [← hQ]
          exact hx_reti cx.x cx.b cx.r cx.k rfl hlo (fun _ h => h) (Nat.le_of_ble_eq_true rfl) (Nat.le_of_ble_eq_true rfl) d_Mo_init2_80 (⟨rfl, rfl⟩)
        · have c3 : (L.getD 2 0) = 110 := (nI_eq (a := (L.getD 2 0)) (b := 110) (by omega) (by omega)).mp c3
          refine lv_aload_n cx.x cx.b d_Mo_init2_42 rfl (lv_at hl 0 rfl) ?_
          refine gf_Mo_43_Mo cx M0.1.1 rfl d_Mo_init2_43 ?_
          refine lv_iconst (v := 3) cx.x cx.b d_Mo_init2_46 (by decide) ?_
          refine hx_iald cx.x cx.b cx.K 0 (M0.1.2.1 11 (by decide)) rfl (show vp_in (nI 3) 20 from vp_in_nI (show 3 < 20 by omega) (by decide)) d_Mo_init2_47 ?_
          refine lv_topi (fun x38 e_x38 => ?_)
          have hb9 : L.getD 3 0 < 128 := hpc _ (getD_mem (show 3 < L.length by omega))
          have e_x38 : x38 = nI (L.getD 3 0) := e_x38.trans (congrArg nI ((congrArg (g.1 11) (nI_clamp (n := 3) (by omega))).trans (hp 3 (by omega))))
          subst e_x38
          refine lv_bipush (v := 105) cx.x cx.b d_Mo_init2_48 (by decide) ?_
          refine lv_icmp_ne (tgt := 79) cx.x cx.b d_Mo_init2_50 (by decide) (fun c4 => ?_) (fun c4 => ?_)
          · have c4 : (L.getD 3 0) ≠ 105 := fun zz => c4 ((nI_eq (a := (L.getD 3 0)) (b := 105) (by omega) (by omega)).mpr zz)
            rw [decide_eq_false (show ¬ L = strL 14 from fun z => by rw [z] at c4; exact absurd rfl c4)] at hQ
            refine lv_iconst (v := 0) cx.x cx.b d_Mo_init2_79 (by decide) ?_
            rw [← hQ]
            exact hx_reti cx.x cx.b cx.r cx.k rfl hlo (fun _ h => h) (Nat.le_of_ble_eq_true rfl) (Nat.le_of_ble_eq_true rfl) d_Mo_init2_80 (⟨rfl, rfl⟩)
          · have c4 : (L.getD 3 0) = 105 := (nI_eq (a := (L.getD 3 0)) (b := 105) (by omega) (by omega)).mp c4
            refine lv_aload_n cx.x cx.b d_Mo_init2_53 rfl (lv_at hl 0 rfl) ?_
            refine gf_Mo_43_Mo cx M0.1.1 rfl d_Mo_init2_54 ?_
            refine lv_iconst (v := 4) cx.x cx.b d_Mo_init2_57 (by decide) ?_
            refine hx_iald cx.x cx.b cx.K 0 (M0.1.2.1 11 (by decide)) rfl (show vp_in (nI 4) 20 from vp_in_nI (show 4 < 20 by omega) (by decide)) d_Mo_init2_58 ?_
            refine lv_topi (fun x39 e_x39 => ?_)
            have hb9 : L.getD 4 0 < 128 := hpc _ (getD_mem (show 4 < L.length by omega))
            have e_x39 : x39 = nI (L.getD 4 0) := e_x39.trans (congrArg nI ((congrArg (g.1 11) (nI_clamp (n := 4) (by omega))).trans (hp 4 (by omega))))
            subst e_x39
            refine lv_bipush (v := 116) cx.x cx.b d_Mo_init2_59 (by decide) ?_
            refine lv_icmp_ne (tgt := 79) cx.x cx.b d_Mo_init2_61 (by decide) (fun c5 => ?_) (fun c5 => ?_)
            · have c5 : (L.getD 4 0) ≠ 116 := fun zz => c5 ((nI_eq (a := (L.getD 4 0)) (b := 116) (by omega) (by omega)).mpr zz)
              rw [decide_eq_false (show ¬ L = strL 14 from fun z => by rw [z] at c5; exact absurd rfl c5)] at hQ
              refine lv_iconst (v := 0) cx.x cx.b d_Mo_init2_79 (by decide) ?_
              rw [← hQ]
              exact hx_reti cx.x cx.b cx.r cx.k rfl hlo (fun _ h => h) (Nat.le_of_ble_eq_true rfl) (Nat.le_of_ble_eq_true rfl) d_Mo_init2_80 (⟨rfl, rfl⟩)
            · have c5 : (L.getD 4 0) = 116 := (nI_eq (a := (L.getD 4 0)) (b := 116) (by omega) (by omega)).mp c5
              refine lv_aload_n cx.x cx.b d_Mo_init2_64 rfl (lv_at hl 0 rfl) ?_
              refine gf_Mo_43_Mo cx M0.1.1 rfl d_Mo_init2_65 ?_
              refine lv_iconst (v := 5) cx.x cx.b d_Mo_init2_68 (by decide) ?_
              refine hx_iald cx.x cx.b cx.K 0 (M0.1.2.1 11 (by decide)) rfl (show vp_in (nI 5) 20 from vp_in_nI (show 5 < 20 by omega) (by decide)) d_Mo_init2_69 ?_
              refine lv_topi (fun x40 e_x40 => ?_)
              have hb9 : L.getD 5 0 < 128 := hpc _ (getD_mem (show 5 < L.length by omega))
              have e_x40 : x40 = nI (L.getD 5 0) := e_x40.trans (congrArg nI ((congrArg (g.1 11) (nI_clamp (n := 5) (by omega))).trans (hp 5 (by omega))))
              subst e_x40
              refine lv_bipush (v := 62) cx.x cx.b d_Mo_init2_70 (by decide) ?_
              refine lv_icmp_ne (tgt := 79) cx.x cx.b d_Mo_init2_72 (by decide) (fun c6 => ?_) (fun c6 => ?_)
              · have c6 : (L.getD 5 0) ≠ 62 := fun zz => c6 ((nI_eq (a := (L.getD 5 0)) (b := 62) (by omega) (by omega)).mpr zz)
                rw [decide_eq_false (show ¬ L = strL 14 from fun z => by rw [z] at c6; exact absurd rfl c6)] at hQ
                refine lv_iconst (v := 0) cx.x cx.b d_Mo_init2_79 (by decide) ?_
                rw [← hQ]
                exact hx_reti cx.x cx.b cx.r cx.k rfl hlo (fun _ h => h) (Nat.le_of_ble_eq_true rfl) (Nat.le_of_ble_eq_true rfl) d_Mo_init2_80 (⟨rfl, rfl⟩)
              · have c6 : (L.getD 5 0) = 62 := (nI_eq (a := (L.getD 5 0)) (b := 62) (by omega) (by omega)).mp c6
                rw [decide_eq_true (len6 c0 c1 c2 c3 c4 c5 c6)] at hQ
                refine lv_iconst (v := 1) cx.x cx.b d_Mo_init2_75 (by decide) ?_
                refine lv_goto (tgt := 80) cx.x cx.b d_Mo_init2_76 (by decide) ?_
                rw [← hQ]
                exact hx_reti cx.x cx.b cx.r cx.k rfl hlo (fun _ h => h) (Nat.le_of_ble_eq_true rfl) (Nat.le_of_ble_eq_true rfl) d_Mo_init2_80 (⟨rfl, rfl⟩)

set_option maxHeartbeats 4000000 in
set_option maxRecDepth 100000 in
theorem c_Mo_field (l : Launch) {E : hE} (hE : EnvOk E) {H : Heap} {a : Nat} {ad : Nat → Nat} {g : MS} (M : Mo E H a ad g) {L : List Nat} (hp : ∀ i, i < L.length → g.1 11 i = L.getD i 0) (hps : g.2 8 = L.length) (hpl : L.length ≤ 20) (hpc : ∀ x ∈ L, x < 128) {k1 : Nat} (h1 : k1 ≤ L.length) : Ct l E y_Mo_field b_Mo_field 5 (some .int) (rmA 2 0 0) [.ref a, .int (nI k1)] H (hQi (fun r H1 => r = oI (fieldE L k1) ∧ H1 = H)) := by
  refine hx_enter hE (by decide) (Nat.le_of_ble_eq_true rfl) ?_
  intro p e s m args below meth c ls cx hnm hl
  have hl : lv_has ls 5 [(0, .ref a), (1, .int (nI k1))] := hl
  have hlo : hLo (eB E) [] := hLo.nil
  generalize hQ : MQ below _ args s _ _ _ = Q
  have M0 : Mw E H H a ad g := ⟨M, hCh.rf, rfl⟩
  rw [← fieldM_eq] at hQ
  unfold fieldM at hQ
  have a1 := skipB_le h1
  generalize hS9 : skipB L k1 = S at hQ a1
  have hS9 : skB (L.drop k1) k1 = S := hS9
  have ED : ∀ (locs : List Loc) , hLo (eB E) locs → ∀ ls, lv_has ls 5 [(2, .int (nI S)), (0, .ref a)] → W p l e (rmA 2 0 0) s m args below meth c H locs 0 0 Q (F0 m 27 ls []) := by
    intro locs  hlo  ls hl
    refine lv_iload_n cx.x cx.b d_Mo_field_27 rfl (lv_at hl 0 rfl) ?_
    refine lv_aload_n cx.x cx.b d_Mo_field_28 rfl (lv_at hl 1 rfl) ?_
    refine gf_Mo_95_Mo cx M0.1.1 rfl d_Mo_field_29 ?_
    rw [hps]
    refine lv_icmp_lt (tgt := 37) cx.x cx.b d_Mo_field_32 (by decide) (fun c1 => ?_) (fun c1 => ?_)
    · have c1 : S < L.length := (nI_ltI (a := S) (b := L.length) (by omega) (by omega)).mp c1
      rw [if_neg (by omega)] at hQ
      refine lv_aload_n cx.x cx.b d_Mo_field_37 rfl (lv_at hl 1 rfl) ?_
      refine gf_Mo_43_Mo cx M0.1.1 rfl d_Mo_field_38 ?_
      refine lv_iload_n cx.x cx.b d_Mo_field_41 rfl (lv_at hl 0 rfl) ?_
      refine hx_iald cx.x cx.b cx.K 0 (M0.1.2.1 11 (by decide)) rfl (show vp_in (nI S) 20 from vp_in_nI (show S < 20 by omega) (by decide)) d_Mo_field_42 ?_
      refine lv_topi (fun x41 e_x41 => ?_)
      have hb9 : L.getD S 0 < 128 := hpc _ (getD_mem (show S < L.length by omega))
      have e_x41 : x41 = nI (L.getD S 0) := e_x41.trans (congrArg nI ((congrArg (g.1 11) (nI_clamp (n := S) (by omega))).trans (hp S (by omega))))
      subst e_x41
      refine lv_istore_n (lv' := [(3, .int (nI (L.getD S 0))), (2, .int (nI S)), (0, .ref a)]) cx.x cx.b d_Mo_field_43 rfl hl (by decide) rfl (fun ls hl => ?_)
      refine lv_iload_n cx.x cx.b d_Mo_field_44 rfl (lv_at hl 0 rfl) ?_
      refine lv_bipush (v := 66) cx.x cx.b d_Mo_field_45 (by decide) ?_
      refine lv_icmp_eq (tgt := 92) cx.x cx.b d_Mo_field_47 (by decide) (fun d0 => ?_) (fun d0 => ?_)
      · have d0 : (L.getD S 0) = 66 := (nI_eq (a := (L.getD S 0)) (b := 66) (by omega) (by omega)).mp d0
        rw [if_pos (show isBs (L.getD S 0) = true from decide_eq_true (by omega))] at hQ
        refine lv_iload_n cx.x cx.b d_Mo_field_92 rfl (lv_at hl 1 rfl) ?_
        refine lv_iconst (v := 1) cx.x cx.b d_Mo_field_93 (by decide) ?_
        refine lv_iadd cx.x cx.b d_Mo_field_94 ?_
        refine lv_topi (fun x42 e_x42 => ?_)
        have e_x42 : x42 = nI (S + 1) := e_x42.trans (nI_add S 1)
        subst e_x42
        rw [← hQ]
        exact hx_reti cx.x cx.b cx.r cx.k rfl hlo (fun _ h => h) (Nat.le_of_ble_eq_true rfl) (Nat.le_of_ble_eq_true rfl) d_Mo_field_95 (⟨rfl, rfl⟩)
      · have d0 : (L.getD S 0) ≠ 66 := fun zz => d0 ((nI_eq (a := (L.getD S 0)) (b := 66) (by omega) (by omega)).mpr zz)
        refine lv_iload_n cx.x cx.b d_Mo_field_50 rfl (lv_at hl 0 rfl) ?_
        refine lv_bipush (v := 67) cx.x cx.b d_Mo_field_51 (by decide) ?_
        refine lv_icmp_eq (tgt := 92) cx.x cx.b d_Mo_field_53 (by decide) (fun d1 => ?_) (fun d1 => ?_)
        · have d1 : (L.getD S 0) = 67 := (nI_eq (a := (L.getD S 0)) (b := 67) (by omega) (by omega)).mp d1
          rw [if_pos (show isBs (L.getD S 0) = true from decide_eq_true (by omega))] at hQ
          refine lv_iload_n cx.x cx.b d_Mo_field_92 rfl (lv_at hl 1 rfl) ?_
          refine lv_iconst (v := 1) cx.x cx.b d_Mo_field_93 (by decide) ?_
          refine lv_iadd cx.x cx.b d_Mo_field_94 ?_
          refine lv_topi (fun x43 e_x43 => ?_)
          have e_x43 : x43 = nI (S + 1) := e_x43.trans (nI_add S 1)
          subst e_x43
          rw [← hQ]
          exact hx_reti cx.x cx.b cx.r cx.k rfl hlo (fun _ h => h) (Nat.le_of_ble_eq_true rfl) (Nat.le_of_ble_eq_true rfl) d_Mo_field_95 (⟨rfl, rfl⟩)
        · have d1 : (L.getD S 0) ≠ 67 := fun zz => d1 ((nI_eq (a := (L.getD S 0)) (b := 67) (by omega) (by omega)).mpr zz)
          refine lv_iload_n cx.x cx.b d_Mo_field_56 rfl (lv_at hl 0 rfl) ?_
          refine lv_bipush (v := 68) cx.x cx.b d_Mo_field_57 (by decide) ?_
          refine lv_icmp_eq (tgt := 92) cx.x cx.b d_Mo_field_59 (by decide) (fun d2 => ?_) (fun d2 => ?_)
          · have d2 : (L.getD S 0) = 68 := (nI_eq (a := (L.getD S 0)) (b := 68) (by omega) (by omega)).mp d2
            rw [if_pos (show isBs (L.getD S 0) = true from decide_eq_true (by omega))] at hQ
            refine lv_iload_n cx.x cx.b d_Mo_field_92 rfl (lv_at hl 1 rfl) ?_
            refine lv_iconst (v := 1) cx.x cx.b d_Mo_field_93 (by decide) ?_
            refine lv_iadd cx.x cx.b d_Mo_field_94 ?_
            refine lv_topi (fun x44 e_x44 => ?_)
            have e_x44 : x44 = nI (S + 1) := e_x44.trans (nI_add S 1)
            subst e_x44
            rw [← hQ]
            exact hx_reti cx.x cx.b cx.r cx.k rfl hlo (fun _ h => h) (Nat.le_of_ble_eq_true rfl) (Nat.le_of_ble_eq_true rfl) d_Mo_field_95 (⟨rfl, rfl⟩)
          · have d2 : (L.getD S 0) ≠ 68 := fun zz => d2 ((nI_eq (a := (L.getD S 0)) (b := 68) (by omega) (by omega)).mpr zz)
            refine lv_iload_n cx.x cx.b d_Mo_field_62 rfl (lv_at hl 0 rfl) ?_
            refine lv_bipush (v := 70) cx.x cx.b d_Mo_field_63 (by decide) ?_
            refine lv_icmp_eq (tgt := 92) cx.x cx.b d_Mo_field_65 (by decide) (fun d3 => ?_) (fun d3 => ?_)
            · have d3 : (L.getD S 0) = 70 := (nI_eq (a := (L.getD S 0)) (b := 70) (by omega) (by omega)).mp d3
              rw [if_pos (show isBs (L.getD S 0) = true from decide_eq_true (by omega))] at hQ
              refine lv_iload_n cx.x cx.b d_Mo_field_92 rfl (lv_at hl 1 rfl) ?_
              refine lv_iconst (v := 1) cx.x cx.b d_Mo_field_93 (by decide) ?_
              refine lv_iadd cx.x cx.b d_Mo_field_94 ?_
              refine lv_topi (fun x45 e_x45 => ?_)
              have e_x45 : x45 = nI (S + 1) := e_x45.trans (nI_add S 1)
              subst e_x45
              rw [← hQ]
              exact hx_reti cx.x cx.b cx.r cx.k rfl hlo (fun _ h => h) (Nat.le_of_ble_eq_true rfl) (Nat.le_of_ble_eq_true rfl) d_Mo_field_95 (⟨rfl, rfl⟩)
            · have d3 : (L.getD S 0) ≠ 70 := fun zz => d3 ((nI_eq (a := (L.getD S 0)) (b := 70) (by omega) (by omega)).mpr zz)
              refine lv_iload_n cx.x cx.b d_Mo_field_68 rfl (lv_at hl 0 rfl) ?_
              refine lv_bipush (v := 73) cx.x cx.b d_Mo_field_69 (by decide) ?_
              refine lv_icmp_eq (tgt := 92) cx.x cx.b d_Mo_field_71 (by decide) (fun d4 => ?_) (fun d4 => ?_)
              · have d4 : (L.getD S 0) = 73 := (nI_eq (a := (L.getD S 0)) (b := 73) (by omega) (by omega)).mp d4
                rw [if_pos (show isBs (L.getD S 0) = true from decide_eq_true (by omega))] at hQ
                refine lv_iload_n cx.x cx.b d_Mo_field_92 rfl (lv_at hl 1 rfl) ?_
                refine lv_iconst (v := 1) cx.x cx.b d_Mo_field_93 (by decide) ?_
                refine lv_iadd cx.x cx.b d_Mo_field_94 ?_
                refine lv_topi (fun x46 e_x46 => ?_)
                have e_x46 : x46 = nI (S + 1) := e_x46.trans (nI_add S 1)
                subst e_x46
                rw [← hQ]
                exact hx_reti cx.x cx.b cx.r cx.k rfl hlo (fun _ h => h) (Nat.le_of_ble_eq_true rfl) (Nat.le_of_ble_eq_true rfl) d_Mo_field_95 (⟨rfl, rfl⟩)
              · have d4 : (L.getD S 0) ≠ 73 := fun zz => d4 ((nI_eq (a := (L.getD S 0)) (b := 73) (by omega) (by omega)).mpr zz)
                refine lv_iload_n cx.x cx.b d_Mo_field_74 rfl (lv_at hl 0 rfl) ?_
                refine lv_bipush (v := 74) cx.x cx.b d_Mo_field_75 (by decide) ?_
                refine lv_icmp_eq (tgt := 92) cx.x cx.b d_Mo_field_77 (by decide) (fun d5 => ?_) (fun d5 => ?_)
                · have d5 : (L.getD S 0) = 74 := (nI_eq (a := (L.getD S 0)) (b := 74) (by omega) (by omega)).mp d5
                  rw [if_pos (show isBs (L.getD S 0) = true from decide_eq_true (by omega))] at hQ
                  refine lv_iload_n cx.x cx.b d_Mo_field_92 rfl (lv_at hl 1 rfl) ?_
                  refine lv_iconst (v := 1) cx.x cx.b d_Mo_field_93 (by decide) ?_
                  refine lv_iadd cx.x cx.b d_Mo_field_94 ?_
                  refine lv_topi (fun x47 e_x47 => ?_)
                  have e_x47 : x47 = nI (S + 1) := e_x47.trans (nI_add S 1)
                  subst e_x47
                  rw [← hQ]
                  exact hx_reti cx.x cx.b cx.r cx.k rfl hlo (fun _ h => h) (Nat.le_of_ble_eq_true rfl) (Nat.le_of_ble_eq_true rfl) d_Mo_field_95 (⟨rfl, rfl⟩)
                · have d5 : (L.getD S 0) ≠ 74 := fun zz => d5 ((nI_eq (a := (L.getD S 0)) (b := 74) (by omega) (by omega)).mpr zz)
                  refine lv_iload_n cx.x cx.b d_Mo_field_80 rfl (lv_at hl 0 rfl) ?_
                  refine lv_bipush (v := 83) cx.x cx.b d_Mo_field_81 (by decide) ?_
                  refine lv_icmp_eq (tgt := 92) cx.x cx.b d_Mo_field_83 (by decide) (fun d6 => ?_) (fun d6 => ?_)
                  · have d6 : (L.getD S 0) = 83 := (nI_eq (a := (L.getD S 0)) (b := 83) (by omega) (by omega)).mp d6
                    rw [if_pos (show isBs (L.getD S 0) = true from decide_eq_true (by omega))] at hQ
                    refine lv_iload_n cx.x cx.b d_Mo_field_92 rfl (lv_at hl 1 rfl) ?_
                    refine lv_iconst (v := 1) cx.x cx.b d_Mo_field_93 (by decide) ?_
                    refine lv_iadd cx.x cx.b d_Mo_field_94 ?_
                    refine lv_topi (fun x48 e_x48 => ?_)
                    have e_x48 : x48 = nI (S + 1) := e_x48.trans (nI_add S 1)
                    subst e_x48
                    rw [← hQ]
                    exact hx_reti cx.x cx.b cx.r cx.k rfl hlo (fun _ h => h) (Nat.le_of_ble_eq_true rfl) (Nat.le_of_ble_eq_true rfl) d_Mo_field_95 (⟨rfl, rfl⟩)
                  · have d6 : (L.getD S 0) ≠ 83 := fun zz => d6 ((nI_eq (a := (L.getD S 0)) (b := 83) (by omega) (by omega)).mpr zz)
                    refine lv_iload_n cx.x cx.b d_Mo_field_86 rfl (lv_at hl 0 rfl) ?_
                    refine lv_bipush (v := 90) cx.x cx.b d_Mo_field_87 (by decide) ?_
                    refine lv_icmp_ne (tgt := 96) cx.x cx.b d_Mo_field_89 (by decide) (fun d7 => ?_) (fun d7 => ?_)
                    · have d7 : (L.getD S 0) ≠ 90 := fun zz => d7 ((nI_eq (a := (L.getD S 0)) (b := 90) (by omega) (by omega)).mpr zz)
                      refine lv_iload_n cx.x cx.b d_Mo_field_96 rfl (lv_at hl 0 rfl) ?_
                      refine lv_bipush (v := 76) cx.x cx.b d_Mo_field_97 (by decide) ?_
                      rw [if_neg (show ¬ isBs (L.getD S 0) = true from fun z => absurd (of_decide_eq_true z) (by omega))] at hQ
                      refine lv_icmp_eq (tgt := 104) cx.x cx.b d_Mo_field_99 (by decide) (fun e1 => ?_) (fun e1 => ?_)
                      · have e1 : (L.getD S 0) = 76 := (nI_eq (a := (L.getD S 0)) (b := 76) (by omega) (by omega)).mp e1
                        rw [if_neg (fun z => z e1)] at hQ
                        have a2 := fx_le (L.drop (S + 1)) (S + 1)
                        rw [List.length_drop] at a2
                        generalize hF9 : fx (L.drop (S + 1)) (S + 1) = F at hQ a2
                        have ED2 : ∀ (locs : List Loc) , hLo (eB E) locs → ∀ ls, lv_has ls 5 [(4, .int (nI F)), (2, .int (nI S)), (0, .ref a)] → W p l e (rmA 2 0 0) s m args below meth c H locs 0 0 Q (F0 m 136 ls []) := by
                          intro locs  hlo  ls hl
                          refine lv_iload cx.x cx.b d_Mo_field_136 (lv_at hl 0 rfl) ?_
                          refine lv_aload_n cx.x cx.b d_Mo_field_138 rfl (lv_at hl 2 rfl) ?_
                          refine gf_Mo_95_Mo cx M0.1.1 rfl d_Mo_field_139 ?_
                          rw [hps]
                          refine lv_icmp_ge (tgt := 166) cx.x cx.b d_Mo_field_142 (by decide) (fun c2 => ?_) (fun c2 => ?_)
                          · have c2 : L.length ≤ F := (nI_leI (a := L.length) (b := F) (by omega) (by omega)).mp c2
                            rw [if_neg (fun z => absurd z.1 (by omega))] at hQ
                            refine lv_iconst (v := (-1)) cx.x cx.b d_Mo_field_166 (by decide) ?_
                            rw [← hQ]
                            exact hx_reti cx.x cx.b cx.r cx.k rfl hlo (fun _ h => h) (Nat.le_of_ble_eq_true rfl) (Nat.le_of_ble_eq_true rfl) d_Mo_field_167 (⟨rfl, rfl⟩)
                          · have c2 : F < L.length := Nat.not_le.mp (fun zz => c2 ((nI_leI (a := L.length) (b := F) (by omega) (by omega)).mpr zz))
                            refine lv_aload_n cx.x cx.b d_Mo_field_145 rfl (lv_at hl 2 rfl) ?_
                            refine lv_iload_n cx.x cx.b d_Mo_field_146 rfl (lv_at hl 1 rfl) ?_
                            refine lv_iconst (v := 1) cx.x cx.b d_Mo_field_147 (by decide) ?_
                            refine lv_iadd cx.x cx.b d_Mo_field_148 ?_
                            refine lv_topi (fun x50 e_x50 => ?_)
                            have e_x50 : x50 = nI (S + 1) := e_x50.trans (nI_add S 1)
                            subst e_x50
                            refine lv_iload cx.x cx.b d_Mo_field_149 (lv_at hl 0 rfl) ?_
                            refine lv_bipush (v := 47) cx.x cx.b d_Mo_field_151 (by decide) ?_
                            refine hx_calli (iv_Mo_105_Mo cx (c_Mo_dotted l hE M hp hps hpl hpc (a1 := S + 1) (b1 := F) (sp := 47) (by omega) (by omega) (by decide)) M0.1.1 rfl hl.1 rfl (Nat.le_of_ble_eq_true rfl) d_Mo_field_153 ⟨Nat.le_of_ble_eq_true rfl, Nat.le_of_ble_eq_true rfl⟩ ⟨Nat.le_of_ble_eq_true rfl, Nat.le_of_ble_eq_true rfl⟩) hlo (fun _ h => h) (fun r53 H52 locs hp51 hlo => ?_)
                            obtain ⟨hp51, hH9⟩ := hp51
                            have hH9 := hH9.symm
                            subst hH9
                            subst hp51
                            cases hd9 : dtF 47 ((L.take F).drop (S + 1)) true
                            · rw [if_neg (fun z => by rw [hd9] at z; cases z.2)] at hQ
                              refine lv_if_eq (tgt := 166) cx.x cx.b d_Mo_field_156 (by decide) (fun _ => ?_) (fun c => absurd (by decide) c)
                              refine lv_iconst (v := (-1)) cx.x cx.b d_Mo_field_166 (by decide) ?_
                              rw [← hQ]
                              exact hx_reti cx.x cx.b cx.r cx.k rfl hlo (fun _ h => h) (Nat.le_of_ble_eq_true rfl) (Nat.le_of_ble_eq_true rfl) d_Mo_field_167 (⟨rfl, rfl⟩)
                            · rw [if_pos ⟨c2, hd9⟩] at hQ
                              refine lv_if_eq (tgt := 166) cx.x cx.b d_Mo_field_156 (by decide) (fun c => absurd c (by decide)) (fun _ => ?_)
                              refine lv_iload cx.x cx.b d_Mo_field_159 (lv_at hl 0 rfl) ?_
                              refine lv_iconst (v := 1) cx.x cx.b d_Mo_field_161 (by decide) ?_
                              refine lv_iadd cx.x cx.b d_Mo_field_162 ?_
                              refine lv_topi (fun x54 e_x54 => ?_)
                              have e_x54 : x54 = nI (F + 1) := e_x54.trans (nI_add F 1)
                              subst e_x54
                              refine lv_goto (tgt := 167) cx.x cx.b d_Mo_field_163 (by decide) ?_
                              rw [← hQ]
                              exact hx_reti cx.x cx.b cx.r cx.k rfl hlo (fun _ h => h) (Nat.le_of_ble_eq_true rfl) (Nat.le_of_ble_eq_true rfl) d_Mo_field_167 (⟨rfl, rfl⟩)
                        have LP2 : ∀ (k : Nat) (locs : List Loc) (q1 : Nat), hLo (eB E) locs → (L.length - q1 < k) → (q1 ≤ L.length) → (fx (L.drop q1) q1 = F) → ∀ ls, lv_has ls 5 [(4, .int (nI q1)), (2, .int (nI S)), (0, .ref a)] → W p l e (rmA 2 0 0) s m args below meth c H locs 0 0 Q (F0 m 109 ls []) := by
                          intro k
                          induction k with
                          | zero => intro locs q1 hlo hk hq hi; exact absurd hk (by omega)
                          | succ k ih =>
                            intro locs q1 hlo hk hq hi ls hl
                            refine lv_iload cx.x cx.b d_Mo_field_109 (lv_at hl 0 rfl) ?_
                            refine lv_aload_n cx.x cx.b d_Mo_field_111 rfl (lv_at hl 2 rfl) ?_
                            refine gf_Mo_95_Mo cx M0.1.1 rfl d_Mo_field_112 ?_
                            rw [hps]
                            refine lv_icmp_ge (tgt := 136) cx.x cx.b d_Mo_field_115 (by decide) (fun c2 => ?_) (fun c2 => ?_)
                            · have c2 : L.length ≤ q1 := (nI_leI (a := L.length) (b := q1) (by omega) (by omega)).mp c2
                              rw [drop_nil (by omega)] at hi
                              have hi : q1 = F := hi
                              subst hi
                              exact ED2 _ hlo _ (lv_sub hl [0, 1, 2] rfl)
                            · have c2 : q1 < L.length := Nat.not_le.mp (fun zz => c2 ((nI_leI (a := L.length) (b := q1) (by omega) (by omega)).mpr zz))
                              rw [fx_step c2] at hi
                              refine lv_aload_n cx.x cx.b d_Mo_field_118 rfl (lv_at hl 2 rfl) ?_
                              refine gf_Mo_43_Mo cx M0.1.1 rfl d_Mo_field_119 ?_
                              refine lv_iload cx.x cx.b d_Mo_field_122 (lv_at hl 0 rfl) ?_
                              refine hx_iald cx.x cx.b cx.K 0 (M0.1.2.1 11 (by decide)) rfl (show vp_in (nI q1) 20 from vp_in_nI (show q1 < 20 by omega) (by decide)) d_Mo_field_124 ?_
                              refine lv_topi (fun x55 e_x55 => ?_)
                              have hb9 : L.getD q1 0 < 128 := hpc _ (getD_mem (show q1 < L.length by omega))
                              have e_x55 : x55 = nI (L.getD q1 0) := e_x55.trans (congrArg nI ((congrArg (g.1 11) (nI_clamp (n := q1) (by omega))).trans (hp q1 (by omega))))
                              subst e_x55
                              refine lv_bipush (v := 59) cx.x cx.b d_Mo_field_125 (by decide) ?_
                              refine lv_icmp_eq (tgt := 136) cx.x cx.b d_Mo_field_127 (by decide) (fun c3 => ?_) (fun c3 => ?_)
                              · have c3 : (L.getD q1 0) = 59 := (nI_eq (a := (L.getD q1 0)) (b := 59) (by omega) (by omega)).mp c3
                                rw [if_pos c3] at hi
                                subst hi
                                exact ED2 _ hlo _ (lv_sub hl [0, 1, 2] rfl)
                              · have c3 : (L.getD q1 0) ≠ 59 := fun zz => c3 ((nI_eq (a := (L.getD q1 0)) (b := 59) (by omega) (by omega)).mpr zz)
                                rw [if_neg c3] at hi
                                obtain ⟨x56, e_x56⟩ : ∃ y : Int32, y = nI q1 + 1 := ⟨_, rfl⟩
                                refine lv_iinc (v := x56) (lv' := [(4, .int x56), (2, .int (nI S)), (0, .ref a)]) cx.x cx.b d_Mo_field_130 hl (k := 0) rfl (by rw [e_x56]; rfl) (by decide) rfl (fun ls hl => ?_)
                                have e_x56 : x56 = nI (q1 + 1) := e_x56.trans (nI_add q1 1)
                                subst e_x56
                                refine lv_goto (tgt := 109) cx.x cx.b d_Mo_field_133 (by decide) ?_
                                exact ih _ (q1 + 1) hlo (by omega) (by omega) hi _ (lv_sub hl [0, 1, 2] rfl)
                        refine lv_iload_n cx.x cx.b d_Mo_field_104 rfl (lv_at hl 1 rfl) ?_
                        refine lv_iconst (v := 1) cx.x cx.b d_Mo_field_105 (by decide) ?_
                        refine lv_iadd cx.x cx.b d_Mo_field_106 ?_
                        refine lv_topi (fun x57 e_x57 => ?_)
                        have e_x57 : x57 = nI (S + 1) := e_x57.trans (nI_add S 1)
                        subst e_x57
                        refine lv_istore (lv' := [(4, .int (nI (S + 1))), (3, .int (nI (L.getD S 0))), (2, .int (nI S)), (0, .ref a)]) cx.x cx.b d_Mo_field_107 hl (by decide) rfl (fun ls hl => ?_)
                        exact LP2 _ _ (S + 1) hlo (Nat.lt_succ_self _) (by omega) hF9 _ (lv_sub hl [0, 2, 3] rfl)
                      · have e1 : (L.getD S 0) ≠ 76 := fun zz => e1 ((nI_eq (a := (L.getD S 0)) (b := 76) (by omega) (by omega)).mpr zz)
                        rw [if_pos e1] at hQ
                        refine lv_iconst (v := (-1)) cx.x cx.b d_Mo_field_102 (by decide) ?_
                        rw [← hQ]
                        exact hx_reti cx.x cx.b cx.r cx.k rfl hlo (fun _ h => h) (Nat.le_of_ble_eq_true rfl) (Nat.le_of_ble_eq_true rfl) d_Mo_field_103 (⟨rfl, rfl⟩)
                    · have d7 : (L.getD S 0) = 90 := (nI_eq (a := (L.getD S 0)) (b := 90) (by omega) (by omega)).mp d7
                      rw [if_pos (show isBs (L.getD S 0) = true from decide_eq_true (by omega))] at hQ
                      refine lv_iload_n cx.x cx.b d_Mo_field_92 rfl (lv_at hl 1 rfl) ?_
                      refine lv_iconst (v := 1) cx.x cx.b d_Mo_field_93 (by decide) ?_
                      refine lv_iadd cx.x cx.b d_Mo_field_94 ?_
                      refine lv_topi (fun x49 e_x49 => ?_)
                      have e_x49 : x49 = nI (S + 1) := e_x49.trans (nI_add S 1)
                      subst e_x49
                      rw [← hQ]
                      exact hx_reti cx.x cx.b cx.r cx.k rfl hlo (fun _ h => h) (Nat.le_of_ble_eq_true rfl) (Nat.le_of_ble_eq_true rfl) d_Mo_field_95 (⟨rfl, rfl⟩)
    · have c1 : L.length ≤ S := Nat.not_lt.mp (fun zz => c1 ((nI_ltI (a := S) (b := L.length) (by omega) (by omega)).mpr zz))
      rw [if_pos c1] at hQ
      refine lv_iconst (v := (-1)) cx.x cx.b d_Mo_field_35 (by decide) ?_
      rw [← hQ]
      exact hx_reti cx.x cx.b cx.r cx.k rfl hlo (fun _ h => h) (Nat.le_of_ble_eq_true rfl) (Nat.le_of_ble_eq_true rfl) d_Mo_field_36 (⟨rfl, rfl⟩)
  have LP : ∀ (k : Nat) (locs : List Loc) (q1 : Nat), hLo (eB E) locs → (L.length - q1 < k) → (q1 ≤ L.length) → (skB (L.drop q1) q1 = S) → ∀ ls, lv_has ls 5 [(2, .int (nI q1)), (0, .ref a)] → W p l e (rmA 2 0 0) s m args below meth c H locs 0 0 Q (F0 m 2 ls []) := by
    intro k
    induction k with
    | zero => intro locs q1 hlo hk hq hi; exact absurd hk (by omega)
    | succ k ih =>
      intro locs q1 hlo hk hq hi ls hl
      refine lv_iload_n cx.x cx.b d_Mo_field_2 rfl (lv_at hl 0 rfl) ?_
      refine lv_aload_n cx.x cx.b d_Mo_field_3 rfl (lv_at hl 1 rfl) ?_
      refine gf_Mo_95_Mo cx M0.1.1 rfl d_Mo_field_4 ?_
      rw [hps]
      refine lv_icmp_ge (tgt := 27) cx.x cx.b d_Mo_field_7 (by decide) (fun c2 => ?_) (fun c2 => ?_)
      · have c2 : L.length ≤ q1 := (nI_leI (a := L.length) (b := q1) (by omega) (by omega)).mp c2
        rw [drop_nil (by omega)] at hi
        have hi : q1 = S := hi
        subst hi
        exact ED _ hlo _ (lv_sub hl [0, 1] rfl)
      · have c2 : q1 < L.length := Nat.not_le.mp (fun zz => c2 ((nI_leI (a := L.length) (b := q1) (by omega) (by omega)).mpr zz))
        rw [skB_step c2] at hi
        refine lv_aload_n cx.x cx.b d_Mo_field_10 rfl (lv_at hl 1 rfl) ?_
        refine gf_Mo_43_Mo cx M0.1.1 rfl d_Mo_field_11 ?_
        refine lv_iload_n cx.x cx.b d_Mo_field_14 rfl (lv_at hl 0 rfl) ?_
        refine hx_iald cx.x cx.b cx.K 0 (M0.1.2.1 11 (by decide)) rfl (show vp_in (nI q1) 20 from vp_in_nI (show q1 < 20 by omega) (by decide)) d_Mo_field_15 ?_
        refine lv_topi (fun x58 e_x58 => ?_)
        have hb9 : L.getD q1 0 < 128 := hpc _ (getD_mem (show q1 < L.length by omega))
        have e_x58 : x58 = nI (L.getD q1 0) := e_x58.trans (congrArg nI ((congrArg (g.1 11) (nI_clamp (n := q1) (by omega))).trans (hp q1 (by omega))))
        subst e_x58
        refine lv_bipush (v := 91) cx.x cx.b d_Mo_field_16 (by decide) ?_
        refine lv_icmp_ne (tgt := 27) cx.x cx.b d_Mo_field_18 (by decide) (fun c3 => ?_) (fun c3 => ?_)
        · have c3 : (L.getD q1 0) ≠ 91 := fun zz => c3 ((nI_eq (a := (L.getD q1 0)) (b := 91) (by omega) (by omega)).mpr zz)
          rw [if_neg c3] at hi
          subst hi
          exact ED _ hlo _ (lv_sub hl [0, 1] rfl)
        · have c3 : (L.getD q1 0) = 91 := (nI_eq (a := (L.getD q1 0)) (b := 91) (by omega) (by omega)).mp c3
          rw [if_pos c3] at hi
          obtain ⟨x59, e_x59⟩ : ∃ y : Int32, y = nI q1 + 1 := ⟨_, rfl⟩
          refine lv_iinc (v := x59) (lv' := [(2, .int x59), (0, .ref a)]) cx.x cx.b d_Mo_field_21 hl (k := 0) rfl (by rw [e_x59]; rfl) (by decide) rfl (fun ls hl => ?_)
          have e_x59 : x59 = nI (q1 + 1) := e_x59.trans (nI_add q1 1)
          subst e_x59
          refine lv_goto (tgt := 2) cx.x cx.b d_Mo_field_24 (by decide) ?_
          exact ih _ (q1 + 1) hlo (by omega) (by omega) hi _ (lv_sub hl [0, 1] rfl)
  refine lv_iload_n cx.x cx.b d_Mo_field_0 rfl (lv_at hl 1 rfl) ?_
  refine lv_istore_n (lv' := [(2, .int (nI k1)), (0, .ref a), (1, .int (nI k1))]) cx.x cx.b d_Mo_field_1 rfl hl (by decide) rfl (fun ls hl => ?_)
  exact LP _ _ k1 hlo (Nat.lt_succ_self _) h1 hS9 _ (lv_sub hl [0, 1] rfl)

set_option maxHeartbeats 4000000 in
set_option maxRecDepth 100000 in
theorem c_Mo_method (l : Launch) {E : hE} (hE : EnvOk E) {H : Heap} {a : Nat} {ad : Nat → Nat} {g : MS} (M : Mo E H a ad g) {L : List Nat} (hp : ∀ i, i < L.length → g.1 11 i = L.getD i 0) (hps : g.2 8 = L.length) (hpl : L.length ≤ 20) (hpc : ∀ x ∈ L, x < 128) : Ct l E y_Mo_method b_Mo_method 2 (some .boolean) (rmA 3 0 0) [.ref a] H (hQi (fun r H1 => r = bI (isMD L) ∧ H1 = H)) := by
  refine hx_enter hE (by decide) (Nat.le_of_ble_eq_true rfl) ?_
  intro p e s m args below meth c ls cx hnm hl
  have hl : lv_has ls 2 [(0, .ref a)] := hl
  have hlo : hLo (eB E) [] := hLo.nil
  generalize hQ : MQ below _ args s _ _ _ = Q
  have M0 : Mw E H H a ad g := ⟨M, hCh.rf, rfl⟩
  unfold isMD at hQ
  refine lv_aload_n cx.x cx.b d_Mo_method_0 rfl (lv_at hl 0 rfl) ?_
  refine gf_Mo_95_Mo cx M0.1.1 rfl d_Mo_method_1 ?_
  rw [hps]
  refine lv_if_eq (tgt := 18) cx.x cx.b d_Mo_method_4 (by decide) (fun c1 => ?_) (fun c1 => ?_)
  · have c1 : L.length = 0 := (nI_eq (a := L.length) (b := 0) (by omega) (by omega)).mp c1
    rw [decide_eq_false (fun z => by omega), Bool.false_and] at hQ
    refine lv_iconst (v := 0) cx.x cx.b d_Mo_method_18 (by decide) ?_
    rw [← hQ]
    exact hx_reti cx.x cx.b cx.r cx.k rfl hlo (fun _ h => h) (Nat.le_of_ble_eq_true rfl) (Nat.le_of_ble_eq_true rfl) d_Mo_method_19 (⟨rfl, rfl⟩)
  · have c1 : L.length ≠ 0 := fun zz => c1 ((nI_eq (a := L.length) (b := 0) (by omega) (by omega)).mpr zz)
    refine lv_aload_n cx.x cx.b d_Mo_method_7 rfl (lv_at hl 0 rfl) ?_
    refine gf_Mo_43_Mo cx M0.1.1 rfl d_Mo_method_8 ?_
    refine lv_iconst (v := 0) cx.x cx.b d_Mo_method_11 (by decide) ?_
    refine hx_iald cx.x cx.b cx.K 0 (M0.1.2.1 11 (by decide)) rfl (show vp_in (nI 0) 20 from vp_in_nI (show 0 < 20 by omega) (by decide)) d_Mo_method_12 ?_
    refine lv_topi (fun x60 e_x60 => ?_)
    have hb9 : L.getD 0 0 < 128 := hpc _ (getD_mem (show 0 < L.length by omega))
    have e_x60 : x60 = nI (L.getD 0 0) := e_x60.trans (congrArg nI ((congrArg (g.1 11) (nI_clamp (n := 0) (by omega))).trans (hp 0 (by omega))))
    subst e_x60
    refine lv_bipush (v := 40) cx.x cx.b d_Mo_method_13 (by decide) ?_
    refine lv_icmp_eq (tgt := 20) cx.x cx.b d_Mo_method_15 (by decide) (fun c2 => ?_) (fun c2 => ?_)
    · have c2 : (L.getD 0 0) = 40 := (nI_eq (a := (L.getD 0 0)) (b := 40) (by omega) (by omega)).mp c2
      rw [decide_eq_true ⟨by omega, c2⟩, Bool.true_and] at hQ
      generalize hR9 : mdL L 20 (some 1) = R9 at hQ
      have LP : ∀ (k : Nat) (locs : List Loc) (o9 : Option Nat), hLo (eB E) locs → (0 < k) → (∀ q, o9 = some q → q ≤ L.length ∧ L.length - q < k) → (mdL L k o9 = R9) → ∀ ls, lv_has ls 2 [(1, .int (oI o9)), (0, .ref a)] → W p l e (rmA 3 0 0) s m args below meth c H locs 0 0 Q (F0 m 22 ls []) := by
        intro k
        induction k with
        | zero => intro locs o9 hlo hk hq hi; exact absurd hk (by omega)
        | succ k ih =>
          intro locs o9 hlo hk hq hi ls hl
          rcases o9 with _ | q1
          · rw [mdL_none] at hi
            subst hi
            have hl : lv_has ls 2 [(1, .int (-1)), (0, .ref a)] := hl
            refine lv_iload_n cx.x cx.b d_Mo_method_22 rfl (lv_at hl 0 rfl) ?_
            refine lv_if_lt (tgt := 54) cx.x cx.b d_Mo_method_23 (by decide) (fun _ => ?_) (fun c => absurd (by decide) c)
            refine lv_iload_n cx.x cx.b d_Mo_method_54 rfl (lv_at hl 0 rfl) ?_
            refine lv_if_lt (tgt := 68) cx.x cx.b d_Mo_method_55 (by decide) (fun _ => ?_) (fun c => absurd (by decide) c)
            refine lv_iconst (v := 0) cx.x cx.b d_Mo_method_68 (by decide) ?_
            rw [← hQ]
            exact hx_reti cx.x cx.b cx.r cx.k rfl hlo (fun _ h => h) (Nat.le_of_ble_eq_true rfl) (Nat.le_of_ble_eq_true rfl) d_Mo_method_69 (⟨rfl, rfl⟩)
          · have hl : lv_has ls 2 [(1, .int (nI q1)), (0, .ref a)] := hl
            obtain ⟨hq1, hq2⟩ := hq q1 rfl
            unfold mdL at hi
            refine lv_iload_n cx.x cx.b d_Mo_method_22 rfl (lv_at hl 0 rfl) ?_
            refine lv_if_lt (tgt := 54) cx.x cx.b d_Mo_method_23 (by decide) (fun c => absurd c (nI_pos (by omega))) (fun _ => ?_)
            refine lv_iload_n cx.x cx.b d_Mo_method_26 rfl (lv_at hl 0 rfl) ?_
            refine lv_aload_n cx.x cx.b d_Mo_method_27 rfl (lv_at hl 1 rfl) ?_
            refine gf_Mo_95_Mo cx M0.1.1 rfl d_Mo_method_28 ?_
            rw [hps]
            refine lv_icmp_ge (tgt := 54) cx.x cx.b d_Mo_method_31 (by decide) (fun c3 => ?_) (fun c3 => ?_)
            · have c3 : L.length ≤ q1 := (nI_leI (a := L.length) (b := q1) (by omega) (by omega)).mp c3
              rw [if_neg (fun z => by omega), fieldE_end c3, mdL_none] at hi
              subst hi
              refine lv_iload_n cx.x cx.b d_Mo_method_54 rfl (lv_at hl 0 rfl) ?_
              refine lv_if_lt (tgt := 68) cx.x cx.b d_Mo_method_55 (by decide) (fun c => absurd c (nI_pos (by omega))) (fun _ => ?_)
              refine lv_iload_n cx.x cx.b d_Mo_method_58 rfl (lv_at hl 0 rfl) ?_
              refine lv_iconst (v := 1) cx.x cx.b d_Mo_method_59 (by decide) ?_
              refine lv_iadd cx.x cx.b d_Mo_method_60 ?_
              refine lv_topi (fun x61 e_x61 => ?_)
              have e_x61 : x61 = nI (q1 + 1) := e_x61.trans (nI_add q1 1)
              subst e_x61
              refine lv_aload_n cx.x cx.b d_Mo_method_61 rfl (lv_at hl 1 rfl) ?_
              refine gf_Mo_95_Mo cx M0.1.1 rfl d_Mo_method_62 ?_
              rw [hps]
              refine lv_icmp_lt (tgt := 70) cx.x cx.b d_Mo_method_65 (by decide) (fun c4 => ?_) (fun c4 => ?_)
              · have c4 : (q1 + 1) < L.length := (nI_ltI (a := (q1 + 1)) (b := L.length) (by omega) (by omega)).mp c4
                exact absurd c4 (by omega)
              · have c4 : L.length ≤ (q1 + 1) := Nat.not_lt.mp (fun zz => c4 ((nI_ltI (a := (q1 + 1)) (b := L.length) (by omega) (by omega)).mpr zz))
                refine lv_iconst (v := 0) cx.x cx.b d_Mo_method_68 (by decide) ?_
                rw [← hQ]
                exact hx_reti cx.x cx.b cx.r cx.k rfl hlo (fun _ h => h) (Nat.le_of_ble_eq_true rfl) (Nat.le_of_ble_eq_true rfl) d_Mo_method_69 (⟨rfl, rfl⟩)
            · have c3 : q1 < L.length := Nat.not_le.mp (fun zz => c3 ((nI_leI (a := L.length) (b := q1) (by omega) (by omega)).mpr zz))
              refine lv_aload_n cx.x cx.b d_Mo_method_34 rfl (lv_at hl 1 rfl) ?_
              refine gf_Mo_43_Mo cx M0.1.1 rfl d_Mo_method_35 ?_
              refine lv_iload_n cx.x cx.b d_Mo_method_38 rfl (lv_at hl 0 rfl) ?_
              refine hx_iald cx.x cx.b cx.K 0 (M0.1.2.1 11 (by decide)) rfl (show vp_in (nI q1) 20 from vp_in_nI (show q1 < 20 by omega) (by decide)) d_Mo_method_39 ?_
              refine lv_topi (fun x62 e_x62 => ?_)
              have hb9 : L.getD q1 0 < 128 := hpc _ (getD_mem (show q1 < L.length by omega))
              have e_x62 : x62 = nI (L.getD q1 0) := e_x62.trans (congrArg nI ((congrArg (g.1 11) (nI_clamp (n := q1) (by omega))).trans (hp q1 (by omega))))
              subst e_x62
              refine lv_bipush (v := 41) cx.x cx.b d_Mo_method_40 (by decide) ?_
              refine lv_icmp_eq (tgt := 54) cx.x cx.b d_Mo_method_42 (by decide) (fun c5 => ?_) (fun c5 => ?_)
              · have c5 : (L.getD q1 0) = 41 := (nI_eq (a := (L.getD q1 0)) (b := 41) (by omega) (by omega)).mp c5
                rw [if_pos ⟨c3, c5⟩] at hi
                subst hi
                rw [mdR_eq c3 c5] at hQ
                refine lv_iload_n cx.x cx.b d_Mo_method_54 rfl (lv_at hl 0 rfl) ?_
                refine lv_if_lt (tgt := 68) cx.x cx.b d_Mo_method_55 (by decide) (fun c => absurd c (nI_pos (by omega))) (fun _ => ?_)
                refine lv_iload_n cx.x cx.b d_Mo_method_58 rfl (lv_at hl 0 rfl) ?_
                refine lv_iconst (v := 1) cx.x cx.b d_Mo_method_59 (by decide) ?_
                refine lv_iadd cx.x cx.b d_Mo_method_60 ?_
                refine lv_topi (fun x63 e_x63 => ?_)
                have e_x63 : x63 = nI (q1 + 1) := e_x63.trans (nI_add q1 1)
                subst e_x63
                refine lv_aload_n cx.x cx.b d_Mo_method_61 rfl (lv_at hl 1 rfl) ?_
                refine gf_Mo_95_Mo cx M0.1.1 rfl d_Mo_method_62 ?_
                rw [hps]
                refine lv_icmp_lt (tgt := 70) cx.x cx.b d_Mo_method_65 (by decide) (fun c6 => ?_) (fun c6 => ?_)
                · have c6 : (q1 + 1) < L.length := (nI_ltI (a := (q1 + 1)) (b := L.length) (by omega) (by omega)).mp c6
                  rw [decide_eq_true c6, Bool.true_and] at hQ
                  refine lv_aload_n cx.x cx.b d_Mo_method_70 rfl (lv_at hl 1 rfl) ?_
                  refine gf_Mo_43_Mo cx M0.1.1 rfl d_Mo_method_71 ?_
                  refine lv_iload_n cx.x cx.b d_Mo_method_74 rfl (lv_at hl 0 rfl) ?_
                  refine lv_iconst (v := 1) cx.x cx.b d_Mo_method_75 (by decide) ?_
                  refine lv_iadd cx.x cx.b d_Mo_method_76 ?_
                  refine lv_topi (fun x64 e_x64 => ?_)
                  have e_x64 : x64 = nI (q1 + 1) := e_x64.trans (nI_add q1 1)
                  subst e_x64
                  refine hx_iald cx.x cx.b cx.K 0 (M0.1.2.1 11 (by decide)) rfl (show vp_in (nI (q1 + 1)) 20 from vp_in_nI (show (q1 + 1) < 20 by omega) (by decide)) d_Mo_method_77 ?_
                  refine lv_topi (fun x65 e_x65 => ?_)
                  have hb9 : L.getD (q1 + 1) 0 < 128 := hpc _ (getD_mem (show (q1 + 1) < L.length by omega))
                  have e_x65 : x65 = nI (L.getD (q1 + 1) 0) := e_x65.trans (congrArg nI ((congrArg (g.1 11) (nI_clamp (n := (q1 + 1)) (by omega))).trans (hp (q1 + 1) (by omega))))
                  subst e_x65
                  refine lv_bipush (v := 86) cx.x cx.b d_Mo_method_78 (by decide) ?_
                  refine lv_icmp_ne (tgt := 93) cx.x cx.b d_Mo_method_80 (by decide) (fun c7 => ?_) (fun c7 => ?_)
                  · have c7 : (L.getD (q1 + 1) 0) ≠ 86 := fun zz => c7 ((nI_eq (a := (L.getD (q1 + 1) 0)) (b := 86) (by omega) (by omega)).mpr zz)
                    refine lv_aload_n cx.x cx.b d_Mo_method_93 rfl (lv_at hl 1 rfl) ?_
                    refine lv_iload_n cx.x cx.b d_Mo_method_94 rfl (lv_at hl 0 rfl) ?_
                    refine lv_iconst (v := 1) cx.x cx.b d_Mo_method_95 (by decide) ?_
                    refine lv_iadd cx.x cx.b d_Mo_method_96 ?_
                    refine lv_topi (fun x66 e_x66 => ?_)
                    have e_x66 : x66 = nI (q1 + 1) := e_x66.trans (nI_add q1 1)
                    subst e_x66
                    refine hx_calli (iv_Mo_109_Mo cx (c_Mo_field l hE M hp hps hpl hpc (k1 := q1 + 1) (by omega)) M0.1.1 rfl hl.1 rfl (Nat.le_of_ble_eq_true rfl) d_Mo_method_97 ⟨Nat.le_of_ble_eq_true rfl, Nat.le_of_ble_eq_true rfl⟩ ⟨Nat.le_of_ble_eq_true rfl, Nat.le_of_ble_eq_true rfl⟩) hlo (fun _ h => h) (fun r69 H68 locs hp67 hlo => ?_)
                    obtain ⟨hp67, hH9⟩ := hp67
                    have hH9 := hH9.symm
                    subst hH9
                    subst hp67
                    refine lv_aload_n cx.x cx.b d_Mo_method_100 rfl (lv_at hl 1 rfl) ?_
                    refine gf_Mo_95_Mo cx M0.1.1 rfl d_Mo_method_101 ?_
                    rw [hps]
                    refine lv_icmp_ne (tgt := 111) cx.x cx.b d_Mo_method_104 (by decide) (fun c8 => ?_) (fun c8 => ?_)
                    · have c8 : ¬ fieldE L (q1 + 1) = some L.length := fun z => c8 ((oI_eq (fun q hq => by have := fieldE_le (by omega) hq; omega) (by omega)).mpr z)
                      rw [decide_eq_false c8, decide_eq_false (show ¬ (L.getD (q1 + 1) 0 = 86 ∧ q1 + 2 = L.length) from fun z => c7 z.1)] at hQ
                      refine lv_iconst (v := 0) cx.x cx.b d_Mo_method_111 (by decide) ?_
                      rw [← hQ]
                      exact hx_reti cx.x cx.b cx.r cx.k rfl hlo (fun _ h => h) (Nat.le_of_ble_eq_true rfl) (Nat.le_of_ble_eq_true rfl) d_Mo_method_112 (⟨rfl, rfl⟩)
                    · have c8 : fieldE L (q1 + 1) = some L.length := (oI_eq (fun q hq => by have := fieldE_le (by omega) hq; omega) (by omega)).mp c8
                      rw [decide_eq_true c8, Bool.or_true] at hQ
                      refine lv_iconst (v := 1) cx.x cx.b d_Mo_method_107 (by decide) ?_
                      refine lv_goto (tgt := 112) cx.x cx.b d_Mo_method_108 (by decide) ?_
                      rw [← hQ]
                      exact hx_reti cx.x cx.b cx.r cx.k rfl hlo (fun _ h => h) (Nat.le_of_ble_eq_true rfl) (Nat.le_of_ble_eq_true rfl) d_Mo_method_112 (⟨rfl, rfl⟩)
                  · have c7 : (L.getD (q1 + 1) 0) = 86 := (nI_eq (a := (L.getD (q1 + 1) 0)) (b := 86) (by omega) (by omega)).mp c7
                    refine lv_iload_n cx.x cx.b d_Mo_method_83 rfl (lv_at hl 0 rfl) ?_
                    refine lv_iconst (v := 2) cx.x cx.b d_Mo_method_84 (by decide) ?_
                    refine lv_iadd cx.x cx.b d_Mo_method_85 ?_
                    refine lv_topi (fun x70 e_x70 => ?_)
                    have e_x70 : x70 = nI (q1 + 2) := e_x70.trans (nI_add q1 2)
                    subst e_x70
                    refine lv_aload_n cx.x cx.b d_Mo_method_86 rfl (lv_at hl 1 rfl) ?_
                    refine gf_Mo_95_Mo cx M0.1.1 rfl d_Mo_method_87 ?_
                    rw [hps]
                    refine lv_icmp_eq (tgt := 107) cx.x cx.b d_Mo_method_90 (by decide) (fun c10 => ?_) (fun c10 => ?_)
                    · have c10 : (q1 + 2) = L.length := (nI_eq (a := (q1 + 2)) (b := L.length) (by omega) (by omega)).mp c10
                      rw [decide_eq_true (show L.getD (q1 + 1) 0 = 86 ∧ q1 + 2 = L.length from ⟨c7, c10⟩), Bool.true_or] at hQ
                      refine lv_iconst (v := 1) cx.x cx.b d_Mo_method_107 (by decide) ?_
                      refine lv_goto (tgt := 112) cx.x cx.b d_Mo_method_108 (by decide) ?_
                      rw [← hQ]
                      exact hx_reti cx.x cx.b cx.r cx.k rfl hlo (fun _ h => h) (Nat.le_of_ble_eq_true rfl) (Nat.le_of_ble_eq_true rfl) d_Mo_method_112 (⟨rfl, rfl⟩)
                    · have c10 : (q1 + 2) ≠ L.length := fun zz => c10 ((nI_eq (a := (q1 + 2)) (b := L.length) (by omega) (by omega)).mpr zz)
                      refine lv_aload_n cx.x cx.b d_Mo_method_93 rfl (lv_at hl 1 rfl) ?_
                      refine lv_iload_n cx.x cx.b d_Mo_method_94 rfl (lv_at hl 0 rfl) ?_
                      refine lv_iconst (v := 1) cx.x cx.b d_Mo_method_95 (by decide) ?_
                      refine lv_iadd cx.x cx.b d_Mo_method_96 ?_
                      refine lv_topi (fun x71 e_x71 => ?_)
                      have e_x71 : x71 = nI (q1 + 1) := e_x71.trans (nI_add q1 1)
                      subst e_x71
                      refine hx_calli (iv_Mo_109_Mo cx (c_Mo_field l hE M hp hps hpl hpc (k1 := q1 + 1) (by omega)) M0.1.1 rfl hl.1 rfl (Nat.le_of_ble_eq_true rfl) d_Mo_method_97 ⟨Nat.le_of_ble_eq_true rfl, Nat.le_of_ble_eq_true rfl⟩ ⟨Nat.le_of_ble_eq_true rfl, Nat.le_of_ble_eq_true rfl⟩) hlo (fun _ h => h) (fun r74 H73 locs hp72 hlo => ?_)
                      obtain ⟨hp72, hH9⟩ := hp72
                      have hH9 := hH9.symm
                      subst hH9
                      subst hp72
                      refine lv_aload_n cx.x cx.b d_Mo_method_100 rfl (lv_at hl 1 rfl) ?_
                      refine gf_Mo_95_Mo cx M0.1.1 rfl d_Mo_method_101 ?_
                      rw [hps]
                      refine lv_icmp_ne (tgt := 111) cx.x cx.b d_Mo_method_104 (by decide) (fun c8 => ?_) (fun c8 => ?_)
                      · have c8 : ¬ fieldE L (q1 + 1) = some L.length := fun z => c8 ((oI_eq (fun q hq => by have := fieldE_le (by omega) hq; omega) (by omega)).mpr z)
                        rw [decide_eq_false c8, decide_eq_false (show ¬ (L.getD (q1 + 1) 0 = 86 ∧ q1 + 2 = L.length) from fun z => c10 z.2)] at hQ
                        refine lv_iconst (v := 0) cx.x cx.b d_Mo_method_111 (by decide) ?_
                        rw [← hQ]
                        exact hx_reti cx.x cx.b cx.r cx.k rfl hlo (fun _ h => h) (Nat.le_of_ble_eq_true rfl) (Nat.le_of_ble_eq_true rfl) d_Mo_method_112 (⟨rfl, rfl⟩)
                      · have c8 : fieldE L (q1 + 1) = some L.length := (oI_eq (fun q hq => by have := fieldE_le (by omega) hq; omega) (by omega)).mp c8
                        rw [decide_eq_true c8, Bool.or_true] at hQ
                        refine lv_iconst (v := 1) cx.x cx.b d_Mo_method_107 (by decide) ?_
                        refine lv_goto (tgt := 112) cx.x cx.b d_Mo_method_108 (by decide) ?_
                        rw [← hQ]
                        exact hx_reti cx.x cx.b cx.r cx.k rfl hlo (fun _ h => h) (Nat.le_of_ble_eq_true rfl) (Nat.le_of_ble_eq_true rfl) d_Mo_method_112 (⟨rfl, rfl⟩)
                · have c6 : L.length ≤ (q1 + 1) := Nat.not_lt.mp (fun zz => c6 ((nI_ltI (a := (q1 + 1)) (b := L.length) (by omega) (by omega)).mpr zz))
                  rw [decide_eq_false (show ¬ q1 + 1 < L.length by omega), Bool.false_and] at hQ
                  refine lv_iconst (v := 0) cx.x cx.b d_Mo_method_68 (by decide) ?_
                  rw [← hQ]
                  exact hx_reti cx.x cx.b cx.r cx.k rfl hlo (fun _ h => h) (Nat.le_of_ble_eq_true rfl) (Nat.le_of_ble_eq_true rfl) d_Mo_method_69 (⟨rfl, rfl⟩)
              · have c5 : (L.getD q1 0) ≠ 41 := fun zz => c5 ((nI_eq (a := (L.getD q1 0)) (b := 41) (by omega) (by omega)).mpr zz)
                rw [if_neg (fun z => c5 z.2)] at hi
                refine lv_aload_n cx.x cx.b d_Mo_method_45 rfl (lv_at hl 1 rfl) ?_
                refine lv_iload_n cx.x cx.b d_Mo_method_46 rfl (lv_at hl 0 rfl) ?_
                refine hx_calli (iv_Mo_109_Mo cx (c_Mo_field l hE M hp hps hpl hpc (k1 := q1) (by omega)) M0.1.1 rfl hl.1 rfl (Nat.le_of_ble_eq_true rfl) d_Mo_method_47 ⟨Nat.le_of_ble_eq_true rfl, Nat.le_of_ble_eq_true rfl⟩ ⟨Nat.le_of_ble_eq_true rfl, Nat.le_of_ble_eq_true rfl⟩) hlo (fun _ h => h) (fun r77 H76 locs hp75 hlo => ?_)
                obtain ⟨hp75, hH9⟩ := hp75
                have hH9 := hH9.symm
                subst hH9
                subst hp75
                refine lv_istore_n (lv' := [(1, .int (oI (fieldE L q1))), (0, .ref a)]) cx.x cx.b d_Mo_method_50 rfl hl (by decide) rfl (fun ls hl => ?_)
                refine lv_goto (tgt := 22) cx.x cx.b d_Mo_method_51 (by decide) ?_
                exact ih _ (fieldE L q1) hlo (by omega) (fun z hz => by have := fieldE_le hq1 hz; omega) hi _ (lv_sub hl [0, 1] rfl)
      refine lv_iconst (v := 1) cx.x cx.b d_Mo_method_20 (by decide) ?_
      refine lv_istore_n (lv' := [(1, .int 1), (0, .ref a)]) cx.x cx.b d_Mo_method_21 rfl hl (by decide) rfl (fun ls hl => ?_)
      exact LP 20 _ (some 1) hlo (by omega) (fun q hq => by cases hq; omega) hR9 _ (lv_sub hl [0, 1] rfl)
    · have c2 : (L.getD 0 0) ≠ 40 := fun zz => c2 ((nI_eq (a := (L.getD 0 0)) (b := 40) (by omega) (by omega)).mpr zz)
      rw [decide_eq_false (fun z => c2 z.2), Bool.false_and] at hQ
      refine lv_iconst (v := 0) cx.x cx.b d_Mo_method_18 (by decide) ?_
      rw [← hQ]
      exact hx_reti cx.x cx.b cx.r cx.k rfl hlo (fun _ h => h) (Nat.le_of_ble_eq_true rfl) (Nat.le_of_ble_eq_true rfl) d_Mo_method_19 (⟨rfl, rfl⟩)
