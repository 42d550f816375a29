theorem nin36 {xs : List Nat} (h : ∀ i, i < xs.length → xs.getD i 0 ≠ 36) : 36 ∉ xs := fun z => by
  obtain ⟨i, hi, e⟩ := mem_getD z
  exact h i hi e
theorem in36 {xs : List Nat} {i : Nat} (h : i < xs.length) (e : xs.getD i 0 = 36) : 36 ∈ xs := by rw [← e]; exact getD_mem h
theorem alk2_t {sf : Bool} {x y : DV} (h1 : x.2.2.2 = y.2.2.2) (h2 : cmpD x y = 0) : alk2 sf x y = (sf || freeD x) := by
  unfold alk2 sameD
  rw [decide_eq_true ⟨h1, h2⟩, Bool.true_and]
theorem alk2_f {sf : Bool} {x y : DV} (h : ¬ (x.2.2.2 = y.2.2.2 ∧ cmpD x y = 0)) : alk2 sf x y = false := by
  unfold alk2 sameD
  rw [decide_eq_false h, Bool.false_and]
theorem lsM_step {sf : Bool} {ys xs : List DV} {m : Nat} (h : m < xs.length) : lsM sf ys (xs.drop m) = (if ys.any (alk2 sf (xs.getD m default)) then 0 else 1) + lsM sf ys (xs.drop (m + 1)) := by
  rw [List.drop_eq_getElem_cons h, List.getD_eq_getElem?_getD, List.getElem?_eq_getElem h]; rfl
theorem any_take {α : Type} {ys : List α} {j : Nat} {d : α} (p : α → Bool) (h : j < ys.length) : (ys.take (j + 1)).any p = ((ys.take j).any p || p (ys.getD j d)) := by
  rw [List.take_add_one, List.any_append, List.getElem?_eq_getElem h, List.getD_eq_getElem?_getD, List.getElem?_eq_getElem h]
  show _ = ((ys.take j).any p || p ys[j])
  simp
theorem sum_drop {α : Type} {f : α → Nat} {xs : List α} {i : Nat} {d : α} (h : i < xs.length) : ((xs.drop i).map f).sum = f (xs.getD i d) + ((xs.drop (i + 1)).map f).sum := by
  rw [List.drop_eq_getElem_cons h, List.getD_eq_getElem?_getD, List.getElem?_eq_getElem h]; rfl
theorem lsM_le (sf : Bool) (ys : List DV) : ∀ xs : List DV, lsM sf ys xs ≤ xs.length
  | [] => Nat.le_refl _
  | x :: xs => by
    have := lsM_le sf ys xs
    show (if _ then 0 else 1) + lsM sf ys xs ≤ xs.length + 1
    split <;> omega
theorem lsU_le (sf : Bool) (U2 : List TU) (u : TU) : lsU sf U2 u ≤ 1 + u.2.length := by
  unfold lsU
  cases lsI u.1.1 U2 U2.length with
  | none => exact Nat.le_refl _
  | some k =>
    have h := lsM_le sf (srtM (U2.getD k default).2) (srtM u.2)
    have hl := (srtM_perm u.2).length_eq
    show (if _ then 0 else 1) + _ ≤ _
    split <;> omega
theorem sumU_le {sf : Bool} {U2 : List TU} : ∀ {U : List TU}, (∀ u ∈ U, u.2.length ≤ 8) → (U.map (lsU sf U2)).sum ≤ 9 * U.length
  | [], _ => Nat.le_refl _
  | u :: U, h => by
    have h1 := sumU_le (sf := sf) (U2 := U2) (U := U) (fun z hz => h z (List.mem_cons_of_mem _ hz))
    have h2 := lsU_le sf U2 u
    have h3 := h u List.mem_cons_self
    rw [List.map_cons, List.sum_cons, List.length_cons]
    omega
theorem mbC_in {S : List DV} {m : Nat} (h : m < S.length) : mbC S (m : Int) = some (S.getD m default) := by
  unfold mbC
  rw [if_pos ⟨by omega, by omega⟩]; rfl
def sV (B : Nat) (o : Option Nat) : Int32 := match o with
  | none => -1
  | some k => nI (B + k)
set_option maxHeartbeats 4000000 in
set_option maxRecDepth 100000 in
theorem c_Mo_dollar (l : Launch) {E : hE} (hE : EnvOk E) {H : Heap} {a : Nat} {ad : Nat → Nat} {g : MS} (M : Mo E H a ad g) {r1 : Nat} {x : DV} (hr1 : r1 < 217) (hr : Row g.1 r1 x) : Ct l E y_Mo_dollar b_Mo_dollar 3 (some .boolean) (rmA 0 0 0) [.ref a, .int (nI r1)] H (hQi (fun r H1 => r = bI (!freeD x) ∧ H1 = H)) := by
  refine hx_enter hE (by decide) (Nat.le_of_ble_eq_true rfl) ?_
  intro p e s m args below meth c ls cx hnm hl
  have hl : lv_has ls 3 [(0, .ref a), (1, .int (nI r1))] := hl
  have hlo : hLo (eB E) [] := hLo.nil
  generalize hQ : MQ below _ args s _ _ _ = Q
  have M0 : Mw E H H a ad g := ⟨M, hCh.rf, rfl⟩
  obtain ⟨⟨n1, n2, n3, n4⟩, ⟨d1, d2, d3, d4⟩, hr⟩ := hr
  have LP : ∀ (k : Nat) (locs : List Loc) (j1 : Nat), hLo (eB E) locs → (x.1.length - j1 < k) → (j1 ≤ x.1.length) → (∀ i, i < j1 → x.1.getD i 0 ≠ 36) → ∀ ls, lv_has ls 3 [(2, .int (nI j1)), (0, .ref a), (1, .int (nI r1))] → W p l e (rmA 0 0 0) s m args below meth c H locs 0 0 Q (F0 m 2 ls []) := by
    intro k
    induction k with
    | zero => intro locs j1 hlo hk hj hno; exact absurd hk (by omega)
    | succ k ih =>
      intro locs j1 hlo hk hj hno ls hl
      refine lv_iload_n cx.x cx.b d_Mo_dollar_2 rfl (lv_at hl 0 rfl) ?_
      refine lv_aload_n cx.x cx.b d_Mo_dollar_3 rfl (lv_at hl 1 rfl) ?_
      refine gf_Mo_28_Mo cx M0.1.1 rfl d_Mo_dollar_4 ?_
      refine lv_iload_n cx.x cx.b d_Mo_dollar_7 rfl (lv_at hl 2 rfl) ?_
      refine hx_iald cx.x cx.b cx.K 0 (M0.1.2.1 6 (by decide)) rfl (show vp_in (nI r1) 217 from vp_in_nI (show r1 < 217 by omega) (by decide)) d_Mo_dollar_8 ?_
      refine lv_topi (fun x1 e_x1 => ?_)
      have e_x1 : x1 = nI x.1.length := e_x1.trans (congrArg nI ((congrArg (g.1 6) (nI_clamp (n := r1) (by omega))).trans (n1)))
      subst e_x1
      refine lv_icmp_ge (tgt := 36) cx.x cx.b d_Mo_dollar_9 (by decide) (fun c1 => ?_) (fun c1 => ?_)
      · have c1 : x.1.length ≤ j1 := (nI_leI (a := x.1.length) (b := j1) (by omega) (by omega)).mp c1
        have hn1 : 36 ∉ x.1 := nin36 (fun i hi => hno i (by omega))
        refine lv_iconst (v := 0) cx.x cx.b d_Mo_dollar_36 (by decide) ?_
        refine lv_istore_n (lv' := [(2, .int 0), (0, .ref a), (1, .int (nI r1))]) cx.x cx.b d_Mo_dollar_37 rfl hl (by decide) rfl (fun ls hl => ?_)
        have LQ : ∀ (k : Nat) (locs : List Loc) (j1 : Nat), hLo (eB E) locs → (x.2.1.length - j1 < k) → (j1 ≤ x.2.1.length) → (∀ i, i < j1 → x.2.1.getD i 0 ≠ 36) → ∀ ls, lv_has ls 3 [(2, .int (nI j1)), (0, .ref a), (1, .int (nI r1))] → W p l e (rmA 0 0 0) s m args below meth c H locs 0 0 Q (F0 m 38 ls []) := by
          intro k
          induction k with
          | zero => intro locs j1 hlo hk hj hno; exact absurd hk (by omega)
          | succ k ih =>
            intro locs j1 hlo hk hj hno ls hl
            refine lv_iload_n cx.x cx.b d_Mo_dollar_38 rfl (lv_at hl 0 rfl) ?_
            refine lv_aload_n cx.x cx.b d_Mo_dollar_39 rfl (lv_at hl 1 rfl) ?_
            refine gf_Mo_31_Mo cx M0.1.1 rfl d_Mo_dollar_40 ?_
            refine lv_iload_n cx.x cx.b d_Mo_dollar_43 rfl (lv_at hl 2 rfl) ?_
            refine hx_iald cx.x cx.b cx.K 0 (M0.1.2.1 7 (by decide)) rfl (show vp_in (nI r1) 217 from vp_in_nI (show r1 < 217 by omega) (by decide)) d_Mo_dollar_44 ?_
            refine lv_topi (fun x6 e_x6 => ?_)
            have e_x6 : x6 = nI x.2.1.length := e_x6.trans (congrArg nI ((congrArg (g.1 7) (nI_clamp (n := r1) (by omega))).trans (d1)))
            subst e_x6
            refine lv_icmp_ge (tgt := 72) cx.x cx.b d_Mo_dollar_45 (by decide) (fun c1 => ?_) (fun c1 => ?_)
            · have c1 : x.2.1.length ≤ j1 := (nI_leI (a := x.2.1.length) (b := j1) (by omega) (by omega)).mp c1
              rw [show freeD x = true from decide_eq_true ⟨hn1, nin36 (fun i hi => hno i (by omega))⟩] at hQ
              refine lv_iconst (v := 0) cx.x cx.b d_Mo_dollar_72 (by decide) ?_
              rw [← hQ]
              exact hx_reti cx.x cx.b cx.r cx.k rfl hlo (fun _ h => h) (Nat.le_of_ble_eq_true rfl) (Nat.le_of_ble_eq_true rfl) d_Mo_dollar_73 (⟨rfl, rfl⟩)
            · have c1 : j1 < x.2.1.length := Nat.not_le.mp (fun zz => c1 ((nI_leI (a := x.2.1.length) (b := j1) (by omega) (by omega)).mpr zz))
              refine lv_aload_n cx.x cx.b d_Mo_dollar_48 rfl (lv_at hl 1 rfl) ?_
              refine gf_Mo_25_Mo cx M0.1.1 rfl d_Mo_dollar_49 ?_
              refine lv_bipush (v := 20) cx.x cx.b d_Mo_dollar_52 (by decide) ?_
              refine lv_iload_n cx.x cx.b d_Mo_dollar_54 rfl (lv_at hl 2 rfl) ?_
              refine lv_imul cx.x cx.b d_Mo_dollar_55 ?_
              refine lv_topi (fun x7 e_x7 => ?_)
              have e_x7 : x7 = nI (20 * r1) := e_x7.trans (pk_mul 20 r1)
              subst e_x7
              refine lv_iload_n cx.x cx.b d_Mo_dollar_56 rfl (lv_at hl 0 rfl) ?_
              refine lv_iadd cx.x cx.b d_Mo_dollar_57 ?_
              refine lv_topi (fun x8 e_x8 => ?_)
              have e_x8 : x8 = nI ((20 * r1) + j1) := e_x8.trans (nI_add (20 * r1) j1)
              subst e_x8
              refine hx_iald cx.x cx.b cx.K 0 (M0.1.2.1 5 (by decide)) rfl (show vp_in (nI ((20 * r1) + j1)) 4340 from vp_in_nI (show ((20 * r1) + j1) < 4340 by omega) (by decide)) d_Mo_dollar_58 ?_
              refine lv_topi (fun x9 e_x9 => ?_)
              have hb9 : x.2.1.getD j1 0 < 128 := d4 _ (getD_mem (show j1 < x.2.1.length by omega))
              have e_x9 : x9 = nI (x.2.1.getD j1 0) := e_x9.trans (congrArg nI ((congrArg (g.1 5) (nI_clamp (n := ((20 * r1) + j1)) (by omega))).trans (d3 j1 (by omega))))
              subst e_x9
              refine lv_bipush (v := 36) cx.x cx.b d_Mo_dollar_59 (by decide) ?_
              refine lv_icmp_ne (tgt := 66) cx.x cx.b d_Mo_dollar_61 (by decide) (fun c2 => ?_) (fun c2 => ?_)
              · have c2 : (x.2.1.getD j1 0) ≠ 36 := fun zz => c2 ((nI_eq (a := (x.2.1.getD j1 0)) (b := 36) (by omega) (by omega)).mpr zz)
                obtain ⟨x10, e_x10⟩ : ∃ y : Int32, y = nI j1 + 1 := ⟨_, rfl⟩
                refine lv_iinc (v := x10) (lv' := [(2, .int x10), (0, .ref a), (1, .int (nI r1))]) cx.x cx.b d_Mo_dollar_66 hl (k := 0) rfl (by rw [e_x10]; rfl) (by decide) rfl (fun ls hl => ?_)
                have e_x10 : x10 = nI (j1 + 1) := e_x10.trans (nI_add j1 1)
                subst e_x10
                refine lv_goto (tgt := 38) cx.x cx.b d_Mo_dollar_69 (by decide) ?_
                exact ih _ (j1 + 1) hlo (by omega) (by omega) (fun i hi => by by_cases e : i = j1; rw [e]; exact c2; exact hno i (by omega)) _ (lv_sub hl [0, 1, 2] rfl)
              · have c2 : (x.2.1.getD j1 0) = 36 := (nI_eq (a := (x.2.1.getD j1 0)) (b := 36) (by omega) (by omega)).mp c2
                rw [show freeD x = false from decide_eq_false (fun z => z.2 (in36 c1 c2))] at hQ
                refine lv_iconst (v := 1) cx.x cx.b d_Mo_dollar_64 (by decide) ?_
                rw [← hQ]
                exact hx_reti cx.x cx.b cx.r cx.k rfl hlo (fun _ h => h) (Nat.le_of_ble_eq_true rfl) (Nat.le_of_ble_eq_true rfl) d_Mo_dollar_65 (⟨rfl, rfl⟩)
        exact LQ _ _ 0 hlo (Nat.lt_succ_self _) (Nat.zero_le _) (fun i hi => absurd hi (Nat.not_lt_zero i)) _ (lv_sub hl [0, 1, 2] rfl)
      · have c1 : j1 < x.1.length := Nat.not_le.mp (fun zz => c1 ((nI_leI (a := x.1.length) (b := j1) (by omega) (by omega)).mpr zz))
        refine lv_aload_n cx.x cx.b d_Mo_dollar_12 rfl (lv_at hl 1 rfl) ?_
        refine gf_Mo_22_Mo cx M0.1.1 rfl d_Mo_dollar_13 ?_
        refine lv_bipush (v := 20) cx.x cx.b d_Mo_dollar_16 (by decide) ?_
        refine lv_iload_n cx.x cx.b d_Mo_dollar_18 rfl (lv_at hl 2 rfl) ?_
        refine lv_imul cx.x cx.b d_Mo_dollar_19 ?_
        refine lv_topi (fun x2 e_x2 => ?_)
        have e_x2 : x2 = nI (20 * r1) := e_x2.trans (pk_mul 20 r1)
        subst e_x2
        refine lv_iload_n cx.x cx.b d_Mo_dollar_20 rfl (lv_at hl 0 rfl) ?_
        refine lv_iadd cx.x cx.b d_Mo_dollar_21 ?_
        refine lv_topi (fun x3 e_x3 => ?_)
        have e_x3 : x3 = nI ((20 * r1) + j1) := e_x3.trans (nI_add (20 * r1) j1)
        subst e_x3
        refine hx_iald cx.x cx.b cx.K 0 (M0.1.2.1 4 (by decide)) rfl (show vp_in (nI ((20 * r1) + j1)) 4340 from vp_in_nI (show ((20 * r1) + j1) < 4340 by omega) (by decide)) d_Mo_dollar_22 ?_
        refine lv_topi (fun x4 e_x4 => ?_)
        have hb9 : x.1.getD j1 0 < 128 := n4 _ (getD_mem (show j1 < x.1.length by omega))
        have e_x4 : x4 = nI (x.1.getD j1 0) := e_x4.trans (congrArg nI ((congrArg (g.1 4) (nI_clamp (n := ((20 * r1) + j1)) (by omega))).trans (n3 j1 (by omega))))
        subst e_x4
        refine lv_bipush (v := 36) cx.x cx.b d_Mo_dollar_23 (by decide) ?_
        refine lv_icmp_ne (tgt := 30) cx.x cx.b d_Mo_dollar_25 (by decide) (fun c2 => ?_) (fun c2 => ?_)
        · have c2 : (x.1.getD j1 0) ≠ 36 := fun zz => c2 ((nI_eq (a := (x.1.getD j1 0)) (b := 36) (by omega) (by omega)).mpr zz)
          obtain ⟨x5, e_x5⟩ : ∃ y : Int32, y = nI j1 + 1 := ⟨_, rfl⟩
          refine lv_iinc (v := x5) (lv' := [(2, .int x5), (0, .ref a), (1, .int (nI r1))]) cx.x cx.b d_Mo_dollar_30 hl (k := 0) rfl (by rw [e_x5]; rfl) (by decide) rfl (fun ls hl => ?_)
          have e_x5 : x5 = nI (j1 + 1) := e_x5.trans (nI_add j1 1)
          subst e_x5
          refine lv_goto (tgt := 2) cx.x cx.b d_Mo_dollar_33 (by decide) ?_
          exact ih _ (j1 + 1) hlo (by omega) (by omega) (fun i hi => by by_cases e : i = j1; rw [e]; exact c2; exact hno i (by omega)) _ (lv_sub hl [0, 1, 2] rfl)
        · have c2 : (x.1.getD j1 0) = 36 := (nI_eq (a := (x.1.getD j1 0)) (b := 36) (by omega) (by omega)).mp c2
          rw [show freeD x = false from decide_eq_false (fun z => z.1 (in36 c1 c2))] at hQ
          refine lv_iconst (v := 1) cx.x cx.b d_Mo_dollar_28 (by decide) ?_
          rw [← hQ]
          exact hx_reti cx.x cx.b cx.r cx.k rfl hlo (fun _ h => h) (Nat.le_of_ble_eq_true rfl) (Nat.le_of_ble_eq_true rfl) d_Mo_dollar_29 (⟨rfl, rfl⟩)
  refine lv_iconst (v := 0) cx.x cx.b d_Mo_dollar_0 (by decide) ?_
  refine lv_istore_n (lv' := [(2, .int 0), (0, .ref a), (1, .int (nI r1))]) cx.x cx.b d_Mo_dollar_1 rfl hl (by decide) rfl (fun ls hl => ?_)
  exact LP _ _ 0 hlo (Nat.lt_succ_self _) (Nat.zero_le _) (fun i hi => absurd hi (Nat.not_lt_zero i)) _ (lv_sub hl [0, 1, 2] rfl)

set_option maxHeartbeats 4000000 in
set_option maxRecDepth 100000 in
theorem c_Mo_alike (l : Launch) {E : hE} (hE : EnvOk E) {H : Heap} {a : Nat} {ad : Nat → Nat} {g : MS} (M : Mo E H a ad g) (hf0 : g.1 3 0 < 10) (hf1 : g.1 3 1 < 10) {r1 s1 : Nat} {x y : DV} (hr1 : r1 < 217) (hs1 : s1 < 217) (hr : Row g.1 r1 x) (hs : Row g.1 s1 y) : Ct l E y_Mo_alike b_Mo_alike 3 (some .boolean) (rmA 2 0 0) [.ref a, .int (nI r1), .int (nI s1)] H (hQi (fun r H1 => r = bI (alk2 (decide (g.1 3 0 = g.1 3 1)) x y) ∧ H1 = H)) := by
  refine hx_enter hE (by decide) (Nat.le_of_ble_eq_true rfl) ?_
  intro p e s m args below meth c ls cx hnm hl
  have hl : lv_has ls 3 [(0, .ref a), (1, .int (nI r1)), (2, .int (nI s1))] := hl
  have hlo : hLo (eB E) [] := hLo.nil
  generalize hQ : MQ below _ args s _ _ _ = Q
  have M0 : Mw E H H a ad g := ⟨M, hCh.rf, rfl⟩
  have b1 := hr.2.2.2.2
  have b2 := hs.2.2.2.2
  refine lv_aload_n cx.x cx.b d_Mo_alike_0 rfl (lv_at hl 0 rfl) ?_
  refine gf_Mo_34_Mo cx M0.1.1 rfl d_Mo_alike_1 ?_
  refine lv_iload_n cx.x cx.b d_Mo_alike_4 rfl (lv_at hl 1 rfl) ?_
  refine hx_iald cx.x cx.b cx.K 0 (M0.1.2.1 8 (by decide)) rfl (show vp_in (nI r1) 217 from vp_in_nI (show r1 < 217 by omega) (by decide)) d_Mo_alike_5 ?_
  refine lv_topi (fun x11 e_x11 => ?_)
  have e_x11 : x11 = nI x.2.2.1 := e_x11.trans (congrArg nI ((congrArg (g.1 8) (nI_clamp (n := r1) (by omega))).trans (hr.2.2.1)))
  subst e_x11
  refine lv_aload_n cx.x cx.b d_Mo_alike_6 rfl (lv_at hl 0 rfl) ?_
  refine gf_Mo_34_Mo cx M0.1.1 rfl d_Mo_alike_7 ?_
  refine lv_iload_n cx.x cx.b d_Mo_alike_10 rfl (lv_at hl 2 rfl) ?_
  refine hx_iald cx.x cx.b cx.K 0 (M0.1.2.1 8 (by decide)) rfl (show vp_in (nI s1) 217 from vp_in_nI (show s1 < 217 by omega) (by decide)) d_Mo_alike_11 ?_
  refine lv_topi (fun x12 e_x12 => ?_)
  have e_x12 : x12 = nI y.2.2.1 := e_x12.trans (congrArg nI ((congrArg (g.1 8) (nI_clamp (n := s1) (by omega))).trans (hs.2.2.1)))
  subst e_x12
  refine lv_icmp_ne (tgt := 39) cx.x cx.b d_Mo_alike_12 (by decide) (fun c1 => ?_) (fun c1 => ?_)
  · have c1 : x.2.2.1 ≠ y.2.2.1 := fun zz => c1 ((nI_eq (a := x.2.2.1) (b := y.2.2.1) (by omega) (by omega)).mpr zz)
    rw [alk2_f (fun z => c1 (cmpD_zero.mp z.2).2.1)] at hQ
    refine lv_iconst (v := 0) cx.x cx.b d_Mo_alike_39 (by decide) ?_
    rw [← hQ]
    exact hx_reti cx.x cx.b cx.r cx.k rfl hlo (fun _ h => h) (Nat.le_of_ble_eq_true rfl) (Nat.le_of_ble_eq_true rfl) d_Mo_alike_40 (⟨rfl, rfl⟩)
  · have c1 : x.2.2.1 = y.2.2.1 := (nI_eq (a := x.2.2.1) (b := y.2.2.1) (by omega) (by omega)).mp c1
    refine lv_aload_n cx.x cx.b d_Mo_alike_15 rfl (lv_at hl 0 rfl) ?_
    refine gf_Mo_37_Mo cx M0.1.1 rfl d_Mo_alike_16 ?_
    refine lv_iload_n cx.x cx.b d_Mo_alike_19 rfl (lv_at hl 1 rfl) ?_
    refine hx_iald cx.x cx.b cx.K 0 (M0.1.2.1 9 (by decide)) rfl (show vp_in (nI r1) 217 from vp_in_nI (show r1 < 217 by omega) (by decide)) d_Mo_alike_20 ?_
    refine lv_topi (fun x13 e_x13 => ?_)
    have e_x13 : x13 = nI x.2.2.2 := e_x13.trans (congrArg nI ((congrArg (g.1 9) (nI_clamp (n := r1) (by omega))).trans (hr.2.2.2.1)))
    subst e_x13
    refine lv_aload_n cx.x cx.b d_Mo_alike_21 rfl (lv_at hl 0 rfl) ?_
    refine gf_Mo_37_Mo cx M0.1.1 rfl d_Mo_alike_22 ?_
    refine lv_iload_n cx.x cx.b d_Mo_alike_25 rfl (lv_at hl 2 rfl) ?_
    refine hx_iald cx.x cx.b cx.K 0 (M0.1.2.1 9 (by decide)) rfl (show vp_in (nI s1) 217 from vp_in_nI (show s1 < 217 by omega) (by decide)) d_Mo_alike_26 ?_
    refine lv_topi (fun x14 e_x14 => ?_)
    have e_x14 : x14 = nI y.2.2.2 := e_x14.trans (congrArg nI ((congrArg (g.1 9) (nI_clamp (n := s1) (by omega))).trans (hs.2.2.2.1)))
    subst e_x14
    refine lv_icmp_ne (tgt := 39) cx.x cx.b d_Mo_alike_27 (by decide) (fun c2 => ?_) (fun c2 => ?_)
    · have c2 : x.2.2.2 ≠ y.2.2.2 := fun zz => c2 ((nI_eq (a := x.2.2.2) (b := y.2.2.2) (by omega) (by omega)).mpr zz)
      rw [alk2_f (fun z => c2 z.1)] at hQ
      refine lv_iconst (v := 0) cx.x cx.b d_Mo_alike_39 (by decide) ?_
      rw [← hQ]
      exact hx_reti cx.x cx.b cx.r cx.k rfl hlo (fun _ h => h) (Nat.le_of_ble_eq_true rfl) (Nat.le_of_ble_eq_true rfl) d_Mo_alike_40 (⟨rfl, rfl⟩)
    · have c2 : x.2.2.2 = y.2.2.2 := (nI_eq (a := x.2.2.2) (b := y.2.2.2) (by omega) (by omega)).mp c2
      refine lv_aload_n cx.x cx.b d_Mo_alike_30 rfl (lv_at hl 0 rfl) ?_
      refine lv_iload_n cx.x cx.b d_Mo_alike_31 rfl (lv_at hl 1 rfl) ?_
      refine lv_iload_n cx.x cx.b d_Mo_alike_32 rfl (lv_at hl 2 rfl) ?_
      refine hx_calli (iv_Mo_164_Mo cx (c_Mo_compareMembers l hE M hr1 hs1 hr hs) M0.1.1 rfl hl.1 rfl (Nat.le_of_ble_eq_true rfl) d_Mo_alike_33 ⟨Nat.le_of_ble_eq_true rfl, Nat.le_of_ble_eq_true rfl⟩ ⟨Nat.le_of_ble_eq_true rfl, Nat.le_of_ble_eq_true rfl⟩) hlo (fun _ h => h) (fun r17 H16 locs hp15 hlo => ?_)
      obtain ⟨hp15, hH9⟩ := hp15
      have hH9 := hH9.symm
      subst hH9
      refine lv_if_eq (tgt := 41) cx.x cx.b d_Mo_alike_36 (by decide) (fun c3 => ?_) (fun c3 => ?_)
      · have c3 : cmpD x y = 0 := (cmpI_z hp15).mp c3
        rw [alk2_t c2 c3] at hQ
        refine lv_aload_n cx.x cx.b d_Mo_alike_41 rfl (lv_at hl 0 rfl) ?_
        refine gf_Mo_19_Mo cx M0.1.1 rfl d_Mo_alike_42 ?_
        refine lv_iconst (v := 0) cx.x cx.b d_Mo_alike_45 (by decide) ?_
        refine hx_iald cx.x cx.b cx.K 0 (M0.1.2.1 3 (by decide)) rfl (show vp_in (nI 0) 2 from vp_in_nI (show 0 < 2 by omega) (by decide)) d_Mo_alike_46 ?_
        refine lv_topi (fun x18 e_x18 => ?_)
        have e_x18 : x18 = nI ((g.1 3) 0) := e_x18.trans (congrArg (fun z9 => nI ((g.1 3) z9)) (nI_clamp (n := 0) (by omega)))
        subst e_x18
        refine lv_aload_n cx.x cx.b d_Mo_alike_47 rfl (lv_at hl 0 rfl) ?_
        refine gf_Mo_19_Mo cx M0.1.1 rfl d_Mo_alike_48 ?_
        refine lv_iconst (v := 1) cx.x cx.b d_Mo_alike_51 (by decide) ?_
        refine hx_iald cx.x cx.b cx.K 0 (M0.1.2.1 3 (by decide)) rfl (show vp_in (nI 1) 2 from vp_in_nI (show 1 < 2 by omega) (by decide)) d_Mo_alike_52 ?_
        refine lv_topi (fun x19 e_x19 => ?_)
        have e_x19 : x19 = nI ((g.1 3) 1) := e_x19.trans (congrArg (fun z9 => nI ((g.1 3) z9)) (nI_clamp (n := 1) (by omega)))
        subst e_x19
        refine lv_icmp_eq (tgt := 64) cx.x cx.b d_Mo_alike_53 (by decide) (fun c4 => ?_) (fun c4 => ?_)
        · have c4 : ((g.1 3) 0) = ((g.1 3) 1) := (nI_eq (a := ((g.1 3) 0)) (b := ((g.1 3) 1)) (by omega) (by omega)).mp c4
          rw [decide_eq_true c4, Bool.true_or] at hQ
          refine lv_iconst (v := 1) cx.x cx.b d_Mo_alike_64 (by decide) ?_
          refine lv_goto (tgt := 69) cx.x cx.b d_Mo_alike_65 (by decide) ?_
          rw [← hQ]
          exact hx_reti cx.x cx.b cx.r cx.k rfl hlo (fun _ h => h) (Nat.le_of_ble_eq_true rfl) (Nat.le_of_ble_eq_true rfl) d_Mo_alike_69 (⟨rfl, rfl⟩)
        · have c4 : ((g.1 3) 0) ≠ ((g.1 3) 1) := fun zz => c4 ((nI_eq (a := ((g.1 3) 0)) (b := ((g.1 3) 1)) (by omega) (by omega)).mpr zz)
          rw [decide_eq_false c4, Bool.false_or] at hQ
          refine lv_aload_n cx.x cx.b d_Mo_alike_56 rfl (lv_at hl 0 rfl) ?_
          refine lv_iload_n cx.x cx.b d_Mo_alike_57 rfl (lv_at hl 1 rfl) ?_
          refine hx_calli (iv_Mo_236_Mo cx (c_Mo_dollar l hE M hr1 hr) M0.1.1 rfl hl.1 rfl (Nat.le_of_ble_eq_true rfl) d_Mo_alike_58 ⟨Nat.le_of_ble_eq_true rfl, Nat.le_of_ble_eq_true rfl⟩ ⟨Nat.le_of_ble_eq_true rfl, Nat.le_of_ble_eq_true rfl⟩) hlo (fun _ h => h) (fun r22 H21 locs hp20 hlo => ?_)
          obtain ⟨hp20, hH9⟩ := hp20
          have hH9 := hH9.symm
          subst hH9
          subst hp20
          rcases hfr : freeD x
          · rw [hfr] at hQ
            refine lv_if_ne (tgt := 68) cx.x cx.b d_Mo_alike_61 (by decide) (fun _ => ?_) (fun c => absurd c (by decide))
            refine lv_iconst (v := 0) cx.x cx.b d_Mo_alike_68 (by decide) ?_
            rw [← hQ]
            exact hx_reti cx.x cx.b cx.r cx.k rfl hlo (fun _ h => h) (Nat.le_of_ble_eq_true rfl) (Nat.le_of_ble_eq_true rfl) d_Mo_alike_69 (⟨rfl, rfl⟩)
          · rw [hfr] at hQ
            refine lv_if_ne (tgt := 68) cx.x cx.b d_Mo_alike_61 (by decide) (fun c => absurd (by decide) c) (fun _ => ?_)
            refine lv_iconst (v := 1) cx.x cx.b d_Mo_alike_64 (by decide) ?_
            refine lv_goto (tgt := 69) cx.x cx.b d_Mo_alike_65 (by decide) ?_
            rw [← hQ]
            exact hx_reti cx.x cx.b cx.r cx.k rfl hlo (fun _ h => h) (Nat.le_of_ble_eq_true rfl) (Nat.le_of_ble_eq_true rfl) d_Mo_alike_69 (⟨rfl, rfl⟩)
      · have c3 : cmpD x y ≠ 0 := fun z => c3 ((cmpI_z hp15).mpr z)
        rw [alk2_f (fun z => c3 z.2)] at hQ
        refine lv_iconst (v := 0) cx.x cx.b d_Mo_alike_39 (by decide) ?_
        rw [← hQ]
        exact hx_reti cx.x cx.b cx.r cx.k rfl hlo (fun _ h => h) (Nat.le_of_ble_eq_true rfl) (Nat.le_of_ble_eq_true rfl) d_Mo_alike_40 (⟨rfl, rfl⟩)

set_option maxHeartbeats 4000000 in
set_option maxRecDepth 100000 in
theorem c_Mo_lostOf0 (l : Launch) {E : hE} (hE : EnvOk E) {H : Heap} {a : Nat} {ad : Nat → Nat} {g : MS} (M : Mo E H a ad g) {b1 k1 : Nat} {U : List TU} (hb1 : b1 < 2) (hU : Rows g.1 b1 U) (hk1 : k1 < U.length) : Ct l E y_Mo_lostOf b_Mo_lostOf 7 (some .int) (rmA 3 0 0) [.ref a, .int (nI (108 * b1 + k1)), .int (-1)] H (hQi (fun r H1 => r = nI (U.getD k1 default).2.length ∧ H1 = H)) := by
  refine hx_enter hE (by decide) (Nat.le_of_ble_eq_true rfl) ?_
  intro p e s m args below meth c ls cx hnm hl
  have hl : lv_has ls 7 [(0, .ref a), (1, .int (nI (108 * b1 + k1))), (2, .int (-1))] := hl
  have hlo : hLo (eB E) [] := hLo.nil
  generalize hQ : MQ below _ args s _ _ _ = Q
  have M0 : Mw E H H a ad g := ⟨M, hCh.rf, rfl⟩
  have hl12 := hU.2.1
  obtain ⟨u1, u2, u3, u4⟩ := hU.2.2 k1 hk1
  have LP : ∀ (k : Nat) (locs : List Loc) (m1 : Nat), hLo (eB E) locs → ((U.getD k1 default).2.length - m1 < k) → (m1 ≤ (U.getD k1 default).2.length) → ∀ ls, lv_has ls 7 [(4, .int (nI m1)), (3, .int (nI m1)), (0, .ref a), (1, .int (nI (108 * b1 + k1))), (2, .int (-1))] → W p l e (rmA 3 0 0) s m args below meth c H locs 0 0 Q (F0 m 5 ls []) := by
    intro k
    induction k with
    | zero => intro locs m1 hlo hk hm; exact absurd hk (by omega)
    | succ k ih =>
      intro locs m1 hlo hk hm ls hl
      refine lv_iload cx.x cx.b d_Mo_lostOf_5 (lv_at hl 0 rfl) ?_
      refine lv_aload_n cx.x cx.b d_Mo_lostOf_7 rfl (lv_at hl 2 rfl) ?_
      refine lv_iload_n cx.x cx.b d_Mo_lostOf_8 rfl (lv_at hl 3 rfl) ?_
      refine hx_calli (iv_Mo_192_Mo cx (c_Mo_count l hE M (b := b1) (t := k1) hb1 (by omega)) M0.1.1 rfl hl.1 rfl (Nat.le_of_ble_eq_true rfl) d_Mo_lostOf_9 ⟨Nat.le_of_ble_eq_true rfl, Nat.le_of_ble_eq_true rfl⟩ ⟨Nat.le_of_ble_eq_true rfl, Nat.le_of_ble_eq_true rfl⟩) hlo (fun _ h => h) (fun r25 H24 locs hp23 hlo => ?_)
      obtain ⟨hp23, hH9⟩ := hp23
      have hH9 := hH9.symm
      subst hH9
      subst hp23
      rw [u2]
      refine lv_icmp_ge (tgt := 75) cx.x cx.b d_Mo_lostOf_12 (by decide) (fun c1 => ?_) (fun c1 => ?_)
      · have c1 : ((U.getD k1 default).2.length) ≤ m1 := (nI_leI (a := ((U.getD k1 default).2.length)) (b := m1) (by omega) (by omega)).mp c1
        rw [show (U.getD k1 default).2.length = m1 by omega] at hQ
        refine lv_iload_n cx.x cx.b d_Mo_lostOf_75 rfl (lv_at hl 1 rfl) ?_
        rw [← hQ]
        exact hx_reti cx.x cx.b cx.r cx.k rfl hlo (fun _ h => h) (Nat.le_of_ble_eq_true rfl) (Nat.le_of_ble_eq_true rfl) d_Mo_lostOf_76 (⟨rfl, rfl⟩)
      · have c1 : m1 < ((U.getD k1 default).2.length) := Nat.not_le.mp (fun zz => c1 ((nI_leI (a := ((U.getD k1 default).2.length)) (b := m1) (by omega) (by omega)).mpr zz))
        refine lv_iconst (v := 0) cx.x cx.b d_Mo_lostOf_15 (by decide) ?_
        refine lv_istore (lv' := [(5, .int 0), (4, .int (nI m1)), (3, .int (nI m1)), (0, .ref a), (1, .int (nI (108 * b1 + k1))), (2, .int (-1))]) cx.x cx.b d_Mo_lostOf_16 hl (by decide) rfl (fun ls hl => ?_)
        refine lv_iconst (v := 0) cx.x cx.b d_Mo_lostOf_18 (by decide) ?_
        refine lv_istore (lv' := [(6, .int 0), (5, .int 0), (4, .int (nI m1)), (3, .int (nI m1)), (0, .ref a), (1, .int (nI (108 * b1 + k1))), (2, .int (-1))]) cx.x cx.b d_Mo_lostOf_19 hl (by decide) rfl (fun ls hl => ?_)
        refine lv_iload cx.x cx.b d_Mo_lostOf_21 (lv_at hl 0 rfl) ?_
        refine lv_aload_n cx.x cx.b d_Mo_lostOf_23 rfl (lv_at hl 4 rfl) ?_
        refine lv_iload_n cx.x cx.b d_Mo_lostOf_24 rfl (lv_at hl 6 rfl) ?_
        refine hx_calli (iv_Mo_192_Mo cx (c_Mo_countN l hE M) M0.1.1 rfl hl.1 rfl (Nat.le_of_ble_eq_true rfl) d_Mo_lostOf_25 ⟨Nat.le_of_ble_eq_true rfl, Nat.le_of_ble_eq_true rfl⟩ ⟨Nat.le_of_ble_eq_true rfl, Nat.le_of_ble_eq_true rfl⟩) hlo (fun _ h => h) (fun r28 H27 locs hp26 hlo => ?_)
        obtain ⟨hp26, hH9⟩ := hp26
        have hH9 := hH9.symm
        subst hH9
        subst hp26
        refine lv_icmp_ge (tgt := 61) cx.x cx.b d_Mo_lostOf_28 (by decide) (fun _ => ?_) (fun c => absurd (by decide) c)
        refine lv_iload cx.x cx.b d_Mo_lostOf_61 (lv_at hl 1 rfl) ?_
        refine lv_if_ne (tgt := 69) cx.x cx.b d_Mo_lostOf_63 (by decide) (fun c => absurd (by decide) c) (fun _ => ?_)
        obtain ⟨x29, e_x29⟩ : ∃ y : Int32, y = nI m1 + 1 := ⟨_, rfl⟩
        refine lv_iinc (v := x29) (lv' := [(3, .int x29), (6, .int 0), (5, .int 0), (4, .int (nI m1)), (0, .ref a), (1, .int (nI (108 * b1 + k1))), (2, .int (-1))]) cx.x cx.b d_Mo_lostOf_66 hl (k := 3) rfl (by rw [e_x29]; rfl) (by decide) rfl (fun ls hl => ?_)
        have e_x29 : x29 = nI (m1 + 1) := e_x29.trans (nI_add m1 1)
        subst e_x29
        obtain ⟨x30, e_x30⟩ : ∃ y : Int32, y = nI m1 + 1 := ⟨_, rfl⟩
        refine lv_iinc (v := x30) (lv' := [(4, .int x30), (3, .int (nI (m1 + 1))), (6, .int 0), (5, .int 0), (0, .ref a), (1, .int (nI (108 * b1 + k1))), (2, .int (-1))]) cx.x cx.b d_Mo_lostOf_69 hl (k := 3) rfl (by rw [e_x30]; rfl) (by decide) rfl (fun ls hl => ?_)
        have e_x30 : x30 = nI (m1 + 1) := e_x30.trans (nI_add m1 1)
        subst e_x30
        refine lv_goto (tgt := 5) cx.x cx.b d_Mo_lostOf_72 (by decide) ?_
        exact ih _ (m1 + 1) hlo (by omega) (by omega) _ (lv_sub hl [0, 1, 4, 5, 6] rfl)
  refine lv_iconst (v := 0) cx.x cx.b d_Mo_lostOf_0 (by decide) ?_
  refine lv_istore_n (lv' := [(3, .int 0), (0, .ref a), (1, .int (nI (108 * b1 + k1))), (2, .int (-1))]) cx.x cx.b d_Mo_lostOf_1 rfl hl (by decide) rfl (fun ls hl => ?_)
  refine lv_iconst (v := 0) cx.x cx.b d_Mo_lostOf_2 (by decide) ?_
  refine lv_istore (lv' := [(4, .int 0), (3, .int 0), (0, .ref a), (1, .int (nI (108 * b1 + k1))), (2, .int (-1))]) cx.x cx.b d_Mo_lostOf_3 hl (by decide) rfl (fun ls hl => ?_)
  exact LP _ _ 0 hlo (Nat.lt_succ_self _) (Nat.zero_le _) _ (lv_sub hl [0, 1, 2, 3, 4] rfl)

set_option maxHeartbeats 4000000 in
set_option maxRecDepth 100000 in
theorem c_Mo_lostOf1 (l : Launch) {E : hE} (hE : EnvOk E) {H : Heap} {a : Nat} {ad : Nat → Nat} {g : MS} (M : Mo E H a ad g) (hf0 : g.1 3 0 < 10) (hf1 : g.1 3 1 < 10) {b1 b2 k1 k2 : Nat} {U U2 : List TU} (hb1 : b1 < 2) (hU : Rows g.1 b1 U) (hk1 : k1 < U.length) (hb2 : b2 < 2) (hU2 : Rows g.1 b2 U2) (hk2 : k2 < U2.length) (hd1 : (U.getD k1 default).2.Pairwise (fun a b => cmpD a b ≠ 0)) (hd2 : (U2.getD k2 default).2.Pairwise (fun a b => cmpD a b ≠ 0)) : Ct l E y_Mo_lostOf b_Mo_lostOf 7 (some .int) (rmA 3 0 0) [.ref a, .int (nI (108 * b1 + k1)), .int (nI (108 * b2 + k2))] H (hQi (fun r H1 => r = nI (lsM (decide (g.1 3 0 = g.1 3 1)) (srtM (U2.getD k2 default).2) (srtM (U.getD k1 default).2)) ∧ H1 = H)) := by
  refine hx_enter hE (by decide) (Nat.le_of_ble_eq_true rfl) ?_
  intro p e s m args below meth c ls cx hnm hl
  have hl : lv_has ls 7 [(0, .ref a), (1, .int (nI (108 * b1 + k1))), (2, .int (nI (108 * b2 + k2)))] := hl
  have hlo : hLo (eB E) [] := hLo.nil
  generalize hQ : MQ below _ args s _ _ _ = Q
  have M0 : Mw E H H a ad g := ⟨M, hCh.rf, rfl⟩
  have hl12 := hU.2.1
  have hl13 := hU2.2.1
  obtain ⟨u1, u2, u3, u4⟩ := hU.2.2 k1 hk1
  obtain ⟨v1, v2, v3, v4⟩ := hU2.2.2 k2 hk2
  have hmr1 := fun t => c_Mo_memberRow l hE M hb1 hU hk1 hd1 t
  have hmr2 := fun t => c_Mo_memberRow l hE M hb2 hU2 hk2 hd2 t
  have e1 := (srtM_perm (U.getD k1 default).2).length_eq
  have e2 := (srtM_perm (U2.getD k2 default).2).length_eq
  generalize (U.getD k1 default).2 = ms at *
  generalize (U2.getD k2 default).2 = os at *
  have hle := lsM_le (decide (g.1 3 0 = g.1 3 1)) (srtM os) (srtM ms)
  generalize hG : lsM (decide (g.1 3 0 = g.1 3 1)) (srtM os) (srtM ms) = G at hQ hle
  have hG : 0 + lsM (decide (g.1 3 0 = g.1 3 1)) (srtM os) ((srtM ms).drop 0) = G := by rw [List.drop_zero, Nat.zero_add]; exact hG
  have LP : ∀ (k : Nat) (locs : List Loc) (m1 n1 : Nat), hLo (eB E) locs → (ms.length - m1 < k) → (m1 ≤ ms.length) → (n1 + lsM (decide (g.1 3 0 = g.1 3 1)) (srtM os) ((srtM ms).drop m1) = G) → ∀ ls, lv_has ls 7 [(4, .int (nI m1)), (3, .int (nI n1)), (0, .ref a), (1, .int (nI (108 * b1 + k1))), (2, .int (nI (108 * b2 + k2)))] → W p l e (rmA 3 0 0) s m args below meth c H locs 0 0 Q (F0 m 5 ls []) := by
    intro k
    induction k with
    | zero => intro locs m1 n1 hlo hk hm hn; exact absurd hk (by omega)
    | succ k ih =>
      intro locs m1 n1 hlo hk hm hn ls hl
      refine lv_iload cx.x cx.b d_Mo_lostOf_5 (lv_at hl 0 rfl) ?_
      refine lv_aload_n cx.x cx.b d_Mo_lostOf_7 rfl (lv_at hl 2 rfl) ?_
      refine lv_iload_n cx.x cx.b d_Mo_lostOf_8 rfl (lv_at hl 3 rfl) ?_
      refine hx_calli (iv_Mo_192_Mo cx (c_Mo_count l hE M (b := b1) (t := k1) hb1 (by omega)) M0.1.1 rfl hl.1 rfl (Nat.le_of_ble_eq_true rfl) d_Mo_lostOf_9 ⟨Nat.le_of_ble_eq_true rfl, Nat.le_of_ble_eq_true rfl⟩ ⟨Nat.le_of_ble_eq_true rfl, Nat.le_of_ble_eq_true rfl⟩) hlo (fun _ h => h) (fun r33 H32 locs hp31 hlo => ?_)
      obtain ⟨hp31, hH9⟩ := hp31
      have hH9 := hH9.symm
      subst hH9
      subst hp31
      rw [u2]
      refine lv_icmp_ge (tgt := 75) cx.x cx.b d_Mo_lostOf_12 (by decide) (fun c1 => ?_) (fun c1 => ?_)
      · have c1 : ms.length ≤ m1 := (nI_leI (a := ms.length) (b := m1) (by omega) (by omega)).mp c1
        rw [List.drop_eq_nil_of_le (by omega)] at hn
        have hn : n1 + 0 = G := hn
        subst hn
        refine lv_iload_n cx.x cx.b d_Mo_lostOf_75 rfl (lv_at hl 1 rfl) ?_
        rw [← hQ]
        exact hx_reti cx.x cx.b cx.r cx.k rfl hlo (fun _ h => h) (Nat.le_of_ble_eq_true rfl) (Nat.le_of_ble_eq_true rfl) d_Mo_lostOf_76 (⟨rfl, rfl⟩)
      · have c1 : m1 < ms.length := Nat.not_le.mp (fun zz => c1 ((nI_leI (a := ms.length) (b := m1) (by omega) (by omega)).mpr zz))
        have ihO := ih
        rw [lsM_step (by omega)] at hn
        have hx9 : mbC (srtM ms) (nI m1).toInt = some ((srtM ms).getD m1 default) := by rw [nI_toInt (by omega)]; exact mbC_in (by omega)
        have hq1 := hmr1 (nI m1)
        rw [hx9] at hq1
        generalize hX : (srtM ms).getD m1 default = X9 at *
        refine lv_iconst (v := 0) cx.x cx.b d_Mo_lostOf_15 (by decide) ?_
        refine lv_istore (lv' := [(5, .int 0), (4, .int (nI m1)), (3, .int (nI n1)), (0, .ref a), (1, .int (nI (108 * b1 + k1))), (2, .int (nI (108 * b2 + k2)))]) cx.x cx.b d_Mo_lostOf_16 hl (by decide) rfl (fun ls hl => ?_)
        refine lv_iconst (v := 0) cx.x cx.b d_Mo_lostOf_18 (by decide) ?_
        refine lv_istore (lv' := [(6, .int 0), (5, .int 0), (4, .int (nI m1)), (3, .int (nI n1)), (0, .ref a), (1, .int (nI (108 * b1 + k1))), (2, .int (nI (108 * b2 + k2)))]) cx.x cx.b d_Mo_lostOf_19 hl (by decide) rfl (fun ls hl => ?_)
        have LI : ∀ (k : Nat) (locs : List Loc) (j1 : Nat) (th : Bool), hLo (eB E) locs → (os.length - j1 < k) → (j1 ≤ os.length) → (th = ((srtM os).take j1).any (alk2 (decide (g.1 3 0 = g.1 3 1)) X9)) → ∀ ls, lv_has ls 7 [(6, .int (nI j1)), (5, .int (bI th)), (4, .int (nI m1)), (3, .int (nI n1)), (0, .ref a), (1, .int (nI (108 * b1 + k1))), (2, .int (nI (108 * b2 + k2)))] → W p l e (rmA 3 0 0) s m args below meth c H locs 0 0 Q (F0 m 21 ls []) := by
          intro k
          induction k with
          | zero => intro locs j1 th hlo hk2 hj1 hth; exact absurd hk2 (by omega)
          | succ k ih =>
            intro locs j1 th hlo hk2 hj1 hth ls hl
            refine lv_iload cx.x cx.b d_Mo_lostOf_21 (lv_at hl 0 rfl) ?_
            refine lv_aload_n cx.x cx.b d_Mo_lostOf_23 rfl (lv_at hl 4 rfl) ?_
            refine lv_iload_n cx.x cx.b d_Mo_lostOf_24 rfl (lv_at hl 6 rfl) ?_
            refine hx_calli (iv_Mo_192_Mo cx (c_Mo_count l hE M (b := b2) (t := k2) hb2 (by omega)) M0.1.1 rfl hl.1 rfl (Nat.le_of_ble_eq_true rfl) d_Mo_lostOf_25 ⟨Nat.le_of_ble_eq_true rfl, Nat.le_of_ble_eq_true rfl⟩ ⟨Nat.le_of_ble_eq_true rfl, Nat.le_of_ble_eq_true rfl⟩) hlo (fun _ h => h) (fun r36 H35 locs hp34 hlo => ?_)
            obtain ⟨hp34, hH9⟩ := hp34
            have hH9 := hH9.symm
            subst hH9
            subst hp34
            rw [v2]
            refine lv_icmp_ge (tgt := 61) cx.x cx.b d_Mo_lostOf_28 (by decide) (fun c2 => ?_) (fun c2 => ?_)
            · have c2 : os.length ≤ j1 := (nI_leI (a := os.length) (b := j1) (by omega) (by omega)).mp c2
              have hth : th = (srtM os).any (alk2 (decide (g.1 3 0 = g.1 3 1)) X9) := by rw [hth, List.take_of_length_le (by omega)]
              rw [← hth] at hn
              rcases th with _ | _
              · have hl : lv_has ls 7 [(6, .int (nI j1)), (5, .int (bI false)), (4, .int (nI m1)), (3, .int (nI n1)), (0, .ref a), (1, .int (nI (108 * b1 + k1))), (2, .int (nI (108 * b2 + k2)))] := hl
                refine lv_iload cx.x cx.b d_Mo_lostOf_61 (lv_at hl 1 rfl) ?_
                refine lv_if_ne (tgt := 69) cx.x cx.b d_Mo_lostOf_63 (by decide) (fun c => absurd (by decide) c) (fun _ => ?_)
                obtain ⟨x37, e_x37⟩ : ∃ y : Int32, y = nI n1 + 1 := ⟨_, rfl⟩
                refine lv_iinc (v := x37) (lv' := [(3, .int x37), (6, .int (nI j1)), (5, .int (bI false)), (4, .int (nI m1)), (0, .ref a), (1, .int (nI (108 * b1 + k1))), (2, .int (nI (108 * b2 + k2)))]) cx.x cx.b d_Mo_lostOf_66 hl (k := 3) rfl (by rw [e_x37]; rfl) (by decide) rfl (fun ls hl => ?_)
                have e_x37 : x37 = nI (n1 + 1) := e_x37.trans (nI_add n1 1)
                subst e_x37
                obtain ⟨x38, e_x38⟩ : ∃ y : Int32, y = nI m1 + 1 := ⟨_, rfl⟩
                refine lv_iinc (v := x38) (lv' := [(4, .int x38), (3, .int (nI (n1 + 1))), (6, .int (nI j1)), (5, .int (bI false)), (0, .ref a), (1, .int (nI (108 * b1 + k1))), (2, .int (nI (108 * b2 + k2)))]) cx.x cx.b d_Mo_lostOf_69 hl (k := 3) rfl (by rw [e_x38]; rfl) (by decide) rfl (fun ls hl => ?_)
                have e_x38 : x38 = nI (m1 + 1) := e_x38.trans (nI_add m1 1)
                subst e_x38
                refine lv_goto (tgt := 5) cx.x cx.b d_Mo_lostOf_72 (by decide) ?_
                rw [if_neg (by decide)] at hn
                exact ihO _ (m1 + 1) (n1 + 1) hlo (by omega) (by omega) (by omega) _ (lv_sub hl [0, 1, 4, 5, 6] rfl)
              · have hl : lv_has ls 7 [(6, .int (nI j1)), (5, .int (bI true)), (4, .int (nI m1)), (3, .int (nI n1)), (0, .ref a), (1, .int (nI (108 * b1 + k1))), (2, .int (nI (108 * b2 + k2)))] := hl
                refine lv_iload cx.x cx.b d_Mo_lostOf_61 (lv_at hl 1 rfl) ?_
                refine lv_if_ne (tgt := 69) cx.x cx.b d_Mo_lostOf_63 (by decide) (fun _ => ?_) (fun c => absurd c (by decide))
                obtain ⟨x39, e_x39⟩ : ∃ y : Int32, y = nI m1 + 1 := ⟨_, rfl⟩
                refine lv_iinc (v := x39) (lv' := [(4, .int x39), (6, .int (nI j1)), (5, .int (bI true)), (3, .int (nI n1)), (0, .ref a), (1, .int (nI (108 * b1 + k1))), (2, .int (nI (108 * b2 + k2)))]) cx.x cx.b d_Mo_lostOf_69 hl (k := 2) rfl (by rw [e_x39]; rfl) (by decide) rfl (fun ls hl => ?_)
                have e_x39 : x39 = nI (m1 + 1) := e_x39.trans (nI_add m1 1)
                subst e_x39
                refine lv_goto (tgt := 5) cx.x cx.b d_Mo_lostOf_72 (by decide) ?_
                rw [if_pos rfl] at hn
                exact ihO _ (m1 + 1) n1 hlo (by omega) (by omega) (by omega) _ (lv_sub hl [0, 3, 4, 5, 6] rfl)
            · have c2 : j1 < os.length := Nat.not_le.mp (fun zz => c2 ((nI_leI (a := os.length) (b := j1) (by omega) (by omega)).mpr zz))
              have hy9 : mbC (srtM os) (nI j1).toInt = some ((srtM os).getD j1 default) := by rw [nI_toInt (by omega)]; exact mbC_in (by omega)
              have hq2 := hmr2 (nI j1)
              rw [hy9] at hq2
              refine lv_aload_n cx.x cx.b d_Mo_lostOf_31 rfl (lv_at hl 4 rfl) ?_
              refine lv_aload_n cx.x cx.b d_Mo_lostOf_32 rfl (lv_at hl 4 rfl) ?_
              refine lv_iload_n cx.x cx.b d_Mo_lostOf_33 rfl (lv_at hl 5 rfl) ?_
              refine lv_iload cx.x cx.b d_Mo_lostOf_34 (lv_at hl 2 rfl) ?_
              refine hx_calli (iv_Mo_220_Mo cx (hq1) M0.1.1 rfl hl.1 rfl (Nat.le_of_ble_eq_true rfl) d_Mo_lostOf_36 ⟨Nat.le_of_ble_eq_true rfl, Nat.le_of_ble_eq_true rfl⟩ ⟨Nat.le_of_ble_eq_true rfl, Nat.le_of_ble_eq_true rfl⟩) hlo (fun _ h => h) (fun r42 H41 locs hp40 hlo => ?_)
              obtain ⟨hp40, hH9⟩ := hp40
              have hH9 := hH9.symm
              subst hH9
              obtain ⟨i1, hi1, hd9, hp40⟩ := hp40
              subst hp40
              refine lv_aload_n cx.x cx.b d_Mo_lostOf_39 rfl (lv_at hl 4 rfl) ?_
              refine lv_iload_n cx.x cx.b d_Mo_lostOf_40 rfl (lv_at hl 6 rfl) ?_
              refine lv_iload cx.x cx.b d_Mo_lostOf_41 (lv_at hl 0 rfl) ?_
              refine hx_calli (iv_Mo_220_Mo cx (hq2) M0.1.1 rfl hl.1 rfl (Nat.le_of_ble_eq_true rfl) d_Mo_lostOf_43 ⟨Nat.le_of_ble_eq_true rfl, Nat.le_of_ble_eq_true rfl⟩ ⟨Nat.le_of_ble_eq_true rfl, Nat.le_of_ble_eq_true rfl⟩) hlo (fun _ h => h) (fun r45 H44 locs hp43 hlo => ?_)
              obtain ⟨hp43, hH9⟩ := hp43
              have hH9 := hH9.symm
              subst hH9
              obtain ⟨i2, hi2, he9, hp43⟩ := hp43
              subst hp43
              refine hx_calli (iv_Mo_239_Mo cx (c_Mo_alike l hE M hf0 hf1 (r1 := 108 * b1 + 12 + 8 * k1 + i1) (s1 := 108 * b2 + 12 + 8 * k2 + i2) (by omega) (by omega) (u4 i1 hi1) (v4 i2 hi2)) M0.1.1 rfl hl.1 rfl (Nat.le_of_ble_eq_true rfl) d_Mo_lostOf_46 ⟨Nat.le_of_ble_eq_true rfl, Nat.le_of_ble_eq_true rfl⟩ ⟨Nat.le_of_ble_eq_true rfl, Nat.le_of_ble_eq_true rfl⟩) hlo (fun _ h => h) (fun r48 H47 locs hp46 hlo => ?_)
              obtain ⟨hp46, hH9⟩ := hp46
              have hH9 := hH9.symm
              subst hH9
              subst hp46
              rw [← hd9, ← he9]
              have hat := any_take (d := default) (alk2 (decide (g.1 3 0 = g.1 3 1)) X9) (show j1 < (srtM os).length by omega)
              rcases hal : alk2 (decide (g.1 3 0 = g.1 3 1)) X9 ((srtM os).getD j1 default)
              · rw [hal, Bool.or_false, ← hth] at hat
                refine lv_if_eq (tgt := 55) cx.x cx.b d_Mo_lostOf_49 (by decide) (fun _ => ?_) (fun c => absurd (by decide) c)
                obtain ⟨x49, e_x49⟩ : ∃ y : Int32, y = nI j1 + 1 := ⟨_, rfl⟩
                refine lv_iinc (v := x49) (lv' := [(6, .int x49), (5, .int (bI th)), (4, .int (nI m1)), (3, .int (nI n1)), (0, .ref a), (1, .int (nI (108 * b1 + k1))), (2, .int (nI (108 * b2 + k2)))]) cx.x cx.b d_Mo_lostOf_55 hl (k := 0) rfl (by rw [e_x49]; rfl) (by decide) rfl (fun ls hl => ?_)
                have e_x49 : x49 = nI (j1 + 1) := e_x49.trans (nI_add j1 1)
                subst e_x49
                refine lv_goto (tgt := 21) cx.x cx.b d_Mo_lostOf_58 (by decide) ?_
                exact ih _ (j1 + 1) th hlo (by omega) (by omega) hat.symm _ (lv_sub hl [0, 1, 2, 3, 4, 5, 6] rfl)
              · rw [hal, Bool.or_true] at hat
                refine lv_if_eq (tgt := 55) cx.x cx.b d_Mo_lostOf_49 (by decide) (fun c => absurd c (by decide)) (fun _ => ?_)
                refine lv_iconst (v := 1) cx.x cx.b d_Mo_lostOf_52 (by decide) ?_
                refine lv_istore (lv' := [(5, .int 1), (6, .int (nI j1)), (4, .int (nI m1)), (3, .int (nI n1)), (0, .ref a), (1, .int (nI (108 * b1 + k1))), (2, .int (nI (108 * b2 + k2)))]) cx.x cx.b d_Mo_lostOf_53 hl (by decide) rfl (fun ls hl => ?_)
                obtain ⟨x50, e_x50⟩ : ∃ y : Int32, y = nI j1 + 1 := ⟨_, rfl⟩
                refine lv_iinc (v := x50) (lv' := [(6, .int x50), (5, .int 1), (4, .int (nI m1)), (3, .int (nI n1)), (0, .ref a), (1, .int (nI (108 * b1 + k1))), (2, .int (nI (108 * b2 + k2)))]) cx.x cx.b d_Mo_lostOf_55 hl (k := 1) rfl (by rw [e_x50]; rfl) (by decide) rfl (fun ls hl => ?_)
                have e_x50 : x50 = nI (j1 + 1) := e_x50.trans (nI_add j1 1)
                subst e_x50
                refine lv_goto (tgt := 21) cx.x cx.b d_Mo_lostOf_58 (by decide) ?_
                exact ih _ (j1 + 1) true hlo (by omega) (by omega) hat.symm _ (lv_sub hl [0, 1, 2, 3, 4, 5, 6] rfl)
        exact LI _ _ 0 false hlo (Nat.lt_succ_self _) (Nat.zero_le _) (by rw [List.take_zero]; rfl) _ (lv_sub hl [0, 1, 2, 3, 4, 5, 6] rfl)
  refine lv_iconst (v := 0) cx.x cx.b d_Mo_lostOf_0 (by decide) ?_
  refine lv_istore_n (lv' := [(3, .int 0), (0, .ref a), (1, .int (nI (108 * b1 + k1))), (2, .int (nI (108 * b2 + k2)))]) cx.x cx.b d_Mo_lostOf_1 rfl hl (by decide) rfl (fun ls hl => ?_)
  refine lv_iconst (v := 0) cx.x cx.b d_Mo_lostOf_2 (by decide) ?_
  refine lv_istore (lv' := [(4, .int 0), (3, .int 0), (0, .ref a), (1, .int (nI (108 * b1 + k1))), (2, .int (nI (108 * b2 + k2)))]) cx.x cx.b d_Mo_lostOf_3 hl (by decide) rfl (fun ls hl => ?_)
  exact LP _ _ 0 0 hlo (Nat.lt_succ_self _) (Nat.zero_le _) hG _ (lv_sub hl [0, 1, 2, 3, 4] rfl)

set_option maxHeartbeats 4000000 in
set_option maxRecDepth 100000 in
theorem c_Mo_lost (l : Launch) {E : hE} (hE : EnvOk E) {H : Heap} {a : Nat} {ad : Nat → Nat} {g : MS} (M : Mo E H a ad g) (hf0 : g.1 3 0 < 10) (hf1 : g.1 3 1 < 10) (hcr : g.2 2 = 0 ∨ g.2 2 = 1) {b : Nat} (hb : b < 2) {U U2 : List TU} (hU : Rows g.1 (if g.2 2 = 0 then b else 1 - b) U) (hU2 : Rows g.1 (1 - (if g.2 2 = 0 then b else 1 - b)) U2) (hd1 : ∀ u ∈ U, u.2.Pairwise (fun a b => cmpD a b ≠ 0)) (hd2 : ∀ u ∈ U2, u.2.Pairwise (fun a b => cmpD a b ≠ 0)) (h8 : ∀ u ∈ U, u.2.length ≤ 8) : Ct l E y_Mo_lost b_Mo_lost 8 (some .int) (rmA 4 0 0) [.ref a, .int (nI b)] H (hQi (fun r H1 => r = nI ((U.map (lsU (decide (g.1 3 0 = g.1 3 1)) U2)).sum) ∧ H1 = H)) := by
  refine hx_enter hE (by decide) (Nat.le_of_ble_eq_true rfl) ?_
  intro p e s m args below meth c ls cx hnm hl
  have hl : lv_has ls 8 [(0, .ref a), (1, .int (nI b))] := hl
  have hlo : hLo (eB E) [] := hLo.nil
  generalize hQ : MQ below _ args s _ _ _ = Q
  have M0 : Mw E H H a ad g := ⟨M, hCh.rf, rfl⟩
  have hb1 : (if g.2 2 = 0 then b else 1 - b) < 2 := by by_cases c : (g.2 2) = 0; rw [if_pos c]; exact hb; rw [if_neg c]; omega
  have hsd := c_Mo_side l hE M hcr hb
  generalize (if g.2 2 = 0 then b else 1 - b) = b1 at *
  have hl12 := hU.2.1
  have hl13 := hU2.2.1
  have hle := sumU_le (sf := (decide (g.1 3 0 = g.1 3 1))) (U2 := U2) h8
  obtain ⟨b2, hb2⟩ : ∃ b2, b2 = 1 - b1 := ⟨_, rfl⟩
  rw [← hb2] at hU2
  generalize hG : (U.map (lsU (decide (g.1 3 0 = g.1 3 1)) U2)).sum = G at hQ hle
  have hG : 0 + ((U.drop 0).map (lsU (decide (g.1 3 0 = g.1 3 1)) U2)).sum = G := by rw [List.drop_zero, Nat.zero_add]; exact hG
  refine lv_iload_n cx.x cx.b d_Mo_lost_0 rfl (lv_at hl 1 rfl) ?_
  refine hx_calli (iv_Mo_173 cx (c_Mo_none l hE (H := H) (nI b)) rfl hl.1 rfl (Nat.le_of_ble_eq_true rfl) d_Mo_lost_1 ⟨Nat.le_of_ble_eq_true rfl, Nat.le_of_ble_eq_true rfl⟩ ⟨Nat.le_of_ble_eq_true rfl, Nat.le_of_ble_eq_true rfl⟩) hlo (fun _ h => h) (fun r53 H52 locs hp51 hlo => ?_)
  obtain ⟨hp51, hH9⟩ := hp51
  have hH9 := hH9.symm
  subst hH9
  rw [show decide (¬ (nI b = 0 ∨ nI b = 1)) = false from decide_eq_false (fun z => z (by rcases (show b = 0 ∨ b = 1 by omega) with e | e; rw [e]; exact Or.inl rfl; rw [e]; exact Or.inr rfl))] at hp51
  subst hp51
  refine lv_if_eq (tgt := 9) cx.x cx.b d_Mo_lost_4 (by decide) (fun _ => ?_) (fun c => absurd (by decide) c)
  refine lv_aload_n cx.x cx.b d_Mo_lost_9 rfl (lv_at hl 0 rfl) ?_
  refine lv_iload_n cx.x cx.b d_Mo_lost_10 rfl (lv_at hl 1 rfl) ?_
  refine hx_calli (iv_Mo_176_Mo cx (hsd) M0.1.1 rfl hl.1 rfl (Nat.le_of_ble_eq_true rfl) d_Mo_lost_11 ⟨Nat.le_of_ble_eq_true rfl, Nat.le_of_ble_eq_true rfl⟩ ⟨Nat.le_of_ble_eq_true rfl, Nat.le_of_ble_eq_true rfl⟩) hlo (fun _ h => h) (fun r56 H55 locs hp54 hlo => ?_)
  obtain ⟨hp54, hH9⟩ := hp54
  have hH9 := hH9.symm
  subst hH9
  subst hp54
  refine lv_istore_n (lv' := [(2, .int (nI b1)), (0, .ref a), (1, .int (nI b))]) cx.x cx.b d_Mo_lost_14 rfl hl (by decide) rfl (fun ls hl => ?_)
  refine lv_iconst (v := 0) cx.x cx.b d_Mo_lost_15 (by decide) ?_
  refine lv_istore_n (lv' := [(3, .int 0), (2, .int (nI b1)), (0, .ref a), (1, .int (nI b))]) cx.x cx.b d_Mo_lost_16 rfl hl (by decide) rfl (fun ls hl => ?_)
  refine lv_iconst (v := 0) cx.x cx.b d_Mo_lost_17 (by decide) ?_
  refine lv_istore (lv' := [(4, .int 0), (3, .int 0), (2, .int (nI b1)), (0, .ref a), (1, .int (nI b))]) cx.x cx.b d_Mo_lost_18 hl (by decide) rfl (fun ls hl => ?_)
  have LP : ∀ (k : Nat) (locs : List Loc) (t1 n1 : Nat), hLo (eB E) locs → (U.length - t1 < k) → (t1 ≤ U.length) → (n1 + ((U.drop t1).map (lsU (decide (g.1 3 0 = g.1 3 1)) U2)).sum = G) → ∀ ls, lv_has ls 8 [(4, .int (nI t1)), (3, .int (nI n1)), (0, .ref a), (2, .int (nI b1))] → W p l e (rmA 4 0 0) s m args below meth c H locs 0 0 Q (F0 m 20 ls []) := by
    intro k
    induction k with
    | zero => intro locs t1 n1 hlo hk ht hn; exact absurd hk (by omega)
    | succ k ih =>
      intro locs t1 n1 hlo hk ht hn ls hl
      refine lv_iload cx.x cx.b d_Mo_lost_20 (lv_at hl 0 rfl) ?_
      refine lv_aload_n cx.x cx.b d_Mo_lost_22 rfl (lv_at hl 2 rfl) ?_
      refine gf_Mo_16_Mo cx M0.1.1 rfl d_Mo_lost_23 ?_
      refine lv_iload_n cx.x cx.b d_Mo_lost_26 rfl (lv_at hl 3 rfl) ?_
      refine hx_iald cx.x cx.b cx.K 0 (M0.1.2.1 2 (by decide)) rfl (show vp_in (nI b1) 2 from vp_in_nI (show b1 < 2 by omega) (by decide)) d_Mo_lost_27 ?_
      refine lv_topi (fun x57 e_x57 => ?_)
      have e_x57 : x57 = nI U.length := e_x57.trans (congrArg nI ((congrArg (g.1 2) (nI_clamp (n := b1) (by omega))).trans (hU.1)))
      subst e_x57
      refine lv_icmp_ge (tgt := 130) cx.x cx.b d_Mo_lost_28 (by decide) (fun c1 => ?_) (fun c1 => ?_)
      · have c1 : U.length ≤ t1 := (nI_leI (a := U.length) (b := t1) (by omega) (by omega)).mp c1
        rw [List.drop_eq_nil_of_le (by omega)] at hn
        have hn : n1 + 0 = G := hn
        subst hn
        refine lv_iload_n cx.x cx.b d_Mo_lost_130 rfl (lv_at hl 1 rfl) ?_
        rw [← hQ]
        exact hx_reti cx.x cx.b cx.r cx.k rfl hlo (fun _ h => h) (Nat.le_of_ble_eq_true rfl) (Nat.le_of_ble_eq_true rfl) d_Mo_lost_131 (⟨rfl, rfl⟩)
      · have c1 : t1 < U.length := Nat.not_le.mp (fun zz => c1 ((nI_leI (a := U.length) (b := t1) (by omega) (by omega)).mpr zz))
        have ihO := ih
        rw [sum_drop (d := default) c1] at hn
        refine lv_bipush (v := 108) cx.x cx.b d_Mo_lost_31 (by decide) ?_
        refine lv_iload_n cx.x cx.b d_Mo_lost_33 rfl (lv_at hl 3 rfl) ?_
        refine lv_imul cx.x cx.b d_Mo_lost_34 ?_
        refine lv_topi (fun x58 e_x58 => ?_)
        have e_x58 : x58 = nI (108 * b1) := e_x58.trans (pk_mul 108 b1)
        subst e_x58
        refine lv_iload cx.x cx.b d_Mo_lost_35 (lv_at hl 0 rfl) ?_
        refine lv_iadd cx.x cx.b d_Mo_lost_37 ?_
        refine lv_topi (fun x59 e_x59 => ?_)
        have e_x59 : x59 = nI ((108 * b1) + t1) := e_x59.trans (nI_add (108 * b1) t1)
        subst e_x59
        refine lv_istore (lv' := [(5, .int (nI ((108 * b1) + t1))), (4, .int (nI t1)), (3, .int (nI n1)), (0, .ref a), (2, .int (nI b1))]) cx.x cx.b d_Mo_lost_38 hl (by decide) rfl (fun ls hl => ?_)
        refine lv_iconst (v := (-1)) cx.x cx.b d_Mo_lost_40 (by decide) ?_
        refine lv_istore (lv' := [(6, .int (-1)), (5, .int (nI ((108 * b1) + t1))), (4, .int (nI t1)), (3, .int (nI n1)), (0, .ref a), (2, .int (nI b1))]) cx.x cx.b d_Mo_lost_41 hl (by decide) rfl (fun ls hl => ?_)
        refine lv_bipush (v := 108) cx.x cx.b d_Mo_lost_43 (by decide) ?_
        refine lv_bipush (v := 108) cx.x cx.b d_Mo_lost_45 (by decide) ?_
        refine lv_iload_n cx.x cx.b d_Mo_lost_47 rfl (lv_at hl 5 rfl) ?_
        refine lv_imul cx.x cx.b d_Mo_lost_48 ?_
        refine lv_topi (fun x60 e_x60 => ?_)
        have e_x60 : x60 = nI (108 * b1) := e_x60.trans (pk_mul 108 b1)
        subst e_x60
        refine lv_isub cx.x cx.b d_Mo_lost_49 ?_
        refine lv_topi (fun x61 e_x61 => ?_)
        have e_x61 : x61 = nI (108 - (108 * b1)) := e_x61.trans (pk_sub (a := 108) (b := (108 * b1)) (by omega))
        subst e_x61
        rw [show 108 - 108 * b1 = 108 * b2 by omega]
        refine lv_istore (lv' := [(7, .int (nI (108 * b2))), (6, .int (-1)), (5, .int (nI ((108 * b1) + t1))), (4, .int (nI t1)), (3, .int (nI n1)), (0, .ref a), (2, .int (nI b1))]) cx.x cx.b d_Mo_lost_50 hl (by decide) rfl (fun ls hl => ?_)
        have LI : ∀ (k : Nat) (locs : List Loc) (j1 : Nat), hLo (eB E) locs → (U2.length - j1 < k) → (j1 ≤ U2.length) → ∀ ls, lv_has ls 8 [(7, .int (nI (108 * b2 + j1))), (6, .int (sV (108 * b2) (lsI (U.getD t1 default).1.1 U2 j1))), (5, .int (nI (108 * b1 + t1))), (4, .int (nI t1)), (3, .int (nI n1)), (0, .ref a), (2, .int (nI b1))] → W p l e (rmA 4 0 0) s m args below meth c H locs 0 0 Q (F0 m 52 ls []) := by
          intro k
          induction k with
          | zero => intro locs j1 hlo hk2 hj1; exact absurd hk2 (by omega)
          | succ k ih =>
            intro locs j1 hlo hk2 hj1 ls hl
            refine lv_iload cx.x cx.b d_Mo_lost_52 (lv_at hl 0 rfl) ?_
            refine lv_bipush (v := 108) cx.x cx.b d_Mo_lost_54 (by decide) ?_
            refine lv_bipush (v := 108) cx.x cx.b d_Mo_lost_56 (by decide) ?_
            refine lv_iload_n cx.x cx.b d_Mo_lost_58 rfl (lv_at hl 6 rfl) ?_
            refine lv_imul cx.x cx.b d_Mo_lost_59 ?_
            refine lv_topi (fun x62 e_x62 => ?_)
            have e_x62 : x62 = nI (108 * b1) := e_x62.trans (pk_mul 108 b1)
            subst e_x62
            refine lv_isub cx.x cx.b d_Mo_lost_60 ?_
            refine lv_topi (fun x63 e_x63 => ?_)
            have e_x63 : x63 = nI (108 - (108 * b1)) := e_x63.trans (pk_sub (a := 108) (b := (108 * b1)) (by omega))
            subst e_x63
            refine lv_aload_n cx.x cx.b d_Mo_lost_61 rfl (lv_at hl 5 rfl) ?_
            refine gf_Mo_16_Mo cx M0.1.1 rfl d_Mo_lost_62 ?_
            refine lv_iconst (v := 1) cx.x cx.b d_Mo_lost_65 (by decide) ?_
            refine lv_iload_n cx.x cx.b d_Mo_lost_66 rfl (lv_at hl 6 rfl) ?_
            refine lv_isub cx.x cx.b d_Mo_lost_67 ?_
            refine lv_topi (fun x64 e_x64 => ?_)
            have e_x64 : x64 = nI (1 - b1) := e_x64.trans (pk_sub (a := 1) (b := b1) (by omega))
            subst e_x64
            refine hx_iald cx.x cx.b cx.K 0 (M0.1.2.1 2 (by decide)) rfl (show vp_in (nI (1 - b1)) 2 from vp_in_nI (show (1 - b1) < 2 by omega) (by decide)) d_Mo_lost_68 ?_
            refine lv_topi (fun x65 e_x65 => ?_)
            have e_x65 : x65 = nI U2.length := e_x65.trans (congrArg nI ((congrArg (g.1 2) (nI_clamp (n := (1 - b1)) (by omega))).trans ((show g.1 2 (1 - b1) = U2.length by rw [← hb2]; exact hU2.1))))
            subst e_x65
            refine lv_iadd cx.x cx.b d_Mo_lost_69 ?_
            refine lv_topi (fun x66 e_x66 => ?_)
            have e_x66 : x66 = nI ((108 - (108 * b1)) + U2.length) := e_x66.trans (nI_add (108 - (108 * b1)) U2.length)
            subst e_x66
            rw [show 108 - 108 * b1 = 108 * b2 by omega]
            refine lv_icmp_ge (tgt := 94) cx.x cx.b d_Mo_lost_70 (by decide) (fun c2 => ?_) (fun c2 => ?_)
            · have c2 : (108 * b2 + U2.length) ≤ (108 * b2 + j1) := (nI_leI (a := (108 * b2 + U2.length)) (b := (108 * b2 + j1)) (by omega) (by omega)).mp c2
              rw [show j1 = U2.length by omega] at hl
              unfold lsU at hn
              rcases hls : lsI (U.getD t1 default).1.1 U2 U2.length with _ | k2
              · rw [hls] at hl hn
                have hl : lv_has ls 8 [(7, .int (nI (108 * b2 + U2.length))), (6, .int (-1)), (5, .int (nI (108 * b1 + t1))), (4, .int (nI t1)), (3, .int (nI n1)), (0, .ref a), (2, .int (nI b1))] := hl
                have hn : n1 + (1 + (U.getD t1 default).2.length + ((U.drop (t1 + 1)).map (lsU (decide (g.1 3 0 = g.1 3 1)) U2)).sum) = G := hn
                refine lv_iload cx.x cx.b d_Mo_lost_94 (lv_at hl 1 rfl) ?_
                refine lv_if_lt (tgt := 110) cx.x cx.b d_Mo_lost_96 (by decide) (fun _ => ?_) (fun c => absurd (by decide) c)
                obtain ⟨x72, e_x72⟩ : ∃ y : Int32, y = nI n1 + 1 := ⟨_, rfl⟩
                refine lv_iinc (v := x72) (lv' := [(3, .int x72), (7, .int (nI (108 * b2 + U2.length))), (6, .int (-1)), (5, .int (nI (108 * b1 + t1))), (4, .int (nI t1)), (0, .ref a), (2, .int (nI b1))]) cx.x cx.b d_Mo_lost_110 hl (k := 4) rfl (by rw [e_x72]; rfl) (by decide) rfl (fun ls hl => ?_)
                have e_x72 : x72 = nI (n1 + 1) := e_x72.trans (nI_add n1 1)
                subst e_x72
                refine lv_iload_n cx.x cx.b d_Mo_lost_113 rfl (lv_at hl 0 rfl) ?_
                refine lv_aload_n cx.x cx.b d_Mo_lost_114 rfl (lv_at hl 5 rfl) ?_
                refine lv_iload cx.x cx.b d_Mo_lost_115 (lv_at hl 3 rfl) ?_
                refine lv_iload cx.x cx.b d_Mo_lost_117 (lv_at hl 2 rfl) ?_
                refine hx_calli (iv_Mo_242_Mo cx (c_Mo_lostOf0 l hE M hb1 hU c1) M0.1.1 rfl hl.1 rfl (Nat.le_of_ble_eq_true rfl) d_Mo_lost_119 ⟨Nat.le_of_ble_eq_true rfl, Nat.le_of_ble_eq_true rfl⟩ ⟨Nat.le_of_ble_eq_true rfl, Nat.le_of_ble_eq_true rfl⟩) hlo (fun _ h => h) (fun r75 H74 locs hp73 hlo => ?_)
                obtain ⟨hp73, hH9⟩ := hp73
                have hH9 := hH9.symm
                subst hH9
                subst hp73
                refine lv_iadd cx.x cx.b d_Mo_lost_122 ?_
                refine lv_topi (fun x76 e_x76 => ?_)
                have e_x76 : x76 = nI ((n1 + 1) + ((U.getD t1 default).2.length)) := e_x76.trans (nI_add (n1 + 1) ((U.getD t1 default).2.length))
                subst e_x76
                refine lv_istore_n (lv' := [(3, .int (nI ((n1 + 1) + ((U.getD t1 default).2.length)))), (7, .int (nI (108 * b2 + U2.length))), (6, .int (-1)), (5, .int (nI (108 * b1 + t1))), (4, .int (nI t1)), (0, .ref a), (2, .int (nI b1))]) cx.x cx.b d_Mo_lost_123 rfl hl (by decide) rfl (fun ls hl => ?_)
                obtain ⟨x77, e_x77⟩ : ∃ y : Int32, y = nI t1 + 1 := ⟨_, rfl⟩
                refine lv_iinc (v := x77) (lv' := [(4, .int x77), (3, .int (nI ((n1 + 1) + ((U.getD t1 default).2.length)))), (7, .int (nI (108 * b2 + U2.length))), (6, .int (-1)), (5, .int (nI (108 * b1 + t1))), (0, .ref a), (2, .int (nI b1))]) cx.x cx.b d_Mo_lost_124 hl (k := 4) rfl (by rw [e_x77]; rfl) (by decide) rfl (fun ls hl => ?_)
                have e_x77 : x77 = nI (t1 + 1) := e_x77.trans (nI_add t1 1)
                subst e_x77
                refine lv_goto (tgt := 20) cx.x cx.b d_Mo_lost_127 (by decide) ?_
                exact ihO _ (t1 + 1) (n1 + 1 + (U.getD t1 default).2.length) hlo (by omega) (by omega) (by omega) _ (lv_sub hl [0, 1, 5, 6] rfl)
              · rw [hls] at hl hn
                have hl : lv_has ls 8 [(7, .int (nI (108 * b2 + U2.length))), (6, .int (nI (108 * b2 + k2))), (5, .int (nI (108 * b1 + t1))), (4, .int (nI t1)), (3, .int (nI n1)), (0, .ref a), (2, .int (nI b1))] := hl
                obtain ⟨hk2, hz2⟩ := lsI_some hls
                have hn : n1 + ((if alk2 (decide (g.1 3 0 = g.1 3 1)) (U.getD t1 default).1 (U2.getD k2 default).1 = true then 0 else 1) + lsM (decide (g.1 3 0 = g.1 3 1)) (srtM (U2.getD k2 default).2) (srtM (U.getD t1 default).2) + ((U.drop (t1 + 1)).map (lsU (decide (g.1 3 0 = g.1 3 1)) U2)).sum) = G := hn
                refine lv_iload cx.x cx.b d_Mo_lost_94 (lv_at hl 1 rfl) ?_
                refine lv_if_lt (tgt := 110) cx.x cx.b d_Mo_lost_96 (by decide) (fun c => absurd c (nI_pos (by omega))) (fun _ => ?_)
                refine lv_aload_n cx.x cx.b d_Mo_lost_99 rfl (lv_at hl 5 rfl) ?_
                refine lv_iload cx.x cx.b d_Mo_lost_100 (lv_at hl 2 rfl) ?_
                refine lv_iload cx.x cx.b d_Mo_lost_102 (lv_at hl 1 rfl) ?_
                refine hx_calli (iv_Mo_239_Mo cx (c_Mo_alike l hE M hf0 hf1 (r1 := 108 * b1 + t1) (s1 := 108 * b2 + k2) (by omega) (by omega) (hU.2.2 t1 c1).1 (hU2.2.2 k2 hk2).1) M0.1.1 rfl hl.1 rfl (Nat.le_of_ble_eq_true rfl) d_Mo_lost_104 ⟨Nat.le_of_ble_eq_true rfl, Nat.le_of_ble_eq_true rfl⟩ ⟨Nat.le_of_ble_eq_true rfl, Nat.le_of_ble_eq_true rfl⟩) hlo (fun _ h => h) (fun r80 H79 locs hp78 hlo => ?_)
                obtain ⟨hp78, hH9⟩ := hp78
                have hH9 := hH9.symm
                subst hH9
                subst hp78
                rcases hal : alk2 (decide (g.1 3 0 = g.1 3 1)) (U.getD t1 default).1 (U2.getD k2 default).1
                · rw [hal, if_neg (by decide)] at hn
                  refine lv_if_ne (tgt := 113) cx.x cx.b d_Mo_lost_107 (by decide) (fun c => absurd (by decide) c) (fun _ => ?_)
                  obtain ⟨x81, e_x81⟩ : ∃ y : Int32, y = nI n1 + 1 := ⟨_, rfl⟩
                  refine lv_iinc (v := x81) (lv' := [(3, .int x81), (7, .int (nI (108 * b2 + U2.length))), (6, .int (nI (108 * b2 + k2))), (5, .int (nI (108 * b1 + t1))), (4, .int (nI t1)), (0, .ref a), (2, .int (nI b1))]) cx.x cx.b d_Mo_lost_110 hl (k := 4) rfl (by rw [e_x81]; rfl) (by decide) rfl (fun ls hl => ?_)
                  have e_x81 : x81 = nI (n1 + 1) := e_x81.trans (nI_add n1 1)
                  subst e_x81
                  refine lv_iload_n cx.x cx.b d_Mo_lost_113 rfl (lv_at hl 0 rfl) ?_
                  refine lv_aload_n cx.x cx.b d_Mo_lost_114 rfl (lv_at hl 5 rfl) ?_
                  refine lv_iload cx.x cx.b d_Mo_lost_115 (lv_at hl 3 rfl) ?_
                  refine lv_iload cx.x cx.b d_Mo_lost_117 (lv_at hl 2 rfl) ?_
                  refine hx_calli (iv_Mo_242_Mo cx (c_Mo_lostOf1 l hE M hf0 hf1 hb1 hU c1 (show b2 < 2 by omega) hU2 hk2 (hd1 _ (mem_getDU.mpr ⟨t1, c1, rfl⟩)) (hd2 _ (mem_getDU.mpr ⟨k2, hk2, rfl⟩))) M0.1.1 rfl hl.1 rfl (Nat.le_of_ble_eq_true rfl) d_Mo_lost_119 ⟨Nat.le_of_ble_eq_true rfl, Nat.le_of_ble_eq_true rfl⟩ ⟨Nat.le_of_ble_eq_true rfl, Nat.le_of_ble_eq_true rfl⟩) hlo (fun _ h => h) (fun r84 H83 locs hp82 hlo => ?_)
                  obtain ⟨hp82, hH9⟩ := hp82
                  have hH9 := hH9.symm
                  subst hH9
                  subst hp82
                  refine lv_iadd cx.x cx.b d_Mo_lost_122 ?_
                  refine lv_topi (fun x85 e_x85 => ?_)
                  have e_x85 : x85 = nI ((n1 + 1) + (lsM (decide (g.1 3 0 = g.1 3 1)) (srtM (U2.getD k2 default).2) (srtM (U.getD t1 default).2))) := e_x85.trans (nI_add (n1 + 1) (lsM (decide (g.1 3 0 = g.1 3 1)) (srtM (U2.getD k2 default).2) (srtM (U.getD t1 default).2)))
                  subst e_x85
                  refine lv_istore_n (lv' := [(3, .int (nI ((n1 + 1) + (lsM (decide (g.1 3 0 = g.1 3 1)) (srtM (U2.getD k2 default).2) (srtM (U.getD t1 default).2))))), (7, .int (nI (108 * b2 + U2.length))), (6, .int (nI (108 * b2 + k2))), (5, .int (nI (108 * b1 + t1))), (4, .int (nI t1)), (0, .ref a), (2, .int (nI b1))]) cx.x cx.b d_Mo_lost_123 rfl hl (by decide) rfl (fun ls hl => ?_)
                  obtain ⟨x86, e_x86⟩ : ∃ y : Int32, y = nI t1 + 1 := ⟨_, rfl⟩
                  refine lv_iinc (v := x86) (lv' := [(4, .int x86), (3, .int (nI ((n1 + 1) + (lsM (decide (g.1 3 0 = g.1 3 1)) (srtM (U2.getD k2 default).2) (srtM (U.getD t1 default).2))))), (7, .int (nI (108 * b2 + U2.length))), (6, .int (nI (108 * b2 + k2))), (5, .int (nI (108 * b1 + t1))), (0, .ref a), (2, .int (nI b1))]) cx.x cx.b d_Mo_lost_124 hl (k := 4) rfl (by rw [e_x86]; rfl) (by decide) rfl (fun ls hl => ?_)
                  have e_x86 : x86 = nI (t1 + 1) := e_x86.trans (nI_add t1 1)
                  subst e_x86
                  refine lv_goto (tgt := 20) cx.x cx.b d_Mo_lost_127 (by decide) ?_
                  exact ihO _ (t1 + 1) (n1 + 1 + lsM (decide (g.1 3 0 = g.1 3 1)) (srtM (U2.getD k2 default).2) (srtM (U.getD t1 default).2)) hlo (by omega) (by omega) (by omega) _ (lv_sub hl [0, 1, 5, 6] rfl)
                · rw [hal, if_pos rfl] at hn
                  refine lv_if_ne (tgt := 113) cx.x cx.b d_Mo_lost_107 (by decide) (fun _ => ?_) (fun c => absurd c (by decide))
                  refine lv_iload_n cx.x cx.b d_Mo_lost_113 rfl (lv_at hl 4 rfl) ?_
                  refine lv_aload_n cx.x cx.b d_Mo_lost_114 rfl (lv_at hl 5 rfl) ?_
                  refine lv_iload cx.x cx.b d_Mo_lost_115 (lv_at hl 2 rfl) ?_
                  refine lv_iload cx.x cx.b d_Mo_lost_117 (lv_at hl 1 rfl) ?_
                  refine hx_calli (iv_Mo_242_Mo cx (c_Mo_lostOf1 l hE M hf0 hf1 hb1 hU c1 (show b2 < 2 by omega) hU2 hk2 (hd1 _ (mem_getDU.mpr ⟨t1, c1, rfl⟩)) (hd2 _ (mem_getDU.mpr ⟨k2, hk2, rfl⟩))) M0.1.1 rfl hl.1 rfl (Nat.le_of_ble_eq_true rfl) d_Mo_lost_119 ⟨Nat.le_of_ble_eq_true rfl, Nat.le_of_ble_eq_true rfl⟩ ⟨Nat.le_of_ble_eq_true rfl, Nat.le_of_ble_eq_true rfl⟩) hlo (fun _ h => h) (fun r89 H88 locs hp87 hlo => ?_)
                  obtain ⟨hp87, hH9⟩ := hp87
                  have hH9 := hH9.symm
                  subst hH9
                  subst hp87
                  refine lv_iadd cx.x cx.b d_Mo_lost_122 ?_
                  refine lv_topi (fun x90 e_x90 => ?_)
                  have e_x90 : x90 = nI (n1 + (lsM (decide (g.1 3 0 = g.1 3 1)) (srtM (U2.getD k2 default).2) (srtM (U.getD t1 default).2))) := e_x90.trans (nI_add n1 (lsM (decide (g.1 3 0 = g.1 3 1)) (srtM (U2.getD k2 default).2) (srtM (U.getD t1 default).2)))
                  subst e_x90
                  refine lv_istore_n (lv' := [(3, .int (nI (n1 + (lsM (decide (g.1 3 0 = g.1 3 1)) (srtM (U2.getD k2 default).2) (srtM (U.getD t1 default).2))))), (7, .int (nI (108 * b2 + U2.length))), (6, .int (nI (108 * b2 + k2))), (5, .int (nI (108 * b1 + t1))), (4, .int (nI t1)), (0, .ref a), (2, .int (nI b1))]) cx.x cx.b d_Mo_lost_123 rfl hl (by decide) rfl (fun ls hl => ?_)
                  obtain ⟨x91, e_x91⟩ : ∃ y : Int32, y = nI t1 + 1 := ⟨_, rfl⟩
                  refine lv_iinc (v := x91) (lv' := [(4, .int x91), (3, .int (nI (n1 + (lsM (decide (g.1 3 0 = g.1 3 1)) (srtM (U2.getD k2 default).2) (srtM (U.getD t1 default).2))))), (7, .int (nI (108 * b2 + U2.length))), (6, .int (nI (108 * b2 + k2))), (5, .int (nI (108 * b1 + t1))), (0, .ref a), (2, .int (nI b1))]) cx.x cx.b d_Mo_lost_124 hl (k := 4) rfl (by rw [e_x91]; rfl) (by decide) rfl (fun ls hl => ?_)
                  have e_x91 : x91 = nI (t1 + 1) := e_x91.trans (nI_add t1 1)
                  subst e_x91
                  refine lv_goto (tgt := 20) cx.x cx.b d_Mo_lost_127 (by decide) ?_
                  exact ihO _ (t1 + 1) (n1 + lsM (decide (g.1 3 0 = g.1 3 1)) (srtM (U2.getD k2 default).2) (srtM (U.getD t1 default).2)) hlo (by omega) (by omega) (by omega) _ (lv_sub hl [0, 1, 5, 6] rfl)
            · have c2 : (108 * b2 + j1) < (108 * b2 + U2.length) := Nat.not_le.mp (fun zz => c2 ((nI_leI (a := (108 * b2 + U2.length)) (b := (108 * b2 + j1)) (by omega) (by omega)).mpr zz))
              have c2 : j1 < U2.length := by omega
              refine lv_aload_n cx.x cx.b d_Mo_lost_73 rfl (lv_at hl 5 rfl) ?_
              refine lv_iload cx.x cx.b d_Mo_lost_74 (lv_at hl 2 rfl) ?_
              refine lv_iload cx.x cx.b d_Mo_lost_76 (lv_at hl 0 rfl) ?_
              refine hx_calli (iv_Mo_152_Mo cx (c_Mo_compareNames l hE M (r1 := 108 * b1 + t1) (s1 := 108 * b2 + j1) (by omega) (by omega) (hU.2.2 t1 c1).1.1 (hU2.2.2 j1 c2).1.1) M0.1.1 rfl hl.1 rfl (Nat.le_of_ble_eq_true rfl) d_Mo_lost_78 ⟨Nat.le_of_ble_eq_true rfl, Nat.le_of_ble_eq_true rfl⟩ ⟨Nat.le_of_ble_eq_true rfl, Nat.le_of_ble_eq_true rfl⟩) hlo (fun _ h => h) (fun r69 H68 locs hp67 hlo => ?_)
              obtain ⟨hp67, hH9⟩ := hp67
              have hH9 := hH9.symm
              subst hH9
              refine lv_if_ne (tgt := 88) cx.x cx.b d_Mo_lost_81 (by decide) (fun c3 => ?_) (fun c3 => ?_)
              · have c3 : cmpL (U.getD t1 default).1.1 (U2.getD j1 default).1.1 ≠ 0 := fun z => c3 ((cmpI_z hp67).mpr z)
                have hs9 : lsI (U.getD t1 default).1.1 U2 (j1 + 1) = lsI (U.getD t1 default).1.1 U2 j1 := if_neg c3
                rw [← hs9] at hl
                obtain ⟨x70, e_x70⟩ : ∃ y : Int32, y = nI (108 * b2 + j1) + 1 := ⟨_, rfl⟩
                refine lv_iinc (v := x70) (lv' := [(7, .int x70), (6, .int (sV (108 * b2) (lsI (U.getD t1 default).1.1 U2 (j1 + 1)))), (5, .int (nI (108 * b1 + t1))), (4, .int (nI t1)), (3, .int (nI n1)), (0, .ref a), (2, .int (nI b1))]) cx.x cx.b d_Mo_lost_88 hl (k := 0) rfl (by rw [e_x70]; rfl) (by decide) rfl (fun ls hl => ?_)
                have e_x70 : x70 = nI ((108 * b2 + j1) + 1) := e_x70.trans (nI_add (108 * b2 + j1) 1)
                subst e_x70
                refine lv_goto (tgt := 52) cx.x cx.b d_Mo_lost_91 (by decide) ?_
                exact ih _ (j1 + 1) hlo (by omega) (by omega) _ (lv_sub hl [0, 1, 2, 3, 4, 5, 6] rfl)
              · have c3 : cmpL (U.getD t1 default).1.1 (U2.getD j1 default).1.1 = 0 := (cmpI_z hp67).mp c3
                have hs9 : lsI (U.getD t1 default).1.1 U2 (j1 + 1) = some j1 := if_pos c3
                refine lv_iload cx.x cx.b d_Mo_lost_84 (lv_at hl 0 rfl) ?_
                refine lv_istore (lv' := [(6, .int (nI (108 * b2 + j1))), (7, .int (nI (108 * b2 + j1))), (5, .int (nI (108 * b1 + t1))), (4, .int (nI t1)), (3, .int (nI n1)), (0, .ref a), (2, .int (nI b1))]) cx.x cx.b d_Mo_lost_86 hl (by decide) rfl (fun ls hl => ?_)
                obtain ⟨x71, e_x71⟩ : ∃ y : Int32, y = nI (108 * b2 + j1) + 1 := ⟨_, rfl⟩
                refine lv_iinc (v := x71) (lv' := [(7, .int x71), (6, .int (nI (108 * b2 + j1))), (5, .int (nI (108 * b1 + t1))), (4, .int (nI t1)), (3, .int (nI n1)), (0, .ref a), (2, .int (nI b1))]) cx.x cx.b d_Mo_lost_88 hl (k := 1) rfl (by rw [e_x71]; rfl) (by decide) rfl (fun ls hl => ?_)
                have e_x71 : x71 = nI ((108 * b2 + j1) + 1) := e_x71.trans (nI_add (108 * b2 + j1) 1)
                subst e_x71
                refine lv_goto (tgt := 52) cx.x cx.b d_Mo_lost_91 (by decide) ?_
                exact ih _ (j1 + 1) hlo (by omega) (by omega) _ (by rw [hs9]; exact lv_sub hl [0, 1, 2, 3, 4, 5, 6] rfl)
        exact LI _ _ 0 hlo (Nat.lt_succ_self _) (Nat.zero_le _) _ (lv_sub hl [0, 1, 2, 3, 4, 5, 6] rfl)
  exact LP _ _ 0 0 hlo (Nat.lt_succ_self _) (Nat.zero_le _) hG _ (lv_sub hl [0, 1, 3, 2] rfl)
