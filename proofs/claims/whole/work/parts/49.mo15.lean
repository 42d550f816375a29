/-- a line asked for: whether there is one, what is written -/
def LnO (L : Option (List Nat)) (r : Int32) (f : Nat → Nat) (n : Nat) : Prop := match L with
  | none => r = 0 ∧ n = 0
  | some x => r = 1 ∧ OutR f n x
theorem dcl_drop {C : List TU} {t : Nat} (h : t < C.length) : dcl (C.drop t) = (false, (C.getD t default).1) :: ((C.getD t default).2.map (fun d => (true, d)) ++ dcl (C.drop (t + 1))) := by
  unfold dcl
  rw [List.drop_eq_getElem_cons h, List.flatMap_cons, List.getD_eq_getElem?_getD, List.getElem?_eq_getElem h]
  rfl
theorem dcl_0 {C : List TU} {t : Nat} (h : t < C.length) : (dcl (C.drop t))[0]? = some (false, (C.getD t default).1) := by rw [dcl_drop h]; rfl
theorem dcl_m {C : List TU} {t i : Nat} (h : t < C.length) (hi : i < (C.getD t default).2.length) : (dcl (C.drop t))[i + 1]? = some (true, (C.getD t default).2.getD i default) := by
  rw [dcl_drop h, List.getElem?_cons_succ, List.getElem?_append_left (by rw [List.length_map]; exact hi), List.getElem?_map, getD_some (d := default) hi]; rfl
theorem dcl_n {C : List TU} {t i : Nat} (h : t < C.length) (hi : (C.getD t default).2.length < i) : (dcl (C.drop t))[i]? = (dcl (C.drop (t + 1)))[i - (1 + (C.getD t default).2.length)]? := by
  rw [dcl_drop h, show i = (i - 1) + 1 by omega, List.getElem?_cons_succ, List.getElem?_append_right (by rw [List.length_map]; omega), List.length_map]
  congr 1
  omega
theorem lns_0 (fm : Nat) (C : List TU) : (lns fm C)[0]? = some (strL 0 ++ [32] ++ [48 + fm]) := rfl
theorem lns_s (fm : Nat) (C : List TU) (n : Nat) : (lns fm C)[n + 1]? = ((dcl C)[n]?).map (lnT fm) := by
  unfold lns
  rw [List.getElem?_cons_succ, List.getElem?_map]
theorem modr {b x : Nat} (h : x < 108) : (108 * b + x) % 108 = x := by rw [Nat.mul_add_mod, Nat.mod_eq_of_lt h]
theorem tyC_in {C : List TU} {t : Nat} (h : t < C.length) : tyC C (t : Int) = some (C.getD t default) := by
  unfold tyC
  rw [if_pos ⟨by omega, by omega⟩]; rfl
set_option maxHeartbeats 4000000 in
set_option maxRecDepth 100000 in
theorem c_Mo_lineOf (l : Launch) {E : hE} (hE : EnvOk E) {H : Heap} {a : Nat} {ad : Nat → Nat} {g : MS} (M : Mo E H a ad g) {b1 : Nat} {U C : List TU} (hb1 : b1 < 2) (hU : Rows g.1 b1 U) (hC : Srt C U) (hI : UInv U) (hfm : g.1 3 b1 < 10) {n1 : Nat} (hn1 : n1 < 1000) : Ct l E y_Mo_lineOf b_Mo_lineOf 6 (some .boolean) (rmA 3 0 0) [.ref a, .int (nI b1), .int (nI n1)] H (hQi (fun r H1 => ∃ (o9 : Nat → Nat) (n9 : Nat), Mw E H H1 a ad (up g.1 12 o9, up g.2 11 n9) ∧ LnO (lns (g.1 3 b1) C)[n1]? r o9 n9)) := by
  refine hx_enter hE (by decide) (Nat.le_of_ble_eq_true rfl) ?_
  intro p e s m args below meth c ls cx hnm hl
  have hl : lv_has ls 6 [(0, .ref a), (1, .int (nI b1)), (2, .int (nI n1))] := hl
  have hlo : hLo (eB E) [] := hLo.nil
  generalize hQ : MQ below _ args s _ _ _ = Q
  have M0 : Mw E H H a ad g := ⟨M, hCh.rf, rfl⟩
  have hl12 := hU.2.1
  have hCl := hC.len
  refine lv_aload_n cx.x cx.b d_Mo_lineOf_0 rfl (lv_at hl 0 rfl) ?_
  refine lv_iconst (v := 0) cx.x cx.b d_Mo_lineOf_1 (by decide) ?_
  refine pf_Mo_195_Mo cx M0.1.1 hlo M0.1.2.2.1 (Nat.le_of_ble_eq_true rfl) d_Mo_lineOf_2 (fun H1 locs ho2 z_H1 o_H1 hlo => ?_)
  have ho2 : hOb (eD E) classes H1 a 10 [.ref (ad 0), .int (nI (g.2 0)), .ref (ad 1), .int (nI (g.2 1)), .int (nI (g.2 2)), .ref (ad 2), .ref (ad 3), .ref (ad 4), .ref (ad 5), .ref (ad 6), .ref (ad 7), .ref (ad 8), .ref (ad 9), .ref (ad 10), .int (nI (g.2 3)), .int (nI (g.2 4)), .int (nI (g.2 5)), .int (nI (g.2 6)), .int (nI (g.2 7)), .ref (ad 11), .int (nI (g.2 8)), .int (nI (g.2 9)), .int (nI (g.2 10)), .ref (ad 12), .int 0, .ref (ad 13)] := ho2
  have M3 : Mw E H H1 a ad (g.1, up g.2 11 0) := M0.sc (g.1, up g.2 11 0) ho2 z_H1 o_H1 rfl
  have oM4 : hOb (eD E) classes H1 a 10 [.ref (ad 0), .int (nI (g.2 0)), .ref (ad 1), .int (nI (g.2 1)), .int (nI (g.2 2)), .ref (ad 2), .ref (ad 3), .ref (ad 4), .ref (ad 5), .ref (ad 6), .ref (ad 7), .ref (ad 8), .ref (ad 9), .ref (ad 10), .int (nI (g.2 3)), .int (nI (g.2 4)), .int (nI (g.2 5)), .int (nI (g.2 6)), .int (nI (g.2 7)), .ref (ad 11), .int (nI (g.2 8)), .int (nI (g.2 9)), .int (nI (g.2 10)), .ref (ad 12), .int (nI 0), .ref (ad 13)] := M3.1.1
  refine lv_iload_n cx.x cx.b d_Mo_lineOf_5 rfl (lv_at hl 2 rfl) ?_
  refine lv_if_ne (tgt := 31) cx.x cx.b d_Mo_lineOf_6 (by decide) (fun c1 => ?_) (fun c1 => ?_)
  · have c1 : n1 ≠ 0 := fun zz => c1 ((nI_eq (a := n1) (b := 0) (by omega) (by omega)).mpr zz)
    obtain ⟨m1, rfl⟩ : ∃ m1, n1 = m1 + 1 := ⟨n1 - 1, by omega⟩
    rw [lns_s] at hQ
    refine lv_iload_n cx.x cx.b d_Mo_lineOf_31 rfl (lv_at hl 2 rfl) ?_
    refine lv_iconst (v := 1) cx.x cx.b d_Mo_lineOf_32 (by decide) ?_
    refine lv_isub cx.x cx.b d_Mo_lineOf_33 ?_
    refine lv_topi (fun x17 e_x17 => ?_)
    have e_x17 : x17 = nI ((m1 + 1) - 1) := e_x17.trans (pk_sub (a := (m1 + 1)) (b := 1) (by omega))
    subst e_x17
    rw [show m1 + 1 - 1 = m1 from rfl]
    refine lv_istore_n (lv' := [(3, .int (nI m1)), (0, .ref a), (1, .int (nI b1)), (2, .int (nI (m1 + 1)))]) cx.x cx.b d_Mo_lineOf_34 rfl hl (by decide) rfl (fun ls hl => ?_)
    refine lv_iconst (v := 0) cx.x cx.b d_Mo_lineOf_35 (by decide) ?_
    refine lv_istore (lv' := [(4, .int 0), (3, .int (nI m1)), (0, .ref a), (1, .int (nI b1)), (2, .int (nI (m1 + 1)))]) cx.x cx.b d_Mo_lineOf_36 hl (by decide) rfl (fun ls hl => ?_)
    generalize hD : (dcl C)[m1]? = D9 at hQ
    have hD : (dcl (C.drop 0))[m1]? = D9 := by rw [List.drop_zero]; exact hD
    have LP : ∀ (k : Nat) (locs : List Loc) (t1 l1 : Nat), hLo (eB E) locs → (U.length - t1 < k) → (t1 ≤ U.length) → (l1 < 1000) → ((dcl (C.drop t1))[l1]? = D9) → ∀ ls, lv_has ls 6 [(4, .int (nI t1)), (3, .int (nI l1)), (0, .ref a), (1, .int (nI b1))] → W p l e (rmA 3 0 0) s m args below meth c H1 locs 0 0 Q (F0 m 38 ls []) := by
      intro k
      induction k with
      | zero => intro locs t1 l1 hlo hk ht1 hl1 hD; exact absurd hk (by omega)
      | succ k ih =>
        intro locs t1 l1 hlo hk ht1 hl1 hD ls hl
        refine lv_iload cx.x cx.b d_Mo_lineOf_38 (lv_at hl 0 rfl) ?_
        refine lv_aload_n cx.x cx.b d_Mo_lineOf_40 rfl (lv_at hl 2 rfl) ?_
        refine gf_Mo_16_Mo cx oM4 rfl d_Mo_lineOf_41 ?_
        refine lv_iload_n cx.x cx.b d_Mo_lineOf_44 rfl (lv_at hl 3 rfl) ?_
        refine hx_iald cx.x cx.b cx.K 0 (M3.1.2.1 2 (by decide)) rfl (show vp_in (nI b1) 2 from vp_in_nI (show b1 < 2 by omega) (by decide)) d_Mo_lineOf_45 ?_
        refine lv_topi (fun x18 e_x18 => ?_)
        have e_x18 : x18 = nI U.length := e_x18.trans (congrArg nI ((congrArg (g.1 2) (nI_clamp (n := b1) (by omega))).trans (hU.1)))
        subst e_x18
        refine lv_icmp_ge (tgt := 115) cx.x cx.b d_Mo_lineOf_46 (by decide) (fun c2 => ?_) (fun c2 => ?_)
        · have c2 : U.length ≤ t1 := (nI_leI (a := U.length) (b := t1) (by omega) (by omega)).mp c2
          rw [List.drop_eq_nil_of_le (by omega)] at hD
          have hD : none = D9 := hD
          subst hD
          refine lv_iconst (v := 0) cx.x cx.b d_Mo_lineOf_115 (by decide) ?_
          rw [← hQ]
          exact hx_reti cx.x cx.b cx.r cx.k rfl hlo (fun _ h => h) (Nat.le_of_ble_eq_true rfl) (Nat.le_of_ble_eq_true rfl) d_Mo_lineOf_116 (⟨g.1 12, 0, Mw.cg M3 rfl rfl rfl rfl rfl rfl rfl rfl rfl rfl rfl rfl rfl rfl rfl rfl rfl rfl rfl rfl rfl rfl rfl rfl rfl rfl, rfl, rfl⟩)
        · have c2 : t1 < U.length := Nat.not_le.mp (fun zz => c2 ((nI_leI (a := U.length) (b := t1) (by omega) (by omega)).mpr zz))
          refine lv_aload_n cx.x cx.b d_Mo_lineOf_49 rfl (lv_at hl 2 rfl) ?_
          refine lv_iload_n cx.x cx.b d_Mo_lineOf_50 rfl (lv_at hl 3 rfl) ?_
          refine lv_iload cx.x cx.b d_Mo_lineOf_51 (lv_at hl 0 rfl) ?_
          refine hx_calli (iv_Mo_217_Mo cx (c_Mo_typeRow l hE M3.1 (b1 := b1) hb1 hU hC (nI t1)) oM4 rfl hl.1 rfl (Nat.le_of_ble_eq_true rfl) d_Mo_lineOf_53 ⟨Nat.le_of_ble_eq_true rfl, Nat.le_of_ble_eq_true rfl⟩ ⟨Nat.le_of_ble_eq_true rfl, Nat.le_of_ble_eq_true rfl⟩) hlo (fun _ h => h) (fun r21 H20 locs hp19 hlo => ?_)
          obtain ⟨hp19, hH9⟩ := hp19
          have hH9 := hH9.symm
          subst hH9
          rw [nI_toInt (by omega), tyC_in (by omega)] at hp19
          obtain ⟨k1, hk1, hc1, hp19⟩ := hp19
          subst hp19
          obtain ⟨u1, u2, u3, u4⟩ := hU.2.2 k1 hk1
          have hm9 : U.getD k1 default ∈ U := mem_getDU.mpr ⟨k1, hk1, rfl⟩
          obtain ⟨ok1, ok2⟩ := hI.2.2.2 _ hm9
          have hcl : (C.getD t1 default).2.length = (U.getD k1 default).2.length := by rw [hc1]; exact (srtM_perm _).length_eq
          refine lv_istore (lv' := [(5, .int (nI (108 * b1 + k1))), (4, .int (nI t1)), (3, .int (nI l1)), (0, .ref a), (1, .int (nI b1))]) cx.x cx.b d_Mo_lineOf_56 hl (by decide) rfl (fun ls hl => ?_)
          refine lv_iload_n cx.x cx.b d_Mo_lineOf_58 rfl (lv_at hl 2 rfl) ?_
          refine lv_aload_n cx.x cx.b d_Mo_lineOf_59 rfl (lv_at hl 3 rfl) ?_
          refine lv_iload cx.x cx.b d_Mo_lineOf_60 (lv_at hl 0 rfl) ?_
          refine hx_calli (iv_Mo_192_Mo cx (c_Mo_count l hE M3.1 (b := b1) (t := k1) hb1 (by omega)) oM4 rfl hl.1 rfl (Nat.le_of_ble_eq_true rfl) d_Mo_lineOf_62 ⟨Nat.le_of_ble_eq_true rfl, Nat.le_of_ble_eq_true rfl⟩ ⟨Nat.le_of_ble_eq_true rfl, Nat.le_of_ble_eq_true rfl⟩) hlo (fun _ h => h) (fun r24 H23 locs hp22 hlo => ?_)
          obtain ⟨hp22, hH9⟩ := hp22
          have hH9 := hH9.symm
          subst hH9
          subst hp22
          rw [u2]
          refine lv_icmp_gt (tgt := 98) cx.x cx.b d_Mo_lineOf_65 (by decide) (fun c3 => ?_) (fun c3 => ?_)
          · have c3 : ((U.getD k1 default).2.length) < l1 := (nI_ltI (a := ((U.getD k1 default).2.length)) (b := l1) (by omega) (by omega)).mp c3
            rw [dcl_n (by omega) (by omega), hcl] at hD
            refine lv_iload_n cx.x cx.b d_Mo_lineOf_98 rfl (lv_at hl 2 rfl) ?_
            refine lv_iconst (v := 1) cx.x cx.b d_Mo_lineOf_99 (by decide) ?_
            refine lv_aload_n cx.x cx.b d_Mo_lineOf_100 rfl (lv_at hl 3 rfl) ?_
            refine lv_iload cx.x cx.b d_Mo_lineOf_101 (lv_at hl 0 rfl) ?_
            refine hx_calli (iv_Mo_192_Mo cx (c_Mo_count l hE M3.1 (b := b1) (t := k1) hb1 (by omega)) oM4 rfl hl.1 rfl (Nat.le_of_ble_eq_true rfl) d_Mo_lineOf_103 ⟨Nat.le_of_ble_eq_true rfl, Nat.le_of_ble_eq_true rfl⟩ ⟨Nat.le_of_ble_eq_true rfl, Nat.le_of_ble_eq_true rfl⟩) hlo (fun _ h => h) (fun r27 H26 locs hp25 hlo => ?_)
            obtain ⟨hp25, hH9⟩ := hp25
            have hH9 := hH9.symm
            subst hH9
            subst hp25
            rw [u2]
            refine lv_iadd cx.x cx.b d_Mo_lineOf_106 ?_
            refine lv_topi (fun x28 e_x28 => ?_)
            have e_x28 : x28 = nI (1 + ((U.getD k1 default).2.length)) := e_x28.trans (nI_add 1 ((U.getD k1 default).2.length))
            subst e_x28
            refine lv_isub cx.x cx.b d_Mo_lineOf_107 ?_
            refine lv_topi (fun x29 e_x29 => ?_)
            have e_x29 : x29 = nI (l1 - (1 + ((U.getD k1 default).2.length))) := e_x29.trans (pk_sub (a := l1) (b := (1 + ((U.getD k1 default).2.length))) (by omega))
            subst e_x29
            refine lv_istore_n (lv' := [(3, .int (nI (l1 - (1 + ((U.getD k1 default).2.length))))), (5, .int (nI (108 * b1 + k1))), (4, .int (nI t1)), (0, .ref a), (1, .int (nI b1))]) cx.x cx.b d_Mo_lineOf_108 rfl hl (by decide) rfl (fun ls hl => ?_)
            obtain ⟨x30, e_x30⟩ : ∃ y : Int32, y = nI t1 + 1 := ⟨_, rfl⟩
            refine lv_iinc (v := x30) (lv' := [(4, .int x30), (3, .int (nI (l1 - (1 + ((U.getD k1 default).2.length))))), (5, .int (nI (108 * b1 + k1))), (0, .ref a), (1, .int (nI b1))]) cx.x cx.b d_Mo_lineOf_109 hl (k := 2) rfl (by rw [e_x30]; rfl) (by decide) rfl (fun ls hl => ?_)
            have e_x30 : x30 = nI (t1 + 1) := e_x30.trans (nI_add t1 1)
            subst e_x30
            refine lv_goto (tgt := 38) cx.x cx.b d_Mo_lineOf_112 (by decide) ?_
            exact ih _ (t1 + 1) (l1 - (1 + (U.getD k1 default).2.length)) hlo (by omega) (by omega) (by omega) hD _ (lv_sub hl [0, 1, 3, 4] rfl)
          · have c3 : l1 ≤ ((U.getD k1 default).2.length) := Nat.not_lt.mp (fun zz => c3 ((nI_ltI (a := ((U.getD k1 default).2.length)) (b := l1) (by omega) (by omega)).mpr zz))
            refine lv_aload_n cx.x cx.b d_Mo_lineOf_68 rfl (lv_at hl 3 rfl) ?_
            refine lv_iload_n cx.x cx.b d_Mo_lineOf_69 rfl (lv_at hl 2 rfl) ?_
            refine lv_if_ne (tgt := 78) cx.x cx.b d_Mo_lineOf_70 (by decide) (fun c4 => ?_) (fun c4 => ?_)
            · have c4 : l1 ≠ 0 := fun zz => c4 ((nI_eq (a := l1) (b := 0) (by omega) (by omega)).mpr zz)
              obtain ⟨i1, rfl⟩ : ∃ i1, l1 = i1 + 1 := ⟨l1 - 1, by omega⟩
              rw [dcl_m (by omega) (by omega), hc1] at hD
              have hD : some (true, (srtM (U.getD k1 default).2).getD i1 default) = D9 := hD
              subst hD
              refine lv_aload_n cx.x cx.b d_Mo_lineOf_78 rfl (lv_at hl 3 rfl) ?_
              refine lv_iload cx.x cx.b d_Mo_lineOf_79 (lv_at hl 0 rfl) ?_
              refine lv_iload_n cx.x cx.b d_Mo_lineOf_81 rfl (lv_at hl 2 rfl) ?_
              refine lv_iconst (v := 1) cx.x cx.b d_Mo_lineOf_82 (by decide) ?_
              refine lv_isub cx.x cx.b d_Mo_lineOf_83 ?_
              refine lv_topi (fun x35 e_x35 => ?_)
              have e_x35 : x35 = nI ((i1 + 1) - 1) := e_x35.trans (pk_sub (a := (i1 + 1)) (b := 1) (by omega))
              subst e_x35
              rw [show i1 + 1 - 1 = i1 from rfl]
              refine hx_calli (iv_Mo_220_Mo cx (c_Mo_memberRow l hE M3.1 (b1 := b1) (k1 := k1) hb1 hU hk1 (hI.2.2.1 _ hm9) (nI i1)) oM4 rfl hl.1 rfl (Nat.le_of_ble_eq_true rfl) d_Mo_lineOf_84 ⟨Nat.le_of_ble_eq_true rfl, Nat.le_of_ble_eq_true rfl⟩ ⟨Nat.le_of_ble_eq_true rfl, Nat.le_of_ble_eq_true rfl⟩) hlo (fun _ h => h) (fun r38 H37 locs hp36 hlo => ?_)
              obtain ⟨hp36, hH9⟩ := hp36
              have hH9 := hH9.symm
              subst hH9
              rw [nI_toInt (by omega), mbC_in (by rw [(srtM_perm _).length_eq]; omega)] at hp36
              obtain ⟨j2, hj2, hd2, hp36⟩ := hp36
              subst hp36
              rw [hd2] at hQ
              refine lv_aload_n cx.x cx.b d_Mo_lineOf_87 rfl (lv_at hl 3 rfl) ?_
              refine gf_Mo_19_Mo cx oM4 rfl d_Mo_lineOf_88 ?_
              refine lv_iload_n cx.x cx.b d_Mo_lineOf_91 rfl (lv_at hl 4 rfl) ?_
              refine hx_iald cx.x cx.b cx.K 0 (M3.1.2.1 3 (by decide)) rfl (show vp_in (nI b1) 2 from vp_in_nI (show b1 < 2 by omega) (by decide)) d_Mo_lineOf_92 ?_
              refine lv_topi (fun x39 e_x39 => ?_)
              have e_x39 : x39 = nI ((g.1 3) b1) := e_x39.trans (congrArg (fun z9 => nI ((g.1 3) z9)) (nI_clamp (n := b1) (by omega)))
              subst e_x39
              refine hx_callv (iv_Mo_223_Mo cx (c_Mo_rowLine_t l hE M3.1 (show OutR (g.1 12) 0 [] from ⟨rfl, fun i hi => absurd hi (Nat.not_lt_zero i)⟩) (r1 := 108 * b1 + 12 + 8 * k1 + j2) (fm := g.1 3 b1) (x := ((U.getD k1 default).2.getD j2 default)) (by omega) (by rw [show 108 * b1 + 12 + 8 * k1 + j2 = 108 * b1 + (12 + 8 * k1 + j2) by omega, modr (by omega)]; omega) (u4 j2 hj2) (ok2 _ (mem_getDD.mpr ⟨j2, hj2, rfl⟩)) hfm) oM4 rfl hl.1 rfl (Nat.le_of_ble_eq_true rfl) d_Mo_lineOf_93 ⟨Nat.le_of_ble_eq_true rfl, Nat.le_of_ble_eq_true rfl⟩ ⟨Nat.le_of_ble_eq_true rfl, Nat.le_of_ble_eq_true rfl⟩) hlo (fun _ h => h) (fun H41 locs hp40 hlo => ?_)
              obtain ⟨o9, n9, q9, p9⟩ := hp40
              have M9 : Mw E H H41 a ad (up g.1 12 o9, up g.2 11 n9) := Mw.cg (M3.tr q9) rfl rfl rfl rfl rfl rfl rfl rfl rfl rfl rfl rfl rfl rfl rfl rfl rfl rfl rfl rfl rfl rfl rfl rfl rfl rfl
              have oM42 : hOb (eD E) classes H41 a 10 [.ref (ad 0), .int (nI (g.2 0)), .ref (ad 1), .int (nI (g.2 1)), .int (nI (g.2 2)), .ref (ad 2), .ref (ad 3), .ref (ad 4), .ref (ad 5), .ref (ad 6), .ref (ad 7), .ref (ad 8), .ref (ad 9), .ref (ad 10), .int (nI (g.2 3)), .int (nI (g.2 4)), .int (nI (g.2 5)), .int (nI (g.2 6)), .int (nI (g.2 7)), .ref (ad 11), .int (nI (g.2 8)), .int (nI (g.2 9)), .int (nI (g.2 10)), .ref (ad 12), .int (nI n9), .ref (ad 13)] := M9.1.1
              refine lv_iconst (v := 1) cx.x cx.b d_Mo_lineOf_96 (by decide) ?_
              rw [← hQ]
              exact hx_reti cx.x cx.b cx.r cx.k rfl hlo (fun _ h => h) (Nat.le_of_ble_eq_true rfl) (Nat.le_of_ble_eq_true rfl) d_Mo_lineOf_97 (⟨o9, n9, M9, rfl, p9⟩)
            · have c4 : l1 = 0 := (nI_eq (a := l1) (b := 0) (by omega) (by omega)).mp c4
              subst c4
              rw [dcl_0 (by omega), hc1] at hD
              subst hD
              refine lv_iload cx.x cx.b d_Mo_lineOf_73 (lv_at hl 0 rfl) ?_
              refine lv_goto (tgt := 87) cx.x cx.b d_Mo_lineOf_75 (by decide) ?_
              refine lv_aload_n cx.x cx.b d_Mo_lineOf_87 rfl (lv_at hl 3 rfl) ?_
              refine gf_Mo_19_Mo cx oM4 rfl d_Mo_lineOf_88 ?_
              refine lv_iload_n cx.x cx.b d_Mo_lineOf_91 rfl (lv_at hl 4 rfl) ?_
              refine hx_iald cx.x cx.b cx.K 0 (M3.1.2.1 3 (by decide)) rfl (show vp_in (nI b1) 2 from vp_in_nI (show b1 < 2 by omega) (by decide)) d_Mo_lineOf_92 ?_
              refine lv_topi (fun x31 e_x31 => ?_)
              have e_x31 : x31 = nI ((g.1 3) b1) := e_x31.trans (congrArg (fun z9 => nI ((g.1 3) z9)) (nI_clamp (n := b1) (by omega)))
              subst e_x31
              refine hx_callv (iv_Mo_223_Mo cx (c_Mo_rowLine_f l hE M3.1 (show OutR (g.1 12) 0 [] from ⟨rfl, fun i hi => absurd hi (Nat.not_lt_zero i)⟩) (r1 := 108 * b1 + k1) (fm := g.1 3 b1) (x := (U.getD k1 default).1) (by omega) (by rw [modr (by omega)]; omega) u1 ok1 hfm) oM4 rfl hl.1 rfl (Nat.le_of_ble_eq_true rfl) d_Mo_lineOf_93 ⟨Nat.le_of_ble_eq_true rfl, Nat.le_of_ble_eq_true rfl⟩ ⟨Nat.le_of_ble_eq_true rfl, Nat.le_of_ble_eq_true rfl⟩) hlo (fun _ h => h) (fun H33 locs hp32 hlo => ?_)
              obtain ⟨o9, n9, q9, p9⟩ := hp32
              have M9 : Mw E H H33 a ad (up g.1 12 o9, up g.2 11 n9) := Mw.cg (M3.tr q9) rfl rfl rfl rfl rfl rfl rfl rfl rfl rfl rfl rfl rfl rfl rfl rfl rfl rfl rfl rfl rfl rfl rfl rfl rfl rfl
              have oM34 : hOb (eD E) classes H33 a 10 [.ref (ad 0), .int (nI (g.2 0)), .ref (ad 1), .int (nI (g.2 1)), .int (nI (g.2 2)), .ref (ad 2), .ref (ad 3), .ref (ad 4), .ref (ad 5), .ref (ad 6), .ref (ad 7), .ref (ad 8), .ref (ad 9), .ref (ad 10), .int (nI (g.2 3)), .int (nI (g.2 4)), .int (nI (g.2 5)), .int (nI (g.2 6)), .int (nI (g.2 7)), .ref (ad 11), .int (nI (g.2 8)), .int (nI (g.2 9)), .int (nI (g.2 10)), .ref (ad 12), .int (nI n9), .ref (ad 13)] := M9.1.1
              refine lv_iconst (v := 1) cx.x cx.b d_Mo_lineOf_96 (by decide) ?_
              rw [← hQ]
              exact hx_reti cx.x cx.b cx.r cx.k rfl hlo (fun _ h => h) (Nat.le_of_ble_eq_true rfl) (Nat.le_of_ble_eq_true rfl) d_Mo_lineOf_97 (⟨o9, n9, M9, rfl, p9⟩)
    exact LP _ _ 0 m1 hlo (Nat.lt_succ_self _) (Nat.zero_le _) (by omega) hD _ (lv_sub hl [0, 1, 2, 3] rfl)
  · have c1 : n1 = 0 := (nI_eq (a := n1) (b := 0) (by omega) (by omega)).mp c1
    subst c1
    rw [lns_0] at hQ
    refine lv_aload_n cx.x cx.b d_Mo_lineOf_9 rfl (lv_at hl 0 rfl) ?_
    refine lv_ldc2 cx.x cx.b cx.o (cx.ts _ tw_914) d_Mo_lineOf_10 ?_
    rw [show ((75298023 : Int64) : Int64) = lN (wnum (strL 0)) by decide +kernel]
    have hO0 : OutR (g.1 12) 0 [] := ⟨rfl, fun i hi => absurd hi (Nat.not_lt_zero i)⟩
    obtain ⟨s1, s2, s3⟩ := str14 0 (by decide)
    refine hx_callv (iv_Mo_206_Mo cx (c_Mo_say l hE M3.1 hO0 s1 s2 s3 (by decide)) oM4 rfl hl.1 rfl (Nat.le_of_ble_eq_true rfl) d_Mo_lineOf_13 ⟨Nat.le_of_ble_eq_true rfl, Nat.le_of_ble_eq_true rfl⟩ ⟨Nat.le_of_ble_eq_true rfl, Nat.le_of_ble_eq_true rfl⟩) hlo (fun _ h => h) (fun H6 locs hp5 hlo => ?_)
    obtain ⟨o8, n9, q_M7, hP1⟩ := hp5
    have M7 : Mw E H H6 a ad (up g.1 12 o8, up g.2 11 n9) := Mw.cg (M3.tr q_M7) rfl rfl rfl rfl rfl rfl rfl rfl rfl rfl rfl rfl rfl rfl rfl rfl rfl rfl rfl rfl rfl rfl rfl rfl rfl rfl
    have hP1 : OutR o8 n9 ([] ++ (strL 0 ++ [32])) := hP1
    have oM10 : hOb (eD E) classes H6 a 10 [.ref (ad 0), .int (nI (g.2 0)), .ref (ad 1), .int (nI (g.2 1)), .int (nI (g.2 2)), .ref (ad 2), .ref (ad 3), .ref (ad 4), .ref (ad 5), .ref (ad 6), .ref (ad 7), .ref (ad 8), .ref (ad 9), .ref (ad 10), .int (nI (g.2 3)), .int (nI (g.2 4)), .int (nI (g.2 5)), .int (nI (g.2 6)), .int (nI (g.2 7)), .ref (ad 11), .int (nI (g.2 8)), .int (nI (g.2 9)), .int (nI (g.2 10)), .ref (ad 12), .int (nI n9), .ref (ad 13)] := M7.1.1
    have hn5 := hP1.1
    have hn5 : n9 = 5 := hn5
    refine lv_aload_n cx.x cx.b d_Mo_lineOf_16 rfl (lv_at hl 0 rfl) ?_
    refine lv_bipush (v := 48) cx.x cx.b d_Mo_lineOf_17 (by decide) ?_
    refine lv_aload_n cx.x cx.b d_Mo_lineOf_19 rfl (lv_at hl 0 rfl) ?_
    refine gf_Mo_19_Mo cx oM10 rfl d_Mo_lineOf_20 ?_
    refine lv_iload_n cx.x cx.b d_Mo_lineOf_23 rfl (lv_at hl 1 rfl) ?_
    refine hx_iald cx.x cx.b cx.K 0 (M7.1.2.1 3 (by decide)) rfl (show vp_in (nI b1) 2 from vp_in_nI (show b1 < 2 by omega) (by decide)) d_Mo_lineOf_24 ?_
    refine lv_topi (fun x11 e_x11 => ?_)
    have e_x11 : x11 = nI ((g.1 3) b1) := e_x11.trans (congrArg (fun z9 => nI ((g.1 3) z9)) (nI_clamp (n := b1) (by omega)))
    subst e_x11
    refine lv_iadd cx.x cx.b d_Mo_lineOf_25 ?_
    refine lv_topi (fun x12 e_x12 => ?_)
    have e_x12 : x12 = nI (48 + ((g.1 3) b1)) := e_x12.trans (nI_add 48 ((g.1 3) b1))
    subst e_x12
    refine hx_callv (iv_Mo_198_Mo cx (c_Mo_put l hE M7.1 (x := 48 + g.1 3 b1) (show n9 < 300 by omega)) oM10 rfl hl.1 rfl (Nat.le_of_ble_eq_true rfl) d_Mo_lineOf_26 ⟨Nat.le_of_ble_eq_true rfl, Nat.le_of_ble_eq_true rfl⟩ ⟨Nat.le_of_ble_eq_true rfl, Nat.le_of_ble_eq_true rfl⟩) hlo (fun _ h => h) (fun H14 locs hp13 hlo => ?_)
    have q_M15 := hp13
    have M15 : Mw E H H14 a ad (up g.1 12 (updN o8 n9 (48 + g.1 3 b1)), up g.2 11 (n9 + 1)) := Mw.cg (M7.tr q_M15) rfl rfl rfl rfl rfl rfl rfl rfl rfl rfl rfl rfl rfl rfl rfl rfl rfl rfl rfl rfl rfl rfl rfl rfl rfl rfl
    have oM16 : hOb (eD E) classes H14 a 10 [.ref (ad 0), .int (nI (g.2 0)), .ref (ad 1), .int (nI (g.2 1)), .int (nI (g.2 2)), .ref (ad 2), .ref (ad 3), .ref (ad 4), .ref (ad 5), .ref (ad 6), .ref (ad 7), .ref (ad 8), .ref (ad 9), .ref (ad 10), .int (nI (g.2 3)), .int (nI (g.2 4)), .int (nI (g.2 5)), .int (nI (g.2 6)), .int (nI (g.2 7)), .ref (ad 11), .int (nI (g.2 8)), .int (nI (g.2 9)), .int (nI (g.2 10)), .ref (ad 12), .int (nI (n9 + 1)), .ref (ad 13)] := M15.1.1
    refine lv_iconst (v := 1) cx.x cx.b d_Mo_lineOf_29 (by decide) ?_
    rw [← hQ]
    exact hx_reti cx.x cx.b cx.r cx.k rfl hlo (fun _ h => h) (Nat.le_of_ble_eq_true rfl) (Nat.le_of_ble_eq_true rfl) d_Mo_lineOf_30 (⟨_, _, M15, rfl, hP1.put⟩)
