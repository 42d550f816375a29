theorem cmpI_ge {r : Int32} {z : Int} (h : r.toInt = z) : 0 ≤ r ↔ 0 ≤ z := by rw [← h, Int32.le_iff_toInt_le]; rfl
theorem nI_raw {n : Nat} {t : Int32} (hn : n < 2 ^ 31) : nI n = t ↔ (n : Int) = t.toInt := by rw [← Int32.toInt_inj, nI_toInt hn]
/-- which row a type, a member stands in -/
def RwT (U : List TU) (b : Nat) (o : Option TU) (r : Int32) : Prop := match o with
  | none => r = -1
  | some c => ∃ k, k < U.length ∧ c = srU (U.getD k default) ∧ r = nI (108 * b + k)
def RwM (ms : List DV) (R : Nat) (o : Option DV) (r : Int32) : Prop := match o with
  | none => r = -1
  | some d => ∃ j, j < ms.length ∧ d = ms.getD j default ∧ r = nI (R + j)
def RwO (f : Nat → Nat → Nat) (o : Option DV) (r : Int32) : Prop := match o with
  | none => r = -1
  | some d => ∃ j, j < 216 ∧ Row f j d ∧ r = nI j
def abC (o : Option TU) (q : Int32) : Int32 := match o with
  | none => -1
  | some c => if q = 0 then nI c.1.2.2.1 else if q = 1 then nI c.1.2.2.2 else if q = 2 then nI c.2.length else if q = 3 then nI c.1.1.length else -1
def meC (o : Option DV) (q : Int32) : Int32 := match o with
  | none => -1
  | some d => if q = 0 then nI d.2.2.1 else if q = 1 then nI d.2.2.2 else if q = 2 then nI d.1.length else if q = 3 then nI d.2.1.length else -1
def chC (o : Option DV) (w i : Int32) : Int32 := match o with
  | none => -1
  | some d => if w = -1 then atI d.1 i else if w = 0 then atI d.1 i else if w = 1 then atI d.2.1 i else -1
set_option maxHeartbeats 4000000 in
set_option maxRecDepth 100000 in
theorem c_Mo_typeRow (l : Launch) {E : hE} (hE : EnvOk E) {H : Heap} {a : Nat} {ad : Nat → Nat} {g : MS} (M : Mo E H a ad g) {b1 : Nat} {U C : List TU} (hb1 : b1 < 2) (hU : Rows g.1 b1 U) (hC : Srt C U) (t : Int32) : Ct l E y_Mo_typeRow b_Mo_typeRow 6 (some .int) (rmA 1 0 0) [.ref a, .int (nI b1), .int t] H (hQi (fun r H1 => RwT U b1 (tyC C t.toInt) r ∧ H1 = H)) := by
  refine hx_enter hE (by decide) (Nat.le_of_ble_eq_true rfl) ?_
  intro p e s m args below meth c ls cx hnm hl
  have hl : lv_has ls 6 [(0, .ref a), (1, .int (nI b1)), (2, .int t)] := hl
  have hlo : hLo (eB E) [] := hLo.nil
  generalize hQ : MQ below _ args s _ _ _ = Q
  have M0 : Mw E H H a ad g := ⟨M, hCh.rf, rfl⟩
  have hl12 := hU.2.1
  have LP : ∀ (k : Nat) (locs : List Loc) (k1 : Nat), hLo (eB E) locs → (U.length - k1 < k) → (k1 ≤ U.length) → (∀ k, k < k1 → (rnkT U k : Int) ≠ t.toInt) → ∀ ls, lv_has ls 6 [(3, .int (nI k1)), (0, .ref a), (1, .int (nI b1)), (2, .int t)] → W p l e (rmA 1 0 0) s m args below meth c H locs 0 0 Q (F0 m 2 ls []) := by
    intro k
    induction k with
    | zero => intro locs k1 hlo hk hk1 hno; exact absurd hk (by omega)
    | succ k ih =>
      intro locs k1 hlo hk hk1 hno ls hl
      refine lv_iload_n cx.x cx.b d_Mo_typeRow_2 rfl (lv_at hl 0 rfl) ?_
      refine lv_aload_n cx.x cx.b d_Mo_typeRow_3 rfl (lv_at hl 1 rfl) ?_
      refine gf_Mo_16_Mo cx M0.1.1 rfl d_Mo_typeRow_4 ?_
      refine lv_iload_n cx.x cx.b d_Mo_typeRow_7 rfl (lv_at hl 2 rfl) ?_
      refine hx_iald cx.x cx.b cx.K 0 (M0.1.2.1 2 (by decide)) rfl (show vp_in (nI b1) 2 from vp_in_nI (show b1 < 2 by omega) (by decide)) d_Mo_typeRow_8 ?_
      refine lv_topi (fun x1 e_x1 => ?_)
      have e_x1 : x1 = nI U.length := e_x1.trans (congrArg nI ((congrArg (g.1 2) (nI_clamp (n := b1) (by omega))).trans (hU.1)))
      subst e_x1
      refine lv_icmp_ge (tgt := 77) cx.x cx.b d_Mo_typeRow_9 (by decide) (fun c1 => ?_) (fun c1 => ?_)
      · have c1 : U.length ≤ k1 := (nI_leI (a := U.length) (b := k1) (by omega) (by omega)).mp c1
        refine lv_iconst (v := (-1)) cx.x cx.b d_Mo_typeRow_77 (by decide) ?_
        rw [← hQ]
        exact hx_reti cx.x cx.b cx.r cx.k rfl hlo (fun _ h => h) (Nat.le_of_ble_eq_true rfl) (Nat.le_of_ble_eq_true rfl) d_Mo_typeRow_78 (⟨by rw [tyC_none hC (fun k hk => hno k (by omega))]; rfl, rfl⟩)
      · have c1 : k1 < U.length := Nat.not_le.mp (fun zz => c1 ((nI_leI (a := U.length) (b := k1) (by omega) (by omega)).mpr zz))
        refine lv_iconst (v := 0) cx.x cx.b d_Mo_typeRow_12 (by decide) ?_
        refine lv_istore (lv' := [(4, .int 0), (3, .int (nI k1)), (0, .ref a), (1, .int (nI b1)), (2, .int t)]) cx.x cx.b d_Mo_typeRow_13 hl (by decide) rfl (fun ls hl => ?_)
        refine lv_iconst (v := 0) cx.x cx.b d_Mo_typeRow_15 (by decide) ?_
        refine lv_istore (lv' := [(5, .int 0), (4, .int 0), (3, .int (nI k1)), (0, .ref a), (1, .int (nI b1)), (2, .int t)]) cx.x cx.b d_Mo_typeRow_16 hl (by decide) rfl (fun ls hl => ?_)
        have ihO := ih
        have LI : ∀ (k : Nat) (locs : List Loc) (j1 cb : Nat), hLo (eB E) locs → (U.length - j1 < k) → (j1 ≤ U.length) → (cb = (U.take j1).countP (fun u => ltN u.1.1 (U.getD k1 default).1.1)) → ∀ ls, lv_has ls 6 [(5, .int (nI j1)), (4, .int (nI cb)), (3, .int (nI k1)), (0, .ref a), (1, .int (nI b1)), (2, .int t)] → W p l e (rmA 1 0 0) s m args below meth c H locs 0 0 Q (F0 m 18 ls []) := by
          intro k
          induction k with
          | zero => intro locs j1 cb hlo hk2 hj1 hcb; exact absurd hk2 (by omega)
          | succ k ih =>
            intro locs j1 cb hlo hk2 hj1 hcb ls hl
            have hcl : cb ≤ 12 := by have := cnt_le (fun u : TU => ltN u.1.1 (U.getD k1 default).1.1) (U.take j1); rw [List.length_take] at this; omega
            refine lv_iload cx.x cx.b d_Mo_typeRow_18 (lv_at hl 0 rfl) ?_
            refine lv_aload_n cx.x cx.b d_Mo_typeRow_20 rfl (lv_at hl 3 rfl) ?_
            refine gf_Mo_16_Mo cx M0.1.1 rfl d_Mo_typeRow_21 ?_
            refine lv_iload_n cx.x cx.b d_Mo_typeRow_24 rfl (lv_at hl 4 rfl) ?_
            refine hx_iald cx.x cx.b cx.K 0 (M0.1.2.1 2 (by decide)) rfl (show vp_in (nI b1) 2 from vp_in_nI (show b1 < 2 by omega) (by decide)) d_Mo_typeRow_25 ?_
            refine lv_topi (fun x2 e_x2 => ?_)
            have e_x2 : x2 = nI U.length := e_x2.trans (congrArg nI ((congrArg (g.1 2) (nI_clamp (n := b1) (by omega))).trans (hU.1)))
            subst e_x2
            refine lv_icmp_ge (tgt := 58) cx.x cx.b d_Mo_typeRow_26 (by decide) (fun c2 => ?_) (fun c2 => ?_)
            · have c2 : U.length ≤ j1 := (nI_leI (a := U.length) (b := j1) (by omega) (by omega)).mp c2
              have hcb : cb = rnkT U k1 := by rw [hcb, List.take_of_length_le (by omega)]; rfl
              refine lv_iload cx.x cx.b d_Mo_typeRow_58 (lv_at hl 1 rfl) ?_
              refine lv_iload_n cx.x cx.b d_Mo_typeRow_60 rfl (lv_at hl 5 rfl) ?_
              refine lv_icmp_ne (tgt := 71) cx.x cx.b d_Mo_typeRow_61 (by decide) (fun c3 => ?_) (fun c3 => ?_)
              · have c3 : (rnkT U k1 : Int) ≠ t.toInt := fun z => c3 ((nI_raw (by omega)).mpr (by rw [hcb]; exact z))
                obtain ⟨x3, e_x3⟩ : ∃ y : Int32, y = nI k1 + 1 := ⟨_, rfl⟩
                refine lv_iinc (v := x3) (lv' := [(3, .int x3), (5, .int (nI j1)), (4, .int (nI cb)), (0, .ref a), (1, .int (nI b1)), (2, .int t)]) cx.x cx.b d_Mo_typeRow_71 hl (k := 2) rfl (by rw [e_x3]; rfl) (by decide) rfl (fun ls hl => ?_)
                have e_x3 : x3 = nI (k1 + 1) := e_x3.trans (nI_add k1 1)
                subst e_x3
                refine lv_goto (tgt := 2) cx.x cx.b d_Mo_typeRow_74 (by decide) ?_
                exact ihO _ (k1 + 1) hlo (by omega) (by omega) (fun k hk => by by_cases e : k = k1; rw [e]; exact c3; exact hno k (by omega)) _ (lv_sub hl [0, 3, 4, 5] rfl)
              · have c3 : (rnkT U k1 : Int) = t.toInt := by rw [← hcb]; exact (nI_raw (by omega)).mp c3
                refine lv_bipush (v := 108) cx.x cx.b d_Mo_typeRow_64 (by decide) ?_
                refine lv_iload_n cx.x cx.b d_Mo_typeRow_66 rfl (lv_at hl 4 rfl) ?_
                refine lv_imul cx.x cx.b d_Mo_typeRow_67 ?_
                refine lv_topi (fun x4 e_x4 => ?_)
                have e_x4 : x4 = nI (108 * b1) := e_x4.trans (pk_mul 108 b1)
                subst e_x4
                refine lv_iload_n cx.x cx.b d_Mo_typeRow_68 rfl (lv_at hl 2 rfl) ?_
                refine lv_iadd cx.x cx.b d_Mo_typeRow_69 ?_
                refine lv_topi (fun x5 e_x5 => ?_)
                have e_x5 : x5 = nI ((108 * b1) + k1) := e_x5.trans (nI_add (108 * b1) k1)
                subst e_x5
                rw [← hQ]
                exact hx_reti cx.x cx.b cx.r cx.k rfl hlo (fun _ h => h) (Nat.le_of_ble_eq_true rfl) (Nat.le_of_ble_eq_true rfl) d_Mo_typeRow_70 (⟨by rw [← c3, tyC_some hC c1]; exact ⟨k1, c1, rfl, rfl⟩, rfl⟩)
            · have c2 : j1 < U.length := Nat.not_le.mp (fun zz => c2 ((nI_leI (a := U.length) (b := j1) (by omega) (by omega)).mpr zz))
              refine lv_aload_n cx.x cx.b d_Mo_typeRow_29 rfl (lv_at hl 3 rfl) ?_
              refine lv_bipush (v := 108) cx.x cx.b d_Mo_typeRow_30 (by decide) ?_
              refine lv_iload_n cx.x cx.b d_Mo_typeRow_32 rfl (lv_at hl 4 rfl) ?_
              refine lv_imul cx.x cx.b d_Mo_typeRow_33 ?_
              refine lv_topi (fun x6 e_x6 => ?_)
              have e_x6 : x6 = nI (108 * b1) := e_x6.trans (pk_mul 108 b1)
              subst e_x6
              refine lv_iload cx.x cx.b d_Mo_typeRow_34 (lv_at hl 0 rfl) ?_
              refine lv_iadd cx.x cx.b d_Mo_typeRow_36 ?_
              refine lv_topi (fun x7 e_x7 => ?_)
              have e_x7 : x7 = nI ((108 * b1) + j1) := e_x7.trans (nI_add (108 * b1) j1)
              subst e_x7
              refine lv_bipush (v := 108) cx.x cx.b d_Mo_typeRow_37 (by decide) ?_
              refine lv_iload_n cx.x cx.b d_Mo_typeRow_39 rfl (lv_at hl 4 rfl) ?_
              refine lv_imul cx.x cx.b d_Mo_typeRow_40 ?_
              refine lv_topi (fun x8 e_x8 => ?_)
              have e_x8 : x8 = nI (108 * b1) := e_x8.trans (pk_mul 108 b1)
              subst e_x8
              refine lv_iload_n cx.x cx.b d_Mo_typeRow_41 rfl (lv_at hl 2 rfl) ?_
              refine lv_iadd cx.x cx.b d_Mo_typeRow_42 ?_
              refine lv_topi (fun x9 e_x9 => ?_)
              have e_x9 : x9 = nI ((108 * b1) + k1) := e_x9.trans (nI_add (108 * b1) k1)
              subst e_x9
              refine hx_calli (iv_Mo_152_Mo cx (c_Mo_compareNames l hE M (r1 := 108 * b1 + j1) (s1 := 108 * b1 + k1) (by omega) (by omega) (hU.2.2 j1 c2).1.1 (hU.2.2 k1 c1).1.1) M0.1.1 rfl hl.1 rfl (Nat.le_of_ble_eq_true rfl) d_Mo_typeRow_43 ⟨Nat.le_of_ble_eq_true rfl, Nat.le_of_ble_eq_true rfl⟩ ⟨Nat.le_of_ble_eq_true rfl, Nat.le_of_ble_eq_true rfl⟩) hlo (fun _ h => h) (fun r12 H11 locs hp10 hlo => ?_)
              obtain ⟨hp10, hH9⟩ := hp10
              have hH9 := hH9.symm
              subst hH9
              refine lv_if_ge (tgt := 52) cx.x cx.b d_Mo_typeRow_46 (by decide) (fun c3 => ?_) (fun c3 => ?_)
              · have c3 := (cmpI_ge hp10).mp c3
                obtain ⟨x13, e_x13⟩ : ∃ y : Int32, y = nI j1 + 1 := ⟨_, rfl⟩
                refine lv_iinc (v := x13) (lv' := [(5, .int x13), (4, .int (nI cb)), (3, .int (nI k1)), (0, .ref a), (1, .int (nI b1)), (2, .int t)]) cx.x cx.b d_Mo_typeRow_52 hl (k := 0) rfl (by rw [e_x13]; rfl) (by decide) rfl (fun ls hl => ?_)
                have e_x13 : x13 = nI (j1 + 1) := e_x13.trans (nI_add j1 1)
                subst e_x13
                refine lv_goto (tgt := 18) cx.x cx.b d_Mo_typeRow_55 (by decide) ?_
                exact ih _ (j1 + 1) cb hlo (by omega) (by omega) (by rw [(cnt_take (d := default) (fun u : TU => ltN u.1.1 (U.getD k1 default).1.1) c2), if_neg (fun z => by have := of_decide_eq_true z; omega), Nat.add_zero]; exact hcb) _ (lv_sub hl [0, 1, 2, 3, 4, 5] rfl)
              · have c3 := Int.not_le.mp (fun z => c3 ((cmpI_ge hp10).mpr z))
                obtain ⟨x14, e_x14⟩ : ∃ y : Int32, y = nI cb + 1 := ⟨_, rfl⟩
                refine lv_iinc (v := x14) (lv' := [(4, .int x14), (5, .int (nI j1)), (3, .int (nI k1)), (0, .ref a), (1, .int (nI b1)), (2, .int t)]) cx.x cx.b d_Mo_typeRow_49 hl (k := 1) rfl (by rw [e_x14]; rfl) (by decide) rfl (fun ls hl => ?_)
                have e_x14 : x14 = nI (cb + 1) := e_x14.trans (nI_add cb 1)
                subst e_x14
                obtain ⟨x15, e_x15⟩ : ∃ y : Int32, y = nI j1 + 1 := ⟨_, rfl⟩
                refine lv_iinc (v := x15) (lv' := [(5, .int x15), (4, .int (nI (cb + 1))), (3, .int (nI k1)), (0, .ref a), (1, .int (nI b1)), (2, .int t)]) cx.x cx.b d_Mo_typeRow_52 hl (k := 1) rfl (by rw [e_x15]; rfl) (by decide) rfl (fun ls hl => ?_)
                have e_x15 : x15 = nI (j1 + 1) := e_x15.trans (nI_add j1 1)
                subst e_x15
                refine lv_goto (tgt := 18) cx.x cx.b d_Mo_typeRow_55 (by decide) ?_
                exact ih _ (j1 + 1) (cb + 1) hlo (by omega) (by omega) (by rw [(cnt_take (d := default) (fun u : TU => ltN u.1.1 (U.getD k1 default).1.1) c2), if_pos (show ltN _ _ = true from decide_eq_true (by omega)), ← hcb]) _ (lv_sub hl [0, 1, 2, 3, 4, 5] rfl)
        exact LI _ _ 0 0 hlo (Nat.lt_succ_self _) (Nat.zero_le _) (by rw [List.take_zero]; rfl) _ (lv_sub hl [0, 1, 2, 3, 4, 5] rfl)
  refine lv_iconst (v := 0) cx.x cx.b d_Mo_typeRow_0 (by decide) ?_
  refine lv_istore_n (lv' := [(3, .int 0), (0, .ref a), (1, .int (nI b1)), (2, .int t)]) cx.x cx.b d_Mo_typeRow_1 rfl hl (by decide) rfl (fun ls hl => ?_)
  exact LP _ _ 0 hlo (Nat.lt_succ_self _) (Nat.zero_le _) (fun k hk => absurd hk (Nat.not_lt_zero k)) _ (lv_sub hl [0, 1, 2, 3] rfl)

set_option maxHeartbeats 4000000 in
set_option maxRecDepth 100000 in
theorem c_Mo_memberRow (l : Launch) {E : hE} (hE : EnvOk E) {H : Heap} {a : Nat} {ad : Nat → Nat} {g : MS} (M : Mo E H a ad g) {b1 k1 : Nat} {U : List TU} (hb1 : b1 < 2) (hU : Rows g.1 b1 U) (hk1 : k1 < U.length) (hd : (U.getD k1 default).2.Pairwise (fun a b => cmpD a b ≠ 0)) (t : Int32) : Ct l E y_Mo_memberRow b_Mo_memberRow 7 (some .int) (rmA 2 0 0) [.ref a, .int (nI (108 * b1 + k1)), .int t] H (hQi (fun r H1 => RwM (U.getD k1 default).2 (108 * b1 + 12 + 8 * k1) (mbC (srtM (U.getD k1 default).2) t.toInt) r ∧ H1 = H)) := by
  refine hx_enter hE (by decide) (Nat.le_of_ble_eq_true rfl) ?_
  intro p e s m args below meth c ls cx hnm hl
  have hl : lv_has ls 7 [(0, .ref a), (1, .int (nI (108 * b1 + k1))), (2, .int t)] := hl
  have hlo : hLo (eB E) [] := hLo.nil
  generalize hQ : MQ below _ args s _ _ _ = Q
  have M0 : Mw E H H a ad g := ⟨M, hCh.rf, rfl⟩
  have hl12 := hU.2.1
  obtain ⟨u1, u2, u3, u4⟩ := hU.2.2 k1 hk1
  generalize (U.getD k1 default).2 = ms at *
  refine lv_iload_n cx.x cx.b d_Mo_memberRow_0 rfl (lv_at hl 1 rfl) ?_
  refine lv_bipush (v := 108) cx.x cx.b d_Mo_memberRow_1 (by decide) ?_
  refine lv_idiv cx.x cx.b d_Mo_memberRow_3 (by decide) ?_
  refine lv_topi (fun x16 e_x16 => ?_)
  have e_x16 : x16 = nI b1 := e_x16.trans ((pk_div (a := (108 * b1 + k1)) (d := 108) (by omega) (by omega) (by omega)).trans (congrArg nI (by omega)))
  subst e_x16
  refine lv_bipush (v := 108) cx.x cx.b d_Mo_memberRow_4 (by decide) ?_
  refine lv_imul cx.x cx.b d_Mo_memberRow_6 ?_
  refine lv_topi (fun x17 e_x17 => ?_)
  have e_x17 : x17 = nI (b1 * 108) := e_x17.trans (pk_mul b1 108)
  subst e_x17
  refine lv_bipush (v := 12) cx.x cx.b d_Mo_memberRow_7 (by decide) ?_
  refine lv_iadd cx.x cx.b d_Mo_memberRow_9 ?_
  refine lv_topi (fun x18 e_x18 => ?_)
  have e_x18 : x18 = nI ((b1 * 108) + 12) := e_x18.trans (nI_add (b1 * 108) 12)
  subst e_x18
  refine lv_bipush (v := 8) cx.x cx.b d_Mo_memberRow_10 (by decide) ?_
  refine lv_iload_n cx.x cx.b d_Mo_memberRow_12 rfl (lv_at hl 1 rfl) ?_
  refine lv_bipush (v := 108) cx.x cx.b d_Mo_memberRow_13 (by decide) ?_
  refine lv_irem cx.x cx.b d_Mo_memberRow_15 (by decide) ?_
  refine lv_topi (fun x19 e_x19 => ?_)
  have e_x19 : x19 = nI k1 := e_x19.trans ((pk_rem (a := (108 * b1 + k1)) (d := 108) (by omega) (by omega) (by omega)).trans (congrArg nI (by omega)))
  subst e_x19
  refine lv_imul cx.x cx.b d_Mo_memberRow_16 ?_
  refine lv_topi (fun x20 e_x20 => ?_)
  have e_x20 : x20 = nI (8 * k1) := e_x20.trans (pk_mul 8 k1)
  subst e_x20
  refine lv_iadd cx.x cx.b d_Mo_memberRow_17 ?_
  refine lv_topi (fun x21 e_x21 => ?_)
  have e_x21 : x21 = nI (((b1 * 108) + 12) + (8 * k1)) := e_x21.trans (nI_add ((b1 * 108) + 12) (8 * k1))
  subst e_x21
  rw [show (((b1 * 108) + 12) + (8 * k1)) = 108 * b1 + 12 + 8 * k1 by omega]
  refine lv_istore_n (lv' := [(3, .int (nI (108 * b1 + 12 + 8 * k1))), (0, .ref a), (1, .int (nI (108 * b1 + k1))), (2, .int t)]) cx.x cx.b d_Mo_memberRow_18 rfl hl (by decide) rfl (fun ls hl => ?_)
  refine lv_iload_n cx.x cx.b d_Mo_memberRow_19 rfl (lv_at hl 0 rfl) ?_
  refine lv_istore (lv' := [(4, .int (nI (108 * b1 + 12 + 8 * k1))), (3, .int (nI (108 * b1 + 12 + 8 * k1))), (0, .ref a), (1, .int (nI (108 * b1 + k1))), (2, .int t)]) cx.x cx.b d_Mo_memberRow_20 hl (by decide) rfl (fun ls hl => ?_)
  have LP : ∀ (k : Nat) (locs : List Loc) (q1 : Nat), hLo (eB E) locs → (ms.length - q1 < k) → (q1 ≤ ms.length) → (∀ k, k < q1 → (rnkM ms k : Int) ≠ t.toInt) → ∀ ls, lv_has ls 7 [(4, .int (nI ((108 * b1 + 12 + 8 * k1) + q1))), (3, .int (nI (108 * b1 + 12 + 8 * k1))), (0, .ref a), (1, .int (nI (108 * b1 + k1))), (2, .int t)] → W p l e (rmA 2 0 0) s m args below meth c H locs 0 0 Q (F0 m 22 ls []) := by
    intro k
    induction k with
    | zero => intro locs q1 hlo hk hq1 hno; exact absurd hk (by omega)
    | succ k ih =>
      intro locs q1 hlo hk hq1 hno ls hl
      refine lv_iload cx.x cx.b d_Mo_memberRow_22 (lv_at hl 0 rfl) ?_
      refine lv_iload_n cx.x cx.b d_Mo_memberRow_24 rfl (lv_at hl 1 rfl) ?_
      refine lv_aload_n cx.x cx.b d_Mo_memberRow_25 rfl (lv_at hl 2 rfl) ?_
      refine lv_iload_n cx.x cx.b d_Mo_memberRow_26 rfl (lv_at hl 3 rfl) ?_
      refine hx_calli (iv_Mo_192_Mo cx (c_Mo_count l hE M (b := b1) (t := k1) hb1 (by omega)) M0.1.1 rfl hl.1 rfl (Nat.le_of_ble_eq_true rfl) d_Mo_memberRow_27 ⟨Nat.le_of_ble_eq_true rfl, Nat.le_of_ble_eq_true rfl⟩ ⟨Nat.le_of_ble_eq_true rfl, Nat.le_of_ble_eq_true rfl⟩) hlo (fun _ h => h) (fun r24 H23 locs hp22 hlo => ?_)
      obtain ⟨hp22, hH9⟩ := hp22
      have hH9 := hH9.symm
      subst hH9
      subst hp22
      rw [u2]
      refine lv_iadd cx.x cx.b d_Mo_memberRow_30 ?_
      refine lv_topi (fun x25 e_x25 => ?_)
      have e_x25 : x25 = nI ((108 * b1 + 12 + 8 * k1) + ms.length) := e_x25.trans (nI_add (108 * b1 + 12 + 8 * k1) ms.length)
      subst e_x25
      refine lv_icmp_ge (tgt := 87) cx.x cx.b d_Mo_memberRow_31 (by decide) (fun c1 => ?_) (fun c1 => ?_)
      · have c1 : ((108 * b1 + 12 + 8 * k1) + ms.length) ≤ ((108 * b1 + 12 + 8 * k1) + q1) := (nI_leI (a := ((108 * b1 + 12 + 8 * k1) + ms.length)) (b := ((108 * b1 + 12 + 8 * k1) + q1)) (by omega) (by omega)).mp c1
        refine lv_iconst (v := (-1)) cx.x cx.b d_Mo_memberRow_87 (by decide) ?_
        rw [← hQ]
        exact hx_reti cx.x cx.b cx.r cx.k rfl hlo (fun _ h => h) (Nat.le_of_ble_eq_true rfl) (Nat.le_of_ble_eq_true rfl) d_Mo_memberRow_88 (⟨by rw [mbC_none hd (fun k hk => hno k (by omega))]; rfl, rfl⟩)
      · have c1 : ((108 * b1 + 12 + 8 * k1) + q1) < ((108 * b1 + 12 + 8 * k1) + ms.length) := Nat.not_le.mp (fun zz => c1 ((nI_leI (a := ((108 * b1 + 12 + 8 * k1) + ms.length)) (b := ((108 * b1 + 12 + 8 * k1) + q1)) (by omega) (by omega)).mpr zz))
        have c1 : q1 < ms.length := by omega
        refine lv_iconst (v := 0) cx.x cx.b d_Mo_memberRow_34 (by decide) ?_
        refine lv_istore (lv' := [(5, .int 0), (4, .int (nI ((108 * b1 + 12 + 8 * k1) + q1))), (3, .int (nI (108 * b1 + 12 + 8 * k1))), (0, .ref a), (1, .int (nI (108 * b1 + k1))), (2, .int t)]) cx.x cx.b d_Mo_memberRow_35 hl (by decide) rfl (fun ls hl => ?_)
        refine lv_iload_n cx.x cx.b d_Mo_memberRow_37 rfl (lv_at hl 2 rfl) ?_
        refine lv_istore (lv' := [(6, .int (nI (108 * b1 + 12 + 8 * k1))), (5, .int 0), (4, .int (nI ((108 * b1 + 12 + 8 * k1) + q1))), (3, .int (nI (108 * b1 + 12 + 8 * k1))), (0, .ref a), (1, .int (nI (108 * b1 + k1))), (2, .int t)]) cx.x cx.b d_Mo_memberRow_38 hl (by decide) rfl (fun ls hl => ?_)
        have ihO := ih
        have LI : ∀ (k : Nat) (locs : List Loc) (j1 cb : Nat), hLo (eB E) locs → (ms.length - j1 < k) → (j1 ≤ ms.length) → (cb = (ms.take j1).countP (fun d => ltM d (ms.getD q1 default))) → ∀ ls, lv_has ls 7 [(6, .int (nI ((108 * b1 + 12 + 8 * k1) + j1))), (5, .int (nI cb)), (4, .int (nI ((108 * b1 + 12 + 8 * k1) + q1))), (3, .int (nI (108 * b1 + 12 + 8 * k1))), (0, .ref a), (1, .int (nI (108 * b1 + k1))), (2, .int t)] → W p l e (rmA 2 0 0) s m args below meth c H locs 0 0 Q (F0 m 40 ls []) := by
          intro k
          induction k with
          | zero => intro locs j1 cb hlo hk2 hj1 hcb; exact absurd hk2 (by omega)
          | succ k ih =>
            intro locs j1 cb hlo hk2 hj1 hcb ls hl
            have hcl : cb ≤ 8 := by have := cnt_le (fun d : DV => ltM d (ms.getD q1 default)) (ms.take j1); rw [List.length_take] at this; omega
            refine lv_iload cx.x cx.b d_Mo_memberRow_40 (lv_at hl 0 rfl) ?_
            refine lv_iload_n cx.x cx.b d_Mo_memberRow_42 rfl (lv_at hl 3 rfl) ?_
            refine lv_aload_n cx.x cx.b d_Mo_memberRow_43 rfl (lv_at hl 4 rfl) ?_
            refine lv_iload_n cx.x cx.b d_Mo_memberRow_44 rfl (lv_at hl 5 rfl) ?_
            refine hx_calli (iv_Mo_192_Mo cx (c_Mo_count l hE M (b := b1) (t := k1) hb1 (by omega)) M0.1.1 rfl hl.1 rfl (Nat.le_of_ble_eq_true rfl) d_Mo_memberRow_45 ⟨Nat.le_of_ble_eq_true rfl, Nat.le_of_ble_eq_true rfl⟩ ⟨Nat.le_of_ble_eq_true rfl, Nat.le_of_ble_eq_true rfl⟩) hlo (fun _ h => h) (fun r28 H27 locs hp26 hlo => ?_)
            obtain ⟨hp26, hH9⟩ := hp26
            have hH9 := hH9.symm
            subst hH9
            subst hp26
            rw [u2]
            refine lv_iadd cx.x cx.b d_Mo_memberRow_48 ?_
            refine lv_topi (fun x29 e_x29 => ?_)
            have e_x29 : x29 = nI ((108 * b1 + 12 + 8 * k1) + ms.length) := e_x29.trans (nI_add (108 * b1 + 12 + 8 * k1) ms.length)
            subst e_x29
            refine lv_icmp_ge (tgt := 72) cx.x cx.b d_Mo_memberRow_49 (by decide) (fun c2 => ?_) (fun c2 => ?_)
            · have c2 : ((108 * b1 + 12 + 8 * k1) + ms.length) ≤ ((108 * b1 + 12 + 8 * k1) + j1) := (nI_leI (a := ((108 * b1 + 12 + 8 * k1) + ms.length)) (b := ((108 * b1 + 12 + 8 * k1) + j1)) (by omega) (by omega)).mp c2
              have hcb : cb = rnkM ms q1 := by rw [hcb, List.take_of_length_le (by omega)]; rfl
              refine lv_iload cx.x cx.b d_Mo_memberRow_72 (lv_at hl 1 rfl) ?_
              refine lv_iload_n cx.x cx.b d_Mo_memberRow_74 rfl (lv_at hl 6 rfl) ?_
              refine lv_icmp_ne (tgt := 81) cx.x cx.b d_Mo_memberRow_75 (by decide) (fun c3 => ?_) (fun c3 => ?_)
              · have c3 : (rnkM ms q1 : Int) ≠ t.toInt := fun z => c3 ((nI_raw (by omega)).mpr (by rw [hcb]; exact z))
                obtain ⟨x30, e_x30⟩ : ∃ y : Int32, y = nI ((108 * b1 + 12 + 8 * k1) + q1) + 1 := ⟨_, rfl⟩
                refine lv_iinc (v := x30) (lv' := [(4, .int x30), (6, .int (nI ((108 * b1 + 12 + 8 * k1) + j1))), (5, .int (nI cb)), (3, .int (nI (108 * b1 + 12 + 8 * k1))), (0, .ref a), (1, .int (nI (108 * b1 + k1))), (2, .int t)]) cx.x cx.b d_Mo_memberRow_81 hl (k := 2) rfl (by rw [e_x30]; rfl) (by decide) rfl (fun ls hl => ?_)
                have e_x30 : x30 = nI (((108 * b1 + 12 + 8 * k1) + q1) + 1) := e_x30.trans (nI_add ((108 * b1 + 12 + 8 * k1) + q1) 1)
                subst e_x30
                refine lv_goto (tgt := 22) cx.x cx.b d_Mo_memberRow_84 (by decide) ?_
                exact ihO _ (q1 + 1) hlo (by omega) (by omega) (fun k hk => by by_cases e : k = q1; rw [e]; exact c3; exact hno k (by omega)) _ (lv_sub hl [0, 3, 4, 5, 6] rfl)
              · have c3 : (rnkM ms q1 : Int) = t.toInt := by rw [← hcb]; exact (nI_raw (by omega)).mp c3
                refine lv_iload cx.x cx.b d_Mo_memberRow_78 (lv_at hl 2 rfl) ?_
                rw [← hQ]
                exact hx_reti cx.x cx.b cx.r cx.k rfl hlo (fun _ h => h) (Nat.le_of_ble_eq_true rfl) (Nat.le_of_ble_eq_true rfl) d_Mo_memberRow_80 (⟨by rw [← c3, mbC_some hd c1]; exact ⟨q1, c1, rfl, rfl⟩, rfl⟩)
            · have c2 : ((108 * b1 + 12 + 8 * k1) + j1) < ((108 * b1 + 12 + 8 * k1) + ms.length) := Nat.not_le.mp (fun zz => c2 ((nI_leI (a := ((108 * b1 + 12 + 8 * k1) + ms.length)) (b := ((108 * b1 + 12 + 8 * k1) + j1)) (by omega) (by omega)).mpr zz))
              have c2 : j1 < ms.length := by omega
              refine lv_aload_n cx.x cx.b d_Mo_memberRow_52 rfl (lv_at hl 4 rfl) ?_
              refine lv_iload cx.x cx.b d_Mo_memberRow_53 (lv_at hl 0 rfl) ?_
              refine lv_iload cx.x cx.b d_Mo_memberRow_55 (lv_at hl 2 rfl) ?_
              refine hx_calli (iv_Mo_164_Mo cx (c_Mo_compareMembers l hE M (r1 := (108 * b1 + 12 + 8 * k1) + j1) (s1 := (108 * b1 + 12 + 8 * k1) + q1) (by omega) (by omega) (u4 j1 c2) (u4 q1 c1)) M0.1.1 rfl hl.1 rfl (Nat.le_of_ble_eq_true rfl) d_Mo_memberRow_57 ⟨Nat.le_of_ble_eq_true rfl, Nat.le_of_ble_eq_true rfl⟩ ⟨Nat.le_of_ble_eq_true rfl, Nat.le_of_ble_eq_true rfl⟩) hlo (fun _ h => h) (fun r33 H32 locs hp31 hlo => ?_)
              obtain ⟨hp31, hH9⟩ := hp31
              have hH9 := hH9.symm
              subst hH9
              refine lv_if_ge (tgt := 66) cx.x cx.b d_Mo_memberRow_60 (by decide) (fun c3 => ?_) (fun c3 => ?_)
              · have c3 := (cmpI_ge hp31).mp c3
                obtain ⟨x34, e_x34⟩ : ∃ y : Int32, y = nI ((108 * b1 + 12 + 8 * k1) + j1) + 1 := ⟨_, rfl⟩
                refine lv_iinc (v := x34) (lv' := [(6, .int x34), (5, .int (nI cb)), (4, .int (nI ((108 * b1 + 12 + 8 * k1) + q1))), (3, .int (nI (108 * b1 + 12 + 8 * k1))), (0, .ref a), (1, .int (nI (108 * b1 + k1))), (2, .int t)]) cx.x cx.b d_Mo_memberRow_66 hl (k := 0) rfl (by rw [e_x34]; rfl) (by decide) rfl (fun ls hl => ?_)
                have e_x34 : x34 = nI (((108 * b1 + 12 + 8 * k1) + j1) + 1) := e_x34.trans (nI_add ((108 * b1 + 12 + 8 * k1) + j1) 1)
                subst e_x34
                refine lv_goto (tgt := 40) cx.x cx.b d_Mo_memberRow_69 (by decide) ?_
                exact ih _ (j1 + 1) cb hlo (by omega) (by omega) (by rw [(cnt_take (d := default) (fun d : DV => ltM d (ms.getD q1 default)) c2), if_neg (fun z => by have := of_decide_eq_true z; omega), Nat.add_zero]; exact hcb) _ (lv_sub hl [0, 1, 2, 3, 4, 5, 6] rfl)
              · have c3 := Int.not_le.mp (fun z => c3 ((cmpI_ge hp31).mpr z))
                obtain ⟨x35, e_x35⟩ : ∃ y : Int32, y = nI cb + 1 := ⟨_, rfl⟩
                refine lv_iinc (v := x35) (lv' := [(5, .int x35), (6, .int (nI ((108 * b1 + 12 + 8 * k1) + j1))), (4, .int (nI ((108 * b1 + 12 + 8 * k1) + q1))), (3, .int (nI (108 * b1 + 12 + 8 * k1))), (0, .ref a), (1, .int (nI (108 * b1 + k1))), (2, .int t)]) cx.x cx.b d_Mo_memberRow_63 hl (k := 1) rfl (by rw [e_x35]; rfl) (by decide) rfl (fun ls hl => ?_)
                have e_x35 : x35 = nI (cb + 1) := e_x35.trans (nI_add cb 1)
                subst e_x35
                obtain ⟨x36, e_x36⟩ : ∃ y : Int32, y = nI ((108 * b1 + 12 + 8 * k1) + j1) + 1 := ⟨_, rfl⟩
                refine lv_iinc (v := x36) (lv' := [(6, .int x36), (5, .int (nI (cb + 1))), (4, .int (nI ((108 * b1 + 12 + 8 * k1) + q1))), (3, .int (nI (108 * b1 + 12 + 8 * k1))), (0, .ref a), (1, .int (nI (108 * b1 + k1))), (2, .int t)]) cx.x cx.b d_Mo_memberRow_66 hl (k := 1) rfl (by rw [e_x36]; rfl) (by decide) rfl (fun ls hl => ?_)
                have e_x36 : x36 = nI (((108 * b1 + 12 + 8 * k1) + j1) + 1) := e_x36.trans (nI_add ((108 * b1 + 12 + 8 * k1) + j1) 1)
                subst e_x36
                refine lv_goto (tgt := 40) cx.x cx.b d_Mo_memberRow_69 (by decide) ?_
                exact ih _ (j1 + 1) (cb + 1) hlo (by omega) (by omega) (by rw [(cnt_take (d := default) (fun d : DV => ltM d (ms.getD q1 default)) c2), if_pos (show ltM _ _ = true from decide_eq_true (by omega)), ← hcb]) _ (lv_sub hl [0, 1, 2, 3, 4, 5, 6] rfl)
        exact LI _ _ 0 0 hlo (Nat.lt_succ_self _) (Nat.zero_le _) (by rw [List.take_zero]; rfl) _ (lv_sub hl [0, 1, 2, 3, 4, 5, 6] rfl)
  exact LP _ _ 0 hlo (Nat.lt_succ_self _) (Nat.zero_le _) (fun k hk => absurd hk (Nat.not_lt_zero k)) _ (lv_sub hl [0, 1, 2, 3, 4] rfl)

set_option maxHeartbeats 4000000 in
set_option maxRecDepth 100000 in
theorem c_Mo_about (l : Launch) {E : hE} (hE : EnvOk E) {H : Heap} {a : Nat} {ad : Nat → Nat} {g : MS} (M : Mo E H a ad g) (hcr : g.2 2 = 0 ∨ g.2 2 = 1) {b : Nat} (hb : b < 2) {U C : List TU} (hU : Rows g.1 (if g.2 2 = 0 then b else 1 - b) U) (hC : Srt C U) (t q : Int32) : Ct l E y_Mo_about b_Mo_about 5 (some .int) (rmA 2 0 0) [.ref a, .int (nI b), .int t, .int q] H (hQi (fun r H1 => r = abC (tyC C t.toInt) q ∧ H1 = H)) := by
  refine hx_enter hE (by decide) (Nat.le_of_ble_eq_true rfl) ?_
  intro p e s m args below meth c ls cx hnm hl
  have hl : lv_has ls 5 [(0, .ref a), (1, .int (nI b)), (2, .int t), (3, .int q)] := hl
  have hlo : hLo (eB E) [] := hLo.nil
  generalize hQ : MQ below _ args s _ _ _ = Q
  have M0 : Mw E H H a ad g := ⟨M, hCh.rf, rfl⟩
  have hb1 : (if g.2 2 = 0 then b else 1 - b) < 2 := by by_cases c : (g.2 2) = 0; rw [if_pos c]; exact hb; rw [if_neg c]; omega
  have hsd := c_Mo_side l hE M hcr hb
  generalize (if g.2 2 = 0 then b else 1 - b) = b1 at *
  refine lv_iload_n cx.x cx.b d_Mo_about_0 rfl (lv_at hl 1 rfl) ?_
  refine hx_calli (iv_Mo_173 cx (c_Mo_none l hE (H := H) (nI b)) rfl hl.1 rfl (Nat.le_of_ble_eq_true rfl) d_Mo_about_1 ⟨Nat.le_of_ble_eq_true rfl, Nat.le_of_ble_eq_true rfl⟩ ⟨Nat.le_of_ble_eq_true rfl, Nat.le_of_ble_eq_true rfl⟩) hlo (fun _ h => h) (fun r39 H38 locs hp37 hlo => ?_)
  obtain ⟨hp37, hH9⟩ := hp37
  have hH9 := hH9.symm
  subst hH9
  rw [show decide (¬ (nI b = 0 ∨ nI b = 1)) = false from decide_eq_false (fun z => z (by rcases (show b = 0 ∨ b = 1 by omega) with e | e; rw [e]; exact Or.inl rfl; rw [e]; exact Or.inr rfl))] at hp37
  subst hp37
  refine lv_if_eq (tgt := 11) cx.x cx.b d_Mo_about_4 (by decide) (fun _ => ?_) (fun c => absurd (by decide) c)
  refine lv_aload_n cx.x cx.b d_Mo_about_11 rfl (lv_at hl 0 rfl) ?_
  refine lv_aload_n cx.x cx.b d_Mo_about_12 rfl (lv_at hl 0 rfl) ?_
  refine lv_iload_n cx.x cx.b d_Mo_about_13 rfl (lv_at hl 1 rfl) ?_
  refine hx_calli (iv_Mo_176_Mo cx (hsd) M0.1.1 rfl hl.1 rfl (Nat.le_of_ble_eq_true rfl) d_Mo_about_14 ⟨Nat.le_of_ble_eq_true rfl, Nat.le_of_ble_eq_true rfl⟩ ⟨Nat.le_of_ble_eq_true rfl, Nat.le_of_ble_eq_true rfl⟩) hlo (fun _ h => h) (fun r42 H41 locs hp40 hlo => ?_)
  obtain ⟨hp40, hH9⟩ := hp40
  have hH9 := hH9.symm
  subst hH9
  subst hp40
  refine lv_iload_n cx.x cx.b d_Mo_about_17 rfl (lv_at hl 2 rfl) ?_
  refine hx_calli (iv_Mo_217_Mo cx (c_Mo_typeRow l hE M hb1 hU hC t) M0.1.1 rfl hl.1 rfl (Nat.le_of_ble_eq_true rfl) d_Mo_about_18 ⟨Nat.le_of_ble_eq_true rfl, Nat.le_of_ble_eq_true rfl⟩ ⟨Nat.le_of_ble_eq_true rfl, Nat.le_of_ble_eq_true rfl⟩) hlo (fun _ h => h) (fun r45 H44 locs hp43 hlo => ?_)
  obtain ⟨hp43, hH9⟩ := hp43
  have hH9 := hH9.symm
  subst hH9
  have hrt := hp43
  have hl12 := hU.2.1
  rcases hty : tyC C t.toInt with _ | c1
  · rw [hty] at hrt
    have hrt : r45 = -1 := hrt
    subst hrt
    rw [hty] at hQ
    refine lv_istore (lv' := [(4, .int (-1)), (0, .ref a), (1, .int (nI b)), (2, .int t), (3, .int q)]) cx.x cx.b d_Mo_about_21 hl (by decide) rfl (fun ls hl => ?_)
    refine lv_iload cx.x cx.b d_Mo_about_23 (lv_at hl 0 rfl) ?_
    refine lv_if_lt (tgt := 37) cx.x cx.b d_Mo_about_25 (by decide) (fun _ => ?_) (fun c => absurd (by decide) c)
    refine lv_iconst (v := (-1)) cx.x cx.b d_Mo_about_37 (by decide) ?_
    rw [← hQ]
    exact hx_reti cx.x cx.b cx.r cx.k rfl hlo (fun _ h => h) (Nat.le_of_ble_eq_true rfl) (Nat.le_of_ble_eq_true rfl) d_Mo_about_38 (⟨rfl, rfl⟩)
  · rw [hty] at hrt
    obtain ⟨k1, hk1, hc1, hrt⟩ := hrt
    subst hrt
    rw [hty] at hQ
    subst hc1
    obtain ⟨u1, u2, u3, u4⟩ := hU.2.2 k1 hk1
    unfold abC at hQ
    simp only at hQ
    refine lv_istore (lv' := [(4, .int (nI (108 * b1 + k1))), (0, .ref a), (1, .int (nI b)), (2, .int t), (3, .int q)]) cx.x cx.b d_Mo_about_21 hl (by decide) rfl (fun ls hl => ?_)
    refine lv_iload cx.x cx.b d_Mo_about_23 (lv_at hl 0 rfl) ?_
    refine lv_if_lt (tgt := 37) cx.x cx.b d_Mo_about_25 (by decide) (fun c => absurd c (nI_pos (by omega))) (fun _ => ?_)
    refine lv_iload_n cx.x cx.b d_Mo_about_28 rfl (lv_at hl 4 rfl) ?_
    refine lv_if_lt (tgt := 37) cx.x cx.b d_Mo_about_29 (by decide) (fun g1 => ?_) (fun g1 => ?_)
    · rw [if_neg (fun z => by rw [z] at g1; exact absurd g1 (by decide)), if_neg (fun z => by rw [z] at g1; exact absurd g1 (by decide)), if_neg (fun z => by rw [z] at g1; exact absurd g1 (by decide)), if_neg (fun z => by rw [z] at g1; exact absurd g1 (by decide))] at hQ
      refine lv_iconst (v := (-1)) cx.x cx.b d_Mo_about_37 (by decide) ?_
      rw [← hQ]
      exact hx_reti cx.x cx.b cx.r cx.k rfl hlo (fun _ h => h) (Nat.le_of_ble_eq_true rfl) (Nat.le_of_ble_eq_true rfl) d_Mo_about_38 (⟨rfl, rfl⟩)
    · refine lv_iload_n cx.x cx.b d_Mo_about_32 rfl (lv_at hl 4 rfl) ?_
      refine lv_iconst (v := 3) cx.x cx.b d_Mo_about_33 (by decide) ?_
      refine lv_icmp_le (tgt := 39) cx.x cx.b d_Mo_about_34 (by decide) (fun g2 => ?_) (fun g2 => ?_)
      · refine lv_iload_n cx.x cx.b d_Mo_about_39 rfl (lv_at hl 4 rfl) ?_
        refine lv_if_ne (tgt := 53) cx.x cx.b d_Mo_about_40 (by decide) (fun g3 => ?_) (fun g3 => ?_)
        · rw [if_neg g3] at hQ
          refine lv_iload_n cx.x cx.b d_Mo_about_53 rfl (lv_at hl 4 rfl) ?_
          refine lv_iconst (v := 1) cx.x cx.b d_Mo_about_54 (by decide) ?_
          refine lv_icmp_ne (tgt := 68) cx.x cx.b d_Mo_about_55 (by decide) (fun g4 => ?_) (fun g4 => ?_)
          · rw [if_neg g4] at hQ
            refine lv_iload_n cx.x cx.b d_Mo_about_68 rfl (lv_at hl 4 rfl) ?_
            refine lv_iconst (v := 2) cx.x cx.b d_Mo_about_69 (by decide) ?_
            refine lv_icmp_ne (tgt := 82) cx.x cx.b d_Mo_about_70 (by decide) (fun g5 => ?_) (fun g5 => ?_)
            · rw [if_neg g5] at hQ
              have g6 : q = 3 := by rcases (pk_ix q (n := 4) (by omega)) with z | z | ⟨j, hj, z⟩; exact absurd z g1; exact absurd z (fun z9 => absurd (Int32.le_trans z9 g2) (by decide)); rcases (show j = 0 ∨ j = 1 ∨ j = 2 ∨ j = 3 by omega) with e | e | e | e; rw [e] at z; exact absurd z g3; rw [e] at z; exact absurd z g4; rw [e] at z; exact absurd z g5; rw [e] at z; exact z
              rw [if_pos g6] at hQ
              refine lv_aload_n cx.x cx.b d_Mo_about_82 rfl (lv_at hl 1 rfl) ?_
              refine gf_Mo_28_Mo cx M0.1.1 rfl d_Mo_about_83 ?_
              refine lv_iload cx.x cx.b d_Mo_about_86 (lv_at hl 0 rfl) ?_
              refine hx_iald cx.x cx.b cx.K 0 (M0.1.2.1 6 (by decide)) rfl (show vp_in (nI (108 * b1 + k1)) 217 from vp_in_nI (show (108 * b1 + k1) < 217 by omega) (by decide)) d_Mo_about_88 ?_
              refine lv_topi (fun x51 e_x51 => ?_)
              have e_x51 : x51 = nI ((U.getD k1 default).1.1.length) := e_x51.trans (congrArg nI ((congrArg (g.1 6) (nI_clamp (n := (108 * b1 + k1)) (by omega))).trans (u1.1.1)))
              subst e_x51
              rw [← hQ]
              exact hx_reti cx.x cx.b cx.r cx.k rfl hlo (fun _ h => h) (Nat.le_of_ble_eq_true rfl) (Nat.le_of_ble_eq_true rfl) d_Mo_about_89 (⟨rfl, rfl⟩)
            · rw [if_pos g5] at hQ
              refine lv_aload_n cx.x cx.b d_Mo_about_73 rfl (lv_at hl 1 rfl) ?_
              refine lv_iload cx.x cx.b d_Mo_about_74 (lv_at hl 0 rfl) ?_
              refine hx_calli (iv_Mo_192_Mo cx (c_Mo_count l hE M (b := b1) (t := k1) hb1 (by omega)) M0.1.1 rfl hl.1 rfl (Nat.le_of_ble_eq_true rfl) d_Mo_about_76 ⟨Nat.le_of_ble_eq_true rfl, Nat.le_of_ble_eq_true rfl⟩ ⟨Nat.le_of_ble_eq_true rfl, Nat.le_of_ble_eq_true rfl⟩) hlo (fun _ h => h) (fun r50 H49 locs hp48 hlo => ?_)
              obtain ⟨hp48, hH9⟩ := hp48
              have hH9 := hH9.symm
              subst hH9
              subst hp48
              refine lv_goto (tgt := 89) cx.x cx.b d_Mo_about_79 (by decide) ?_
              rw [← hQ]
              exact hx_reti cx.x cx.b cx.r cx.k rfl hlo (fun _ h => h) (Nat.le_of_ble_eq_true rfl) (Nat.le_of_ble_eq_true rfl) d_Mo_about_89 (⟨by rw [u2]; exact congrArg nI (srtM_perm _).length_eq.symm, rfl⟩)
          · rw [if_pos g4] at hQ
            refine lv_aload_n cx.x cx.b d_Mo_about_58 rfl (lv_at hl 1 rfl) ?_
            refine gf_Mo_37_Mo cx M0.1.1 rfl d_Mo_about_59 ?_
            refine lv_iload cx.x cx.b d_Mo_about_62 (lv_at hl 0 rfl) ?_
            refine hx_iald cx.x cx.b cx.K 0 (M0.1.2.1 9 (by decide)) rfl (show vp_in (nI (108 * b1 + k1)) 217 from vp_in_nI (show (108 * b1 + k1) < 217 by omega) (by decide)) d_Mo_about_64 ?_
            refine lv_topi (fun x47 e_x47 => ?_)
            have e_x47 : x47 = nI ((U.getD k1 default).1.2.2.2) := e_x47.trans (congrArg nI ((congrArg (g.1 9) (nI_clamp (n := (108 * b1 + k1)) (by omega))).trans (u1.2.2.2.1)))
            subst e_x47
            refine lv_goto (tgt := 89) cx.x cx.b d_Mo_about_65 (by decide) ?_
            rw [← hQ]
            exact hx_reti cx.x cx.b cx.r cx.k rfl hlo (fun _ h => h) (Nat.le_of_ble_eq_true rfl) (Nat.le_of_ble_eq_true rfl) d_Mo_about_89 (⟨rfl, rfl⟩)
        · rw [if_pos g3] at hQ
          refine lv_aload_n cx.x cx.b d_Mo_about_43 rfl (lv_at hl 1 rfl) ?_
          refine gf_Mo_34_Mo cx M0.1.1 rfl d_Mo_about_44 ?_
          refine lv_iload cx.x cx.b d_Mo_about_47 (lv_at hl 0 rfl) ?_
          refine hx_iald cx.x cx.b cx.K 0 (M0.1.2.1 8 (by decide)) rfl (show vp_in (nI (108 * b1 + k1)) 217 from vp_in_nI (show (108 * b1 + k1) < 217 by omega) (by decide)) d_Mo_about_49 ?_
          refine lv_topi (fun x46 e_x46 => ?_)
          have e_x46 : x46 = nI ((U.getD k1 default).1.2.2.1) := e_x46.trans (congrArg nI ((congrArg (g.1 8) (nI_clamp (n := (108 * b1 + k1)) (by omega))).trans (u1.2.2.1)))
          subst e_x46
          refine lv_goto (tgt := 89) cx.x cx.b d_Mo_about_50 (by decide) ?_
          rw [← hQ]
          exact hx_reti cx.x cx.b cx.r cx.k rfl hlo (fun _ h => h) (Nat.le_of_ble_eq_true rfl) (Nat.le_of_ble_eq_true rfl) d_Mo_about_89 (⟨rfl, rfl⟩)
      · rw [if_neg (fun z => by rw [z] at g2; exact absurd (by decide) g2), if_neg (fun z => by rw [z] at g2; exact absurd (by decide) g2), if_neg (fun z => by rw [z] at g2; exact absurd (by decide) g2), if_neg (fun z => by rw [z] at g2; exact absurd (by decide) g2)] at hQ
        refine lv_iconst (v := (-1)) cx.x cx.b d_Mo_about_37 (by decide) ?_
        rw [← hQ]
        exact hx_reti cx.x cx.b cx.r cx.k rfl hlo (fun _ h => h) (Nat.le_of_ble_eq_true rfl) (Nat.le_of_ble_eq_true rfl) d_Mo_about_38 (⟨rfl, rfl⟩)

set_option maxHeartbeats 4000000 in
set_option maxRecDepth 100000 in
theorem c_Mo_aboutN (l : Launch) {E : hE} (hE : EnvOk E) {H : Heap} {a : Nat} {ad : Nat → Nat} {g : MS} (M : Mo E H a ad g) {b : Int32} (hb : ¬ (b = 0 ∨ b = 1)) (t q : Int32) : Ct l E y_Mo_about b_Mo_about 5 (some .int) (rmA 2 0 0) [.ref a, .int b, .int t, .int q] H (hQi (fun r H1 => r = -1 ∧ H1 = H)) := by
  refine hx_enter hE (by decide) (Nat.le_of_ble_eq_true rfl) ?_
  intro p e s m args below meth c ls cx hnm hl
  have hl : lv_has ls 5 [(0, .ref a), (1, .int b), (2, .int t), (3, .int q)] := hl
  have hlo : hLo (eB E) [] := hLo.nil
  generalize hQ : MQ below _ args s _ _ _ = Q
  have M0 : Mw E H H a ad g := ⟨M, hCh.rf, rfl⟩
  refine lv_iload_n cx.x cx.b d_Mo_about_0 rfl (lv_at hl 1 rfl) ?_
  refine hx_calli (iv_Mo_173 cx (c_Mo_none l hE (H := H) b) rfl hl.1 rfl (Nat.le_of_ble_eq_true rfl) d_Mo_about_1 ⟨Nat.le_of_ble_eq_true rfl, Nat.le_of_ble_eq_true rfl⟩ ⟨Nat.le_of_ble_eq_true rfl, Nat.le_of_ble_eq_true rfl⟩) hlo (fun _ h => h) (fun r54 H53 locs hp52 hlo => ?_)
  obtain ⟨hp52, hH9⟩ := hp52
  have hH9 := hH9.symm
  subst hH9
  rw [decide_eq_true hb] at hp52
  subst hp52
  refine lv_if_eq (tgt := 11) cx.x cx.b d_Mo_about_4 (by decide) (fun c => absurd c (by decide)) (fun _ => ?_)
  refine lv_iconst (v := (-1)) cx.x cx.b d_Mo_about_7 (by decide) ?_
  refine lv_goto (tgt := 21) cx.x cx.b d_Mo_about_8 (by decide) ?_
  refine lv_istore (lv' := [(4, .int (-1)), (0, .ref a), (1, .int b), (2, .int t), (3, .int q)]) cx.x cx.b d_Mo_about_21 hl (by decide) rfl (fun ls hl => ?_)
  refine lv_iload cx.x cx.b d_Mo_about_23 (lv_at hl 0 rfl) ?_
  refine lv_if_lt (tgt := 37) cx.x cx.b d_Mo_about_25 (by decide) (fun _ => ?_) (fun c => absurd (by decide) c)
  refine lv_iconst (v := (-1)) cx.x cx.b d_Mo_about_37 (by decide) ?_
  rw [← hQ]
  exact hx_reti cx.x cx.b cx.r cx.k rfl hlo (fun _ h => h) (Nat.le_of_ble_eq_true rfl) (Nat.le_of_ble_eq_true rfl) d_Mo_about_38 (⟨rfl, rfl⟩)

set_option maxHeartbeats 4000000 in
set_option maxRecDepth 100000 in
theorem c_Mo_memberAt (l : Launch) {E : hE} (hE : EnvOk E) {H : Heap} {a : Nat} {ad : Nat → Nat} {g : MS} (M : Mo E H a ad g) (hcr : g.2 2 = 0 ∨ g.2 2 = 1) {b : Nat} (hb : b < 2) {U C : List TU} (hU : Rows g.1 (if g.2 2 = 0 then b else 1 - b) U) (hC : Srt C U) (hd : ∀ u ∈ U, u.2.Pairwise (fun a b => cmpD a b ≠ 0)) (t q : Int32) : Ct l E y_Mo_memberAt b_Mo_memberAt 5 (some .int) (rmA 3 0 0) [.ref a, .int (nI b), .int t, .int q] H (hQi (fun r H1 => RwO g.1 ((tyC C t.toInt).bind (fun c => mbC c.2 q.toInt)) r ∧ H1 = H)) := by
  refine hx_enter hE (by decide) (Nat.le_of_ble_eq_true rfl) ?_
  intro p e s m args below meth c ls cx hnm hl
  have hl : lv_has ls 5 [(0, .ref a), (1, .int (nI b)), (2, .int t), (3, .int q)] := hl
  have hlo : hLo (eB E) [] := hLo.nil
  generalize hQ : MQ below _ args s _ _ _ = Q
  have M0 : Mw E H H a ad g := ⟨M, hCh.rf, rfl⟩
  have hb1 : (if g.2 2 = 0 then b else 1 - b) < 2 := by by_cases c : (g.2 2) = 0; rw [if_pos c]; exact hb; rw [if_neg c]; omega
  have hsd := c_Mo_side l hE M hcr hb
  generalize (if g.2 2 = 0 then b else 1 - b) = b1 at *
  refine lv_iload_n cx.x cx.b d_Mo_memberAt_0 rfl (lv_at hl 1 rfl) ?_
  refine hx_calli (iv_Mo_173 cx (c_Mo_none l hE (H := H) (nI b)) rfl hl.1 rfl (Nat.le_of_ble_eq_true rfl) d_Mo_memberAt_1 ⟨Nat.le_of_ble_eq_true rfl, Nat.le_of_ble_eq_true rfl⟩ ⟨Nat.le_of_ble_eq_true rfl, Nat.le_of_ble_eq_true rfl⟩) hlo (fun _ h => h) (fun r57 H56 locs hp55 hlo => ?_)
  obtain ⟨hp55, hH9⟩ := hp55
  have hH9 := hH9.symm
  subst hH9
  rw [show decide (¬ (nI b = 0 ∨ nI b = 1)) = false from decide_eq_false (fun z => z (by rcases (show b = 0 ∨ b = 1 by omega) with e | e; rw [e]; exact Or.inl rfl; rw [e]; exact Or.inr rfl))] at hp55
  subst hp55
  refine lv_if_eq (tgt := 11) cx.x cx.b d_Mo_memberAt_4 (by decide) (fun _ => ?_) (fun c => absurd (by decide) c)
  refine lv_aload_n cx.x cx.b d_Mo_memberAt_11 rfl (lv_at hl 0 rfl) ?_
  refine lv_aload_n cx.x cx.b d_Mo_memberAt_12 rfl (lv_at hl 0 rfl) ?_
  refine lv_iload_n cx.x cx.b d_Mo_memberAt_13 rfl (lv_at hl 1 rfl) ?_
  refine hx_calli (iv_Mo_176_Mo cx (hsd) M0.1.1 rfl hl.1 rfl (Nat.le_of_ble_eq_true rfl) d_Mo_memberAt_14 ⟨Nat.le_of_ble_eq_true rfl, Nat.le_of_ble_eq_true rfl⟩ ⟨Nat.le_of_ble_eq_true rfl, Nat.le_of_ble_eq_true rfl⟩) hlo (fun _ h => h) (fun r60 H59 locs hp58 hlo => ?_)
  obtain ⟨hp58, hH9⟩ := hp58
  have hH9 := hH9.symm
  subst hH9
  subst hp58
  refine lv_iload_n cx.x cx.b d_Mo_memberAt_17 rfl (lv_at hl 2 rfl) ?_
  refine hx_calli (iv_Mo_217_Mo cx (c_Mo_typeRow l hE M hb1 hU hC t) M0.1.1 rfl hl.1 rfl (Nat.le_of_ble_eq_true rfl) d_Mo_memberAt_18 ⟨Nat.le_of_ble_eq_true rfl, Nat.le_of_ble_eq_true rfl⟩ ⟨Nat.le_of_ble_eq_true rfl, Nat.le_of_ble_eq_true rfl⟩) hlo (fun _ h => h) (fun r63 H62 locs hp61 hlo => ?_)
  obtain ⟨hp61, hH9⟩ := hp61
  have hH9 := hH9.symm
  subst hH9
  have hrt := hp61
  have hl12 := hU.2.1
  rcases hty : tyC C t.toInt with _ | c1
  · rw [hty] at hrt
    have hrt : r63 = -1 := hrt
    subst hrt
    rw [hty] at hQ
    refine lv_istore (lv' := [(4, .int (-1)), (0, .ref a), (1, .int (nI b)), (2, .int t), (3, .int q)]) cx.x cx.b d_Mo_memberAt_21 hl (by decide) rfl (fun ls hl => ?_)
    refine lv_iload cx.x cx.b d_Mo_memberAt_23 (lv_at hl 0 rfl) ?_
    refine lv_if_ge (tgt := 32) cx.x cx.b d_Mo_memberAt_25 (by decide) (fun c => absurd c (by decide)) (fun _ => ?_)
    refine lv_iconst (v := (-1)) cx.x cx.b d_Mo_memberAt_28 (by decide) ?_
    refine lv_goto (tgt := 39) cx.x cx.b d_Mo_memberAt_29 (by decide) ?_
    rw [← hQ]
    exact hx_reti cx.x cx.b cx.r cx.k rfl hlo (fun _ h => h) (Nat.le_of_ble_eq_true rfl) (Nat.le_of_ble_eq_true rfl) d_Mo_memberAt_39 (⟨rfl, rfl⟩)
  · rw [hty] at hrt
    obtain ⟨k1, hk1, hc1, hrt⟩ := hrt
    subst hrt
    rw [hty] at hQ
    subst hc1
    refine lv_istore (lv' := [(4, .int (nI (108 * b1 + k1))), (0, .ref a), (1, .int (nI b)), (2, .int t), (3, .int q)]) cx.x cx.b d_Mo_memberAt_21 hl (by decide) rfl (fun ls hl => ?_)
    refine lv_iload cx.x cx.b d_Mo_memberAt_23 (lv_at hl 0 rfl) ?_
    refine lv_if_ge (tgt := 32) cx.x cx.b d_Mo_memberAt_25 (by decide) (fun _ => ?_) (fun c => absurd (Int32.not_lt.mp (nI_pos (by omega))) c)
    refine lv_aload_n cx.x cx.b d_Mo_memberAt_32 rfl (lv_at hl 1 rfl) ?_
    refine lv_iload cx.x cx.b d_Mo_memberAt_33 (lv_at hl 0 rfl) ?_
    refine lv_iload_n cx.x cx.b d_Mo_memberAt_35 rfl (lv_at hl 4 rfl) ?_
    refine hx_calli (iv_Mo_220_Mo cx (c_Mo_memberRow l hE M hb1 hU hk1 (hd _ (mem_getDU.mpr ⟨k1, hk1, rfl⟩)) q) M0.1.1 rfl hl.1 rfl (Nat.le_of_ble_eq_true rfl) d_Mo_memberAt_36 ⟨Nat.le_of_ble_eq_true rfl, Nat.le_of_ble_eq_true rfl⟩ ⟨Nat.le_of_ble_eq_true rfl, Nat.le_of_ble_eq_true rfl⟩) hlo (fun _ h => h) (fun r66 H65 locs hp64 hlo => ?_)
    obtain ⟨hp64, hH9⟩ := hp64
    have hH9 := hH9.symm
    subst hH9
    have hrm := hp64
    obtain ⟨u1, u2, u3, u4⟩ := hU.2.2 k1 hk1
    rcases hmb : mbC (srtM (U.getD k1 default).2) q.toInt with _ | d1
    · have hQ2 : ((some (srU (U.getD k1 default))).bind (fun c => mbC c.2 q.toInt)) = mbC (srtM (U.getD k1 default).2) q.toInt := rfl
      rw [hQ2, hmb] at hQ
      rw [hmb] at hrm
      rw [← hQ]
      exact hx_reti cx.x cx.b cx.r cx.k rfl hlo (fun _ h => h) (Nat.le_of_ble_eq_true rfl) (Nat.le_of_ble_eq_true rfl) d_Mo_memberAt_39 (⟨hrm, rfl⟩)
    · have hQ2 : ((some (srU (U.getD k1 default))).bind (fun c => mbC c.2 q.toInt)) = mbC (srtM (U.getD k1 default).2) q.toInt := rfl
      rw [hQ2, hmb] at hQ
      rw [hmb] at hrm
      rw [← hQ]
      exact hx_reti cx.x cx.b cx.r cx.k rfl hlo (fun _ h => h) (Nat.le_of_ble_eq_true rfl) (Nat.le_of_ble_eq_true rfl) d_Mo_memberAt_39 (⟨by obtain ⟨j, hj, e, er⟩ := hrm; exact ⟨_, by omega, by rw [e]; exact u4 j hj, er⟩, rfl⟩)

set_option maxHeartbeats 4000000 in
set_option maxRecDepth 100000 in
theorem c_Mo_memberAtN (l : Launch) {E : hE} (hE : EnvOk E) {H : Heap} {a : Nat} {ad : Nat → Nat} {g : MS} (M : Mo E H a ad g) {b : Int32} (hb : ¬ (b = 0 ∨ b = 1)) (t q : Int32) : Ct l E y_Mo_memberAt b_Mo_memberAt 5 (some .int) (rmA 3 0 0) [.ref a, .int b, .int t, .int q] H (hQi (fun r H1 => r = -1 ∧ H1 = H)) := by
  refine hx_enter hE (by decide) (Nat.le_of_ble_eq_true rfl) ?_
  intro p e s m args below meth c ls cx hnm hl
  have hl : lv_has ls 5 [(0, .ref a), (1, .int b), (2, .int t), (3, .int q)] := hl
  have hlo : hLo (eB E) [] := hLo.nil
  generalize hQ : MQ below _ args s _ _ _ = Q
  have M0 : Mw E H H a ad g := ⟨M, hCh.rf, rfl⟩
  refine lv_iload_n cx.x cx.b d_Mo_memberAt_0 rfl (lv_at hl 1 rfl) ?_
  refine hx_calli (iv_Mo_173 cx (c_Mo_none l hE (H := H) b) rfl hl.1 rfl (Nat.le_of_ble_eq_true rfl) d_Mo_memberAt_1 ⟨Nat.le_of_ble_eq_true rfl, Nat.le_of_ble_eq_true rfl⟩ ⟨Nat.le_of_ble_eq_true rfl, Nat.le_of_ble_eq_true rfl⟩) hlo (fun _ h => h) (fun r69 H68 locs hp67 hlo => ?_)
  obtain ⟨hp67, hH9⟩ := hp67
  have hH9 := hH9.symm
  subst hH9
  rw [decide_eq_true hb] at hp67
  subst hp67
  refine lv_if_eq (tgt := 11) cx.x cx.b d_Mo_memberAt_4 (by decide) (fun c => absurd c (by decide)) (fun _ => ?_)
  refine lv_iconst (v := (-1)) cx.x cx.b d_Mo_memberAt_7 (by decide) ?_
  refine lv_goto (tgt := 21) cx.x cx.b d_Mo_memberAt_8 (by decide) ?_
  refine lv_istore (lv' := [(4, .int (-1)), (0, .ref a), (1, .int b), (2, .int t), (3, .int q)]) cx.x cx.b d_Mo_memberAt_21 hl (by decide) rfl (fun ls hl => ?_)
  refine lv_iload cx.x cx.b d_Mo_memberAt_23 (lv_at hl 0 rfl) ?_
  refine lv_if_ge (tgt := 32) cx.x cx.b d_Mo_memberAt_25 (by decide) (fun c => absurd c (by decide)) (fun _ => ?_)
  refine lv_iconst (v := (-1)) cx.x cx.b d_Mo_memberAt_28 (by decide) ?_
  refine lv_goto (tgt := 39) cx.x cx.b d_Mo_memberAt_29 (by decide) ?_
  rw [← hQ]
  exact hx_reti cx.x cx.b cx.r cx.k rfl hlo (fun _ h => h) (Nat.le_of_ble_eq_true rfl) (Nat.le_of_ble_eq_true rfl) d_Mo_memberAt_39 (⟨rfl, rfl⟩)

set_option maxHeartbeats 4000000 in
set_option maxRecDepth 100000 in
theorem c_Mo_member (l : Launch) {E : hE} (hE : EnvOk E) {H : Heap} {a : Nat} {ad : Nat → Nat} {g : MS} (M : Mo E H a ad g) (hcr : g.2 2 = 0 ∨ g.2 2 = 1) {b : Nat} (hb : b < 2) {U C : List TU} (hU : Rows g.1 (if g.2 2 = 0 then b else 1 - b) U) (hC : Srt C U) (hd : ∀ u ∈ U, u.2.Pairwise (fun a b => cmpD a b ≠ 0)) (t x q : Int32) : Ct l E y_Mo_member b_Mo_member 6 (some .int) (rmA 4 0 0) [.ref a, .int (nI b), .int t, .int x, .int q] H (hQi (fun r H1 => r = meC ((tyC C t.toInt).bind (fun c => mbC c.2 x.toInt)) q ∧ H1 = H)) := by
  refine hx_enter hE (by decide) (Nat.le_of_ble_eq_true rfl) ?_
  intro p e s m args below meth c ls cx hnm hl
  have hl : lv_has ls 6 [(0, .ref a), (1, .int (nI b)), (2, .int t), (3, .int x), (4, .int q)] := hl
  have hlo : hLo (eB E) [] := hLo.nil
  generalize hQ : MQ below _ args s _ _ _ = Q
  have M0 : Mw E H H a ad g := ⟨M, hCh.rf, rfl⟩
  refine lv_aload_n cx.x cx.b d_Mo_member_0 rfl (lv_at hl 0 rfl) ?_
  refine lv_iload_n cx.x cx.b d_Mo_member_1 rfl (lv_at hl 1 rfl) ?_
  refine lv_iload_n cx.x cx.b d_Mo_member_2 rfl (lv_at hl 2 rfl) ?_
  refine lv_iload_n cx.x cx.b d_Mo_member_3 rfl (lv_at hl 3 rfl) ?_
  refine hx_calli (iv_Mo_230_Mo cx (c_Mo_memberAt l hE M hcr hb hU hC hd t x) M0.1.1 rfl hl.1 rfl (Nat.le_of_ble_eq_true rfl) d_Mo_member_4 ⟨Nat.le_of_ble_eq_true rfl, Nat.le_of_ble_eq_true rfl⟩ ⟨Nat.le_of_ble_eq_true rfl, Nat.le_of_ble_eq_true rfl⟩) hlo (fun _ h => h) (fun r72 H71 locs hp70 hlo => ?_)
  obtain ⟨hp70, hH9⟩ := hp70
  have hH9 := hH9.symm
  subst hH9
  have hro := hp70
  generalize (tyC C t.toInt).bind (fun c => mbC c.2 x.toInt) = o9 at hro hQ
  rcases o9 with _ | d1
  · have hro : r72 = -1 := hro
    subst hro
    refine lv_istore (lv' := [(5, .int (-1)), (0, .ref a), (1, .int (nI b)), (2, .int t), (3, .int x), (4, .int q)]) cx.x cx.b d_Mo_member_7 hl (by decide) rfl (fun ls hl => ?_)
    refine lv_iload cx.x cx.b d_Mo_member_9 (lv_at hl 0 rfl) ?_
    refine lv_if_lt (tgt := 25) cx.x cx.b d_Mo_member_11 (by decide) (fun _ => ?_) (fun c => absurd (by decide) c)
    refine lv_iconst (v := (-1)) cx.x cx.b d_Mo_member_25 (by decide) ?_
    rw [← hQ]
    exact hx_reti cx.x cx.b cx.r cx.k rfl hlo (fun _ h => h) (Nat.le_of_ble_eq_true rfl) (Nat.le_of_ble_eq_true rfl) d_Mo_member_26 (⟨rfl, rfl⟩)
  · obtain ⟨k1, hk1, u1, hro⟩ := hro
    subst hro
    unfold meC at hQ
    simp only at hQ
    refine lv_istore (lv' := [(5, .int (nI k1)), (0, .ref a), (1, .int (nI b)), (2, .int t), (3, .int x), (4, .int q)]) cx.x cx.b d_Mo_member_7 hl (by decide) rfl (fun ls hl => ?_)
    refine lv_iload cx.x cx.b d_Mo_member_9 (lv_at hl 0 rfl) ?_
    refine lv_if_lt (tgt := 25) cx.x cx.b d_Mo_member_11 (by decide) (fun c => absurd c (nI_pos (by omega))) (fun _ => ?_)
    refine lv_iload cx.x cx.b d_Mo_member_14 (lv_at hl 5 rfl) ?_
    refine lv_if_lt (tgt := 25) cx.x cx.b d_Mo_member_16 (by decide) (fun g1 => ?_) (fun g1 => ?_)
    · rw [if_neg (fun z => by rw [z] at g1; exact absurd g1 (by decide)), if_neg (fun z => by rw [z] at g1; exact absurd g1 (by decide)), if_neg (fun z => by rw [z] at g1; exact absurd g1 (by decide)), if_neg (fun z => by rw [z] at g1; exact absurd g1 (by decide))] at hQ
      refine lv_iconst (v := (-1)) cx.x cx.b d_Mo_member_25 (by decide) ?_
      rw [← hQ]
      exact hx_reti cx.x cx.b cx.r cx.k rfl hlo (fun _ h => h) (Nat.le_of_ble_eq_true rfl) (Nat.le_of_ble_eq_true rfl) d_Mo_member_26 (⟨rfl, rfl⟩)
    · refine lv_iload cx.x cx.b d_Mo_member_19 (lv_at hl 5 rfl) ?_
      refine lv_iconst (v := 3) cx.x cx.b d_Mo_member_21 (by decide) ?_
      refine lv_icmp_le (tgt := 27) cx.x cx.b d_Mo_member_22 (by decide) (fun g2 => ?_) (fun g2 => ?_)
      · refine lv_iload cx.x cx.b d_Mo_member_27 (lv_at hl 5 rfl) ?_
        refine lv_if_ne (tgt := 42) cx.x cx.b d_Mo_member_29 (by decide) (fun g3 => ?_) (fun g3 => ?_)
        · rw [if_neg g3] at hQ
          refine lv_iload cx.x cx.b d_Mo_member_42 (lv_at hl 5 rfl) ?_
          refine lv_iconst (v := 1) cx.x cx.b d_Mo_member_44 (by decide) ?_
          refine lv_icmp_ne (tgt := 58) cx.x cx.b d_Mo_member_45 (by decide) (fun g4 => ?_) (fun g4 => ?_)
          · rw [if_neg g4] at hQ
            refine lv_iload cx.x cx.b d_Mo_member_58 (lv_at hl 5 rfl) ?_
            refine lv_iconst (v := 2) cx.x cx.b d_Mo_member_60 (by decide) ?_
            refine lv_icmp_ne (tgt := 74) cx.x cx.b d_Mo_member_61 (by decide) (fun g5 => ?_) (fun g5 => ?_)
            · rw [if_neg g5] at hQ
              have g6 : q = 3 := by rcases (pk_ix q (n := 4) (by omega)) with z | z | ⟨j, hj, z⟩; exact absurd z g1; exact absurd z (fun z9 => absurd (Int32.le_trans z9 g2) (by decide)); rcases (show j = 0 ∨ j = 1 ∨ j = 2 ∨ j = 3 by omega) with e | e | e | e; rw [e] at z; exact absurd z g3; rw [e] at z; exact absurd z g4; rw [e] at z; exact absurd z g5; rw [e] at z; exact z
              rw [if_pos g6] at hQ
              refine lv_aload_n cx.x cx.b d_Mo_member_74 rfl (lv_at hl 1 rfl) ?_
              refine gf_Mo_31_Mo cx M0.1.1 rfl d_Mo_member_75 ?_
              refine lv_iload cx.x cx.b d_Mo_member_78 (lv_at hl 0 rfl) ?_
              refine hx_iald cx.x cx.b cx.K 0 (M0.1.2.1 7 (by decide)) rfl (show vp_in (nI k1) 217 from vp_in_nI (show k1 < 217 by omega) (by decide)) d_Mo_member_80 ?_
              refine lv_topi (fun x76 e_x76 => ?_)
              have e_x76 : x76 = nI d1.2.1.length := e_x76.trans (congrArg nI ((congrArg (g.1 7) (nI_clamp (n := k1) (by omega))).trans (u1.2.1.1)))
              subst e_x76
              rw [← hQ]
              exact hx_reti cx.x cx.b cx.r cx.k rfl hlo (fun _ h => h) (Nat.le_of_ble_eq_true rfl) (Nat.le_of_ble_eq_true rfl) d_Mo_member_81 (⟨rfl, rfl⟩)
            · rw [if_pos g5] at hQ
              refine lv_aload_n cx.x cx.b d_Mo_member_64 rfl (lv_at hl 1 rfl) ?_
              refine gf_Mo_28_Mo cx M0.1.1 rfl d_Mo_member_65 ?_
              refine lv_iload cx.x cx.b d_Mo_member_68 (lv_at hl 0 rfl) ?_
              refine hx_iald cx.x cx.b cx.K 0 (M0.1.2.1 6 (by decide)) rfl (show vp_in (nI k1) 217 from vp_in_nI (show k1 < 217 by omega) (by decide)) d_Mo_member_70 ?_
              refine lv_topi (fun x75 e_x75 => ?_)
              have e_x75 : x75 = nI d1.1.length := e_x75.trans (congrArg nI ((congrArg (g.1 6) (nI_clamp (n := k1) (by omega))).trans (u1.1.1)))
              subst e_x75
              refine lv_goto (tgt := 81) cx.x cx.b d_Mo_member_71 (by decide) ?_
              rw [← hQ]
              exact hx_reti cx.x cx.b cx.r cx.k rfl hlo (fun _ h => h) (Nat.le_of_ble_eq_true rfl) (Nat.le_of_ble_eq_true rfl) d_Mo_member_81 (⟨rfl, rfl⟩)
          · rw [if_pos g4] at hQ
            refine lv_aload_n cx.x cx.b d_Mo_member_48 rfl (lv_at hl 1 rfl) ?_
            refine gf_Mo_37_Mo cx M0.1.1 rfl d_Mo_member_49 ?_
            refine lv_iload cx.x cx.b d_Mo_member_52 (lv_at hl 0 rfl) ?_
            refine hx_iald cx.x cx.b cx.K 0 (M0.1.2.1 9 (by decide)) rfl (show vp_in (nI k1) 217 from vp_in_nI (show k1 < 217 by omega) (by decide)) d_Mo_member_54 ?_
            refine lv_topi (fun x74 e_x74 => ?_)
            have e_x74 : x74 = nI d1.2.2.2 := e_x74.trans (congrArg nI ((congrArg (g.1 9) (nI_clamp (n := k1) (by omega))).trans (u1.2.2.2.1)))
            subst e_x74
            refine lv_goto (tgt := 81) cx.x cx.b d_Mo_member_55 (by decide) ?_
            rw [← hQ]
            exact hx_reti cx.x cx.b cx.r cx.k rfl hlo (fun _ h => h) (Nat.le_of_ble_eq_true rfl) (Nat.le_of_ble_eq_true rfl) d_Mo_member_81 (⟨rfl, rfl⟩)
        · rw [if_pos g3] at hQ
          refine lv_aload_n cx.x cx.b d_Mo_member_32 rfl (lv_at hl 1 rfl) ?_
          refine gf_Mo_34_Mo cx M0.1.1 rfl d_Mo_member_33 ?_
          refine lv_iload cx.x cx.b d_Mo_member_36 (lv_at hl 0 rfl) ?_
          refine hx_iald cx.x cx.b cx.K 0 (M0.1.2.1 8 (by decide)) rfl (show vp_in (nI k1) 217 from vp_in_nI (show k1 < 217 by omega) (by decide)) d_Mo_member_38 ?_
          refine lv_topi (fun x73 e_x73 => ?_)
          have e_x73 : x73 = nI d1.2.2.1 := e_x73.trans (congrArg nI ((congrArg (g.1 8) (nI_clamp (n := k1) (by omega))).trans (u1.2.2.1)))
          subst e_x73
          refine lv_goto (tgt := 81) cx.x cx.b d_Mo_member_39 (by decide) ?_
          rw [← hQ]
          exact hx_reti cx.x cx.b cx.r cx.k rfl hlo (fun _ h => h) (Nat.le_of_ble_eq_true rfl) (Nat.le_of_ble_eq_true rfl) d_Mo_member_81 (⟨rfl, rfl⟩)
      · rw [if_neg (fun z => by rw [z] at g2; exact absurd (by decide) g2), if_neg (fun z => by rw [z] at g2; exact absurd (by decide) g2), if_neg (fun z => by rw [z] at g2; exact absurd (by decide) g2), if_neg (fun z => by rw [z] at g2; exact absurd (by decide) g2)] at hQ
        refine lv_iconst (v := (-1)) cx.x cx.b d_Mo_member_25 (by decide) ?_
        rw [← hQ]
        exact hx_reti cx.x cx.b cx.r cx.k rfl hlo (fun _ h => h) (Nat.le_of_ble_eq_true rfl) (Nat.le_of_ble_eq_true rfl) d_Mo_member_26 (⟨rfl, rfl⟩)

set_option maxHeartbeats 4000000 in
set_option maxRecDepth 100000 in
theorem c_Mo_memberN (l : Launch) {E : hE} (hE : EnvOk E) {H : Heap} {a : Nat} {ad : Nat → Nat} {g : MS} (M : Mo E H a ad g) {b : Int32} (hb : ¬ (b = 0 ∨ b = 1)) (t x q : Int32) : Ct l E y_Mo_member b_Mo_member 6 (some .int) (rmA 4 0 0) [.ref a, .int b, .int t, .int x, .int q] H (hQi (fun r H1 => r = -1 ∧ H1 = H)) := by
  refine hx_enter hE (by decide) (Nat.le_of_ble_eq_true rfl) ?_
  intro p e s m args below meth c ls cx hnm hl
  have hl : lv_has ls 6 [(0, .ref a), (1, .int b), (2, .int t), (3, .int x), (4, .int q)] := hl
  have hlo : hLo (eB E) [] := hLo.nil
  generalize hQ : MQ below _ args s _ _ _ = Q
  have M0 : Mw E H H a ad g := ⟨M, hCh.rf, rfl⟩
  refine lv_aload_n cx.x cx.b d_Mo_member_0 rfl (lv_at hl 0 rfl) ?_
  refine lv_iload_n cx.x cx.b d_Mo_member_1 rfl (lv_at hl 1 rfl) ?_
  refine lv_iload_n cx.x cx.b d_Mo_member_2 rfl (lv_at hl 2 rfl) ?_
  refine lv_iload_n cx.x cx.b d_Mo_member_3 rfl (lv_at hl 3 rfl) ?_
  refine hx_calli (iv_Mo_230_Mo cx (c_Mo_memberAtN l hE M hb t x) M0.1.1 rfl hl.1 rfl (Nat.le_of_ble_eq_true rfl) d_Mo_member_4 ⟨Nat.le_of_ble_eq_true rfl, Nat.le_of_ble_eq_true rfl⟩ ⟨Nat.le_of_ble_eq_true rfl, Nat.le_of_ble_eq_true rfl⟩) hlo (fun _ h => h) (fun r79 H78 locs hp77 hlo => ?_)
  obtain ⟨hp77, hH9⟩ := hp77
  have hH9 := hH9.symm
  subst hH9
  subst hp77
  refine lv_istore (lv' := [(5, .int (-1)), (0, .ref a), (1, .int b), (2, .int t), (3, .int x), (4, .int q)]) cx.x cx.b d_Mo_member_7 hl (by decide) rfl (fun ls hl => ?_)
  refine lv_iload cx.x cx.b d_Mo_member_9 (lv_at hl 0 rfl) ?_
  refine lv_if_lt (tgt := 25) cx.x cx.b d_Mo_member_11 (by decide) (fun _ => ?_) (fun c => absurd (by decide) c)
  refine lv_iconst (v := (-1)) cx.x cx.b d_Mo_member_25 (by decide) ?_
  rw [← hQ]
  exact hx_reti cx.x cx.b cx.r cx.k rfl hlo (fun _ h => h) (Nat.le_of_ble_eq_true rfl) (Nat.le_of_ble_eq_true rfl) d_Mo_member_26 (⟨rfl, rfl⟩)
