/-- the line under way -/
def OutR (f : Nat → Nat) (n : Nat) (O : List Nat) : Prop := n = O.length ∧ ∀ i, i < O.length → f i = O.getD i 0
theorem OutR.put {f : Nat → Nat} {n x : Nat} {O : List Nat} (h : OutR f n O) : OutR (updN f n x) (n + 1) (O ++ [x]) := ⟨by rw [List.length_append, List.length_singleton, h.1], by rw [h.1]; exact hold_snoc h.2⟩
theorem lN_ne {b : Nat} (h0 : 0 < b) (hb : b < 2 ^ 63) : ¬ lN b = 0 := fun z => by
  have := (pk_lEQ (a := b) (b := 0) hb (by decide)).mp z
  omega
theorem p128 {k : Nat} (h : k ≤ 8) : 128 ^ k < 2 ^ 63 := by
  have : 128 ^ k ≤ 128 ^ 8 := Nat.pow_le_pow_right (by decide) h
  have e : (128 : Nat) ^ 8 < 2 ^ 63 := by decide
  omega
theorem p128p (k : Nat) : 0 < 128 ^ k := Nat.pow_pos (by decide)
def scl (n i : Nat) : Nat := if i < n then 128 ^ (n - 1 - i) else 0
theorem scl_next {n i : Nat} (h : i < n) : scl n i / 128 = scl n (i + 1) := by
  unfold scl
  rw [if_pos h]
  by_cases c : i + 1 < n
  · rw [if_pos c, show n - 1 - i = (n - 1 - (i + 1)) + 1 by omega, Nat.pow_succ, Nat.mul_div_cancel _ (by decide)]
  · rw [if_neg c, show n - 1 - i = 0 by omega]
theorem scl_lt {n i : Nat} (h : n ≤ 9) : scl n i < 2 ^ 63 := by
  unfold scl
  by_cases c : i < n
  · rw [if_pos c]; exact p128 (by omega)
  · rw [if_neg c]; decide
theorem esc_snoc (fm : Nat) (xs : List Nat) {j : Nat} (h : j < xs.length) : escN fm (xs.take (j + 1)) = escN fm (xs.take j) ++ addN fm (xs.getD j 0) := by
  unfold escN
  rw [List.take_add_one, List.flatMap_append, List.getElem?_eq_getElem h, List.getD_eq_getElem?_getD, List.getElem?_eq_getElem h]
  show _ ++ List.flatMap (addN fm) [xs[j]] = _
  rw [List.flatMap_cons, List.flatMap_nil, List.append_nil]; rfl
theorem shb : ∀ mk, mk < 64 → ∀ k, k < 5 → (nI mk >>> (nI k &&& 31)) &&& 1 = nI (mk / 2 ^ k % 2) := by decide +kernel
theorem mkW_at {m : Bool} {mk k : Nat} (h : k < nMarks m) : mkW m mk (nMarks m - k) = (if mk / 2 ^ k % 2 = 1 then strL (markS m k) ++ [32] else []) ++ mkW m mk (nMarks m - (k + 1)) := by
  rw [show nMarks m - k = (nMarks m - (k + 1)) + 1 by omega]
  show (if mk / 2 ^ (nMarks m - (nMarks m - (k + 1) + 1)) % 2 = 1 then strL (markS m (nMarks m - (nMarks m - (k + 1) + 1))) ++ [32] else []) ++ _ = _
  rw [show nMarks m - (nMarks m - (k + 1) + 1) = k by omega]
theorem mk_hi {m : Bool} {mk k : Nat} (h : mk < 2 ^ nMarks m) (hk : nMarks m ≤ k) : mk / 2 ^ k % 2 = 0 := by
  have : 2 ^ nMarks m ≤ 2 ^ k := Nat.pow_le_pow_right (by decide) hk
  rw [Nat.div_eq_of_lt (by omega)]
theorem str14 : ∀ i, i < 15 → okW (strL i) ∧ strL i ≠ [] ∧ (strL i).length ≤ 9 := by unfold okW; decide
set_option maxHeartbeats 4000000 in
set_option maxRecDepth 100000 in
theorem c_Mo_say (l : Launch) {E : hE} (hE : EnvOk E) {H : Heap} {a : Nat} {ad : Nat → Nat} {g : MS} (M : Mo E H a ad g) {O : List Nat} (hO : OutR (g.1 12) (g.2 11) O) {x : List Nat} (hx : okW x) (hx0 : x ≠ []) (hx9 : x.length ≤ 9) (hl3 : O.length + 10 < 300) : Ct l E y_Mo_say b_Mo_say 5 none (rmA 1 0 0) [.ref a, .long (lN (wnum x))] H (hQv (fun H1 => ∃ (o9 : Nat → Nat) (n9 : Nat), Mw E H H1 a ad (up g.1 12 o9, up g.2 11 n9) ∧ OutR o9 n9 (O ++ (x ++ [32])))) := by
  refine hx_enter hE (by decide) (Nat.le_of_ble_eq_true rfl) ?_
  intro p e s m args below meth c ls cx hnm hl
  have hl : lv_has ls 5 [(0, .ref a), (1, .long (lN (wnum x)))] := hl
  have hlo : hLo (eB E) [] := hLo.nil
  generalize hQ : MQ below _ args s _ _ _ = Q
  have M0 : Mw E H H a ad g := ⟨M, hCh.rf, rfl⟩
  have hxl : ∀ c ∈ x, c < 128 := fun c hc => (hx c hc).2
  have hw1 := wnum_lt hxl hx9
  have hw2 := wnum_pow hxl
  have hw3 := wnum_ge hx hx0
  have hpos : 0 < x.length := List.length_pos_iff.mpr hx0
  have LQ : ∀ (k : Nat) (locs : List Loc) (i1 n9 : Nat) (o9 : Nat → Nat) (H5 : Heap), hLo (eB E) locs → (x.length - i1 < k) → (i1 ≤ x.length) → (Mw E H H5 a ad (up g.1 12 o9, up g.2 11 n9)) → (OutR o9 n9 (O ++ x.take i1)) → ∀ ls, lv_has ls 5 [(3, .long (lN (scl x.length i1))), (0, .ref a), (1, .long (lN (wnum x)))] → W p l e (rmA 1 0 0) s m args below meth c H5 locs 0 0 Q (F0 m 21 ls []) := by
    intro k
    induction k with
    | zero => intro locs i1 n9 o9 H5 hlo hk hi1 M5 hO9; exact absurd hk (by omega)
    | succ k ih =>
      intro locs i1 n9 o9 H5 hlo hk hi1 M5 hO9 ls hl
      have oM1 : hOb (eD E) classes H5 a 10 [.ref (ad 0), .int (nI (g.2 0)), .ref (ad 1), .int (nI (g.2 1)), .int (nI (g.2 2)), .ref (ad 2), .ref (ad 3), .ref (ad 4), .ref (ad 5), .ref (ad 6), .ref (ad 7), .ref (ad 8), .ref (ad 9), .ref (ad 10), .int (nI (g.2 3)), .int (nI (g.2 4)), .int (nI (g.2 5)), .int (nI (g.2 6)), .int (nI (g.2 7)), .ref (ad 11), .int (nI (g.2 8)), .int (nI (g.2 9)), .int (nI (g.2 10)), .ref (ad 12), .int (nI n9), .ref (ad 13)] := M5.1.1
      have hn9 := hO9.1
      rw [List.length_append, List.length_take] at hn9
      by_cases c1 : i1 < x.length
      · have hs0 : scl x.length i1 = 128 ^ (x.length - 1 - i1) := if_pos c1
        have hsp := p128p (x.length - 1 - i1)
        have hsl := scl_lt (n := x.length) (i := i1) hx9
        refine lv_lload_n cx.x cx.b d_Mo_say_21 rfl (lv_at hl 0 rfl) ?_
        refine lv_lconst (v := 0) cx.x cx.b d_Mo_say_22 (by decide) ?_
        refine W.lcmp cx.x cx.b d_Mo_say_23 ?_
        refine lv_if_le (tgt := 48) cx.x cx.b d_Mo_say_24 (by decide) (fun c => absurd ((lg_cmp_le _ _).mp c) (fun z => absurd ((pk_lLE (a := scl x.length i1) (b := 0) hsl (by decide)).mp z) (by omega))) (fun _ => ?_)
        refine lv_aload_n cx.x cx.b d_Mo_say_27 rfl (lv_at hl 1 rfl) ?_
        refine lv_lload_n cx.x cx.b d_Mo_say_28 rfl (lv_at hl 2 rfl) ?_
        refine lv_lload_n cx.x cx.b d_Mo_say_29 rfl (lv_at hl 0 rfl) ?_
        refine lv_ldiv cx.x cx.b d_Mo_say_30 (lN_ne (by omega) hsl) ?_
        refine lv_topl (fun x6 e_x6 => ?_)
        have e_x6 : x6 = lN ((wnum x) / (scl x.length i1)) := e_x6.trans (pk_lDiv hw1 (by omega) hsl)
        subst e_x6
        have hdl : wnum x / scl x.length i1 < 2 ^ 63 := Nat.lt_of_le_of_lt (Nat.div_le_self _ _) hw1
        refine lv_ldc2 cx.x cx.b cx.o (cx.ts _ tw_913) d_Mo_say_31 ?_
        refine lv_lrem cx.x cx.b d_Mo_say_34 (by decide) ?_
        refine lv_topl (fun x7 e_x7 => ?_)
        have e_x7 : x7 = lN ((wnum x / scl x.length i1) % 128) := e_x7.trans (pk_lRem hdl (by decide) (by decide))
        subst e_x7
        refine lv_l2i cx.x cx.b d_Mo_say_35 rfl ?_
        refine lv_topi (fun x8 e_x8 => ?_)
        have e_x8 : x8 = nI (x.getD i1 0) := e_x8.trans ((lN_i _).trans (congrArg nI (by rw [hs0]; exact wnum_dig hxl c1)))
        subst e_x8
        refine hx_callv (iv_Mo_198_Mo cx (c_Mo_put l hE M5.1 (x := x.getD i1 0) (show n9 < 300 by omega)) oM1 rfl hl.1 rfl (Nat.le_of_ble_eq_true rfl) d_Mo_say_36 ⟨Nat.le_of_ble_eq_true rfl, Nat.le_of_ble_eq_true rfl⟩ ⟨Nat.le_of_ble_eq_true rfl, Nat.le_of_ble_eq_true rfl⟩) hlo (fun _ h => h) (fun H10 locs hp9 hlo => ?_)
        have q_M11 := hp9
        have M11 : Mw E H H10 a ad (up g.1 12 (updN o9 n9 (x.getD i1 0)), up g.2 11 (n9 + 1)) := Mw.cg (M5.tr q_M11) rfl rfl rfl rfl rfl rfl rfl rfl rfl rfl rfl rfl rfl rfl rfl rfl rfl rfl rfl rfl rfl rfl rfl rfl rfl rfl
        have oM12 : hOb (eD E) classes H10 a 10 [.ref (ad 0), .int (nI (g.2 0)), .ref (ad 1), .int (nI (g.2 1)), .int (nI (g.2 2)), .ref (ad 2), .ref (ad 3), .ref (ad 4), .ref (ad 5), .ref (ad 6), .ref (ad 7), .ref (ad 8), .ref (ad 9), .ref (ad 10), .int (nI (g.2 3)), .int (nI (g.2 4)), .int (nI (g.2 5)), .int (nI (g.2 6)), .int (nI (g.2 7)), .ref (ad 11), .int (nI (g.2 8)), .int (nI (g.2 9)), .int (nI (g.2 10)), .ref (ad 12), .int (nI (n9 + 1)), .ref (ad 13)] := M11.1.1
        refine lv_lload_n cx.x cx.b d_Mo_say_39 rfl (lv_at hl 0 rfl) ?_
        refine lv_ldc2 cx.x cx.b cx.o (cx.ts _ tw_913) d_Mo_say_40 ?_
        refine lv_ldiv cx.x cx.b d_Mo_say_43 (by decide) ?_
        refine lv_topl (fun x13 e_x13 => ?_)
        have e_x13 : x13 = lN ((scl x.length i1) / 128) := e_x13.trans (pk_lDiv hsl (by decide) (by decide))
        subst e_x13
        rw [scl_next c1]
        refine lv_lstore_n (lv' := [(3, .long (lN (scl x.length (i1 + 1)))), (0, .ref a), (1, .long (lN (wnum x)))]) cx.x cx.b d_Mo_say_44 rfl hl (by decide) rfl (fun ls hl => ?_)
        refine lv_goto (tgt := 21) cx.x cx.b d_Mo_say_45 (by decide) ?_
        exact ih _ (i1 + 1) _ _ _ hlo (by omega) (by omega) M11 (by have := hO9.put (x := x.getD i1 0); rw [List.append_assoc] at this; rw [show x.take (i1 + 1) = x.take i1 ++ [x.getD i1 0] by rw [List.take_add_one, List.getElem?_eq_getElem c1, List.getD_eq_getElem?_getD, List.getElem?_eq_getElem c1]; rfl]; exact this) _ (lv_sub hl [0, 1, 2] rfl)
      · have hs0 : scl x.length i1 = 0 := if_neg c1
        rw [hs0] at hl
        refine lv_lload_n cx.x cx.b d_Mo_say_21 rfl (lv_at hl 0 rfl) ?_
        refine lv_lconst (v := 0) cx.x cx.b d_Mo_say_22 (by decide) ?_
        refine W.lcmp cx.x cx.b d_Mo_say_23 ?_
        refine lv_if_le (tgt := 48) cx.x cx.b d_Mo_say_24 (by decide) (fun _ => ?_) (fun c => absurd ((lg_cmp_le _ _).mpr (by decide)) c)
        refine lv_aload_n cx.x cx.b d_Mo_say_48 rfl (lv_at hl 1 rfl) ?_
        refine lv_bipush (v := 32) cx.x cx.b d_Mo_say_49 (by decide) ?_
        refine hx_callv (iv_Mo_198_Mo cx (c_Mo_put l hE M5.1 (x := 32) (show n9 < 300 by omega)) oM1 rfl hl.1 rfl (Nat.le_of_ble_eq_true rfl) d_Mo_say_51 ⟨Nat.le_of_ble_eq_true rfl, Nat.le_of_ble_eq_true rfl⟩ ⟨Nat.le_of_ble_eq_true rfl, Nat.le_of_ble_eq_true rfl⟩) hlo (fun _ h => h) (fun H3 locs hp2 hlo => ?_)
        have q_M4 := hp2
        have M4 : Mw E H H3 a ad (up g.1 12 (updN o9 n9 32), up g.2 11 (n9 + 1)) := Mw.cg (M5.tr q_M4) rfl rfl rfl rfl rfl rfl rfl rfl rfl rfl rfl rfl rfl rfl rfl rfl rfl rfl rfl rfl rfl rfl rfl rfl rfl rfl
        have oM5 : hOb (eD E) classes H3 a 10 [.ref (ad 0), .int (nI (g.2 0)), .ref (ad 1), .int (nI (g.2 1)), .int (nI (g.2 2)), .ref (ad 2), .ref (ad 3), .ref (ad 4), .ref (ad 5), .ref (ad 6), .ref (ad 7), .ref (ad 8), .ref (ad 9), .ref (ad 10), .int (nI (g.2 3)), .int (nI (g.2 4)), .int (nI (g.2 5)), .int (nI (g.2 6)), .int (nI (g.2 7)), .ref (ad 11), .int (nI (g.2 8)), .int (nI (g.2 9)), .int (nI (g.2 10)), .ref (ad 12), .int (nI (n9 + 1)), .ref (ad 13)] := M4.1.1
        rw [← hQ]
        exact hx_retv cx.x cx.b cx.r cx.k hlo (fun _ h => h) (Nat.le_of_ble_eq_true rfl) (Nat.le_of_ble_eq_true rfl) d_Mo_say_54 (⟨_, _, M4, by have := hO9.put (x := 32); rw [List.take_of_length_le (by omega), List.append_assoc] at this; exact this⟩)
  have LP : ∀ (k : Nat) (locs : List Loc) (k1 : Nat), hLo (eB E) locs → (x.length - k1 < k) → (k1 < x.length) → ∀ ls, lv_has ls 5 [(3, .long (lN (128 ^ k1))), (0, .ref a), (1, .long (lN (wnum x)))] → W p l e (rmA 1 0 0) s m args below meth c H locs 0 0 Q (F0 m 2 ls []) := by
    intro k
    induction k with
    | zero => intro locs k1 hlo hk hk1; exact absurd hk (by omega)
    | succ k ih =>
      intro locs k1 hlo hk hk1 ls hl
      have hp1 := p128p k1
      have hp2 := p128 (k := k1) (by omega)
      refine lv_lload_n cx.x cx.b d_Mo_say_2 rfl (lv_at hl 2 rfl) ?_
      refine lv_lload_n cx.x cx.b d_Mo_say_3 rfl (lv_at hl 0 rfl) ?_
      refine lv_ldiv cx.x cx.b d_Mo_say_4 (lN_ne hp1 hp2) ?_
      refine lv_topl (fun x14 e_x14 => ?_)
      have e_x14 : x14 = lN ((wnum x) / (128 ^ k1)) := e_x14.trans (pk_lDiv hw1 hp1 hp2)
      subst e_x14
      have hdl : wnum x / 128 ^ k1 < 2 ^ 63 := Nat.lt_of_le_of_lt (Nat.div_le_self _ _) hw1
      refine lv_ldc2 cx.x cx.b cx.o (cx.ts _ tw_913) d_Mo_say_5 ?_
      refine W.lcmp cx.x cx.b d_Mo_say_8 ?_
      refine lv_if_lt (tgt := 21) cx.x cx.b d_Mo_say_9 (by decide) (fun c1 => ?_) (fun c1 => ?_)
      · have c1 : wnum x / 128 ^ k1 < 128 := (pk_lLT (b := 128) hdl (by decide)).mp ((lg_cmp_lt _ _).mp c1)
        have hk2 : k1 = x.length - 1 := by
          by_cases q : k1 = x.length - 1
          · exact q
          · exfalso
            have h3 : 128 ^ (k1 + 1) ≤ 128 ^ (x.length - 1) := Nat.pow_le_pow_right (by decide) (by omega)
            have h4 : 128 ≤ wnum x / 128 ^ k1 := (Nat.le_div_iff_mul_le hp1).mpr (by rw [Nat.mul_comm, ← Nat.pow_succ]; omega)
            omega
        exact LQ _ _ 0 (g.2 11) (g.1 12) _ hlo (Nat.lt_succ_self _) (Nat.zero_le _) (Mw.cg M0 rfl rfl rfl rfl rfl rfl rfl rfl rfl rfl rfl rfl rfl rfl rfl rfl rfl rfl rfl rfl rfl rfl rfl rfl rfl rfl) (by rw [List.take_zero, List.append_nil]; exact hO) _ (by rw [show scl x.length 0 = 128 ^ k1 by unfold scl; rw [if_pos hpos, hk2, Nat.sub_zero]]; exact lv_sub hl [0, 1, 2] rfl)
      · have c1 : 128 ≤ wnum x / 128 ^ k1 := Nat.not_lt.mp (fun z => c1 ((lg_cmp_lt _ _).mpr ((pk_lLT (b := 128) hdl (by decide)).mpr z)))
        have hk2 : k1 + 1 < x.length := by
          by_cases q : k1 + 1 < x.length
          · exact q
          · exfalso
            have h4 := (Nat.le_div_iff_mul_le hp1).mp c1
            rw [Nat.mul_comm, ← Nat.pow_succ, show k1.succ = x.length by omega] at h4
            omega
        refine lv_lload_n cx.x cx.b d_Mo_say_12 rfl (lv_at hl 0 rfl) ?_
        refine lv_ldc2 cx.x cx.b cx.o (cx.ts _ tw_913) d_Mo_say_13 ?_
        refine lv_lmul cx.x cx.b d_Mo_say_16 ?_
        refine lv_topl (fun x15 e_x15 => ?_)
        have e_x15 : x15 = lN (128 ^ (k1 + 1)) := e_x15.trans ((lN_mul (128 ^ k1) 128).trans (congrArg lN (Nat.pow_succ 128 k1).symm))
        subst e_x15
        refine lv_lstore_n (lv' := [(3, .long (lN (128 ^ (k1 + 1)))), (0, .ref a), (1, .long (lN (wnum x)))]) cx.x cx.b d_Mo_say_17 rfl hl (by decide) rfl (fun ls hl => ?_)
        refine lv_goto (tgt := 2) cx.x cx.b d_Mo_say_18 (by decide) ?_
        exact ih _ (k1 + 1) hlo (by omega) (by omega) _ (lv_sub hl [0, 1, 2] rfl)
  refine lv_lconst (v := 1) cx.x cx.b d_Mo_say_0 (by decide) ?_
  refine lv_lstore_n (lv' := [(3, .long 1), (0, .ref a), (1, .long (lN (wnum x)))]) cx.x cx.b d_Mo_say_1 rfl hl (by decide) rfl (fun ls hl => ?_)
  exact LP _ _ 0 hlo (Nat.lt_succ_self _) hpos _ (lv_sub hl [0, 1, 2] rfl)

set_option maxHeartbeats 4000000 in
set_option maxRecDepth 100000 in
theorem c_Mo_copyText_n (l : Launch) {E : hE} (hE : EnvOk E) {H : Heap} {a : Nat} {ad : Nat → Nat} {g : MS} (M : Mo E H a ad g) {O : List Nat} (hO : OutR (g.1 12) (g.2 11) O) {r1 fm : Nat} {xs : List Nat} (hr1 : r1 < 217) (hr : RT (g.1 6) (g.1 4) r1 xs) (hfm : fm < 10) (hl3 : O.length + 42 < 300) : Ct l E y_Mo_copyText b_Mo_copyText 7 none (rmA 1 0 0) [.ref a, .int 1, .int (nI r1), .int (nI fm)] H (hQv (fun H1 => ∃ (o9 : Nat → Nat) (n9 : Nat), Mw E H H1 a ad (up g.1 12 o9, up g.2 11 n9) ∧ OutR o9 n9 (O ++ escN fm xs))) := by
  refine hx_enter hE (by decide) (Nat.le_of_ble_eq_true rfl) ?_
  intro p e s m args below meth c ls cx hnm hl
  have hl : lv_has ls 7 [(0, .ref a), (1, .int 1), (2, .int (nI r1)), (3, .int (nI fm))] := hl
  have hlo : hLo (eB E) [] := hLo.nil
  generalize hQ : MQ below _ args s _ _ _ = Q
  have M0 : Mw E H H a ad g := ⟨M, hCh.rf, rfl⟩
  have hl20 := hr.2.1
  refine lv_iload_n cx.x cx.b d_Mo_copyText_0 rfl (lv_at hl 1 rfl) ?_
  refine lv_if_eq (tgt := 13) cx.x cx.b d_Mo_copyText_1 (by decide) (fun c => absurd c (by decide)) (fun _ => ?_)
  refine lv_aload_n cx.x cx.b d_Mo_copyText_4 rfl (lv_at hl 0 rfl) ?_
  refine gf_Mo_28_Mo cx M0.1.1 rfl d_Mo_copyText_5 ?_
  refine lv_iload_n cx.x cx.b d_Mo_copyText_8 rfl (lv_at hl 2 rfl) ?_
  refine hx_iald cx.x cx.b cx.K 0 (M0.1.2.1 6 (by decide)) rfl (show vp_in (nI r1) 217 from vp_in_nI (show r1 < 217 by omega) (by decide)) d_Mo_copyText_9 ?_
  refine lv_topi (fun x16 e_x16 => ?_)
  have e_x16 : x16 = nI xs.length := e_x16.trans (congrArg nI ((congrArg (g.1 6) (nI_clamp (n := r1) (by omega))).trans (hr.1)))
  subst e_x16
  refine lv_goto (tgt := 19) cx.x cx.b d_Mo_copyText_10 (by decide) ?_
  refine lv_istore (lv' := [(4, .int (nI xs.length)), (0, .ref a), (1, .int 1), (2, .int (nI r1)), (3, .int (nI fm))]) cx.x cx.b d_Mo_copyText_19 hl (by decide) rfl (fun ls hl => ?_)
  refine lv_iconst (v := 0) cx.x cx.b d_Mo_copyText_21 (by decide) ?_
  refine lv_istore (lv' := [(5, .int 0), (4, .int (nI xs.length)), (0, .ref a), (1, .int 1), (2, .int (nI r1)), (3, .int (nI fm))]) cx.x cx.b d_Mo_copyText_22 hl (by decide) rfl (fun ls hl => ?_)
  have LP : ∀ (k : Nat) (locs : List Loc) (j1 n9 : Nat) (o9 : Nat → Nat) (H5 : Heap), hLo (eB E) locs → (xs.length - j1 < k) → (j1 ≤ xs.length) → (Mw E H H5 a ad (up g.1 12 o9, up g.2 11 n9)) → (OutR o9 n9 (O ++ escN fm (xs.take j1))) → ∀ ls, lv_has ls 7 [(5, .int (nI j1)), (4, .int (nI xs.length)), (0, .ref a), (1, .int 1), (2, .int (nI r1)), (3, .int (nI fm))] → W p l e (rmA 1 0 0) s m args below meth c H5 locs 0 0 Q (F0 m 24 ls []) := by
    intro k
    induction k with
    | zero => intro locs j1 n9 o9 H5 hlo hk hj1 M5 hO9; exact absurd hk (by omega)
    | succ k ih =>
      intro locs j1 n9 o9 H5 hlo hk hj1 M5 hO9 ls hl
      have oM17 : hOb (eD E) classes H5 a 10 [.ref (ad 0), .int (nI (g.2 0)), .ref (ad 1), .int (nI (g.2 1)), .int (nI (g.2 2)), .ref (ad 2), .ref (ad 3), .ref (ad 4), .ref (ad 5), .ref (ad 6), .ref (ad 7), .ref (ad 8), .ref (ad 9), .ref (ad 10), .int (nI (g.2 3)), .int (nI (g.2 4)), .int (nI (g.2 5)), .int (nI (g.2 6)), .int (nI (g.2 7)), .ref (ad 11), .int (nI (g.2 8)), .int (nI (g.2 9)), .int (nI (g.2 10)), .ref (ad 12), .int (nI n9), .ref (ad 13)] := M5.1.1
      have hn9 := hO9.1
      have hel := esc_len (fm := fm) (xs.take j1)
      rw [List.length_take] at hel
      rw [List.length_append] at hn9
      refine lv_iload cx.x cx.b d_Mo_copyText_24 (lv_at hl 0 rfl) ?_
      refine lv_iload cx.x cx.b d_Mo_copyText_26 (lv_at hl 1 rfl) ?_
      refine lv_icmp_ge (tgt := 94) cx.x cx.b d_Mo_copyText_28 (by decide) (fun c1 => ?_) (fun c1 => ?_)
      · have c1 : xs.length ≤ j1 := (nI_leI (a := xs.length) (b := j1) (by omega) (by omega)).mp c1
        rw [← hQ]
        exact hx_retv cx.x cx.b cx.r cx.k hlo (fun _ h => h) (Nat.le_of_ble_eq_true rfl) (Nat.le_of_ble_eq_true rfl) d_Mo_copyText_94 (⟨o9, n9, M5, by rw [List.take_of_length_le (by omega)] at hO9; exact hO9⟩)
      · have c1 : j1 < xs.length := Nat.not_le.mp (fun zz => c1 ((nI_leI (a := xs.length) (b := j1) (by omega) (by omega)).mpr zz))
        have hes := esc_snoc fm xs c1
        refine lv_iload_n cx.x cx.b d_Mo_copyText_31 rfl (lv_at hl 3 rfl) ?_
        refine lv_if_eq (tgt := 50) cx.x cx.b d_Mo_copyText_32 (by decide) (fun c => absurd c (by decide)) (fun _ => ?_)
        refine lv_aload_n cx.x cx.b d_Mo_copyText_35 rfl (lv_at hl 2 rfl) ?_
        refine gf_Mo_22_Mo cx oM17 rfl d_Mo_copyText_36 ?_
        refine lv_bipush (v := 20) cx.x cx.b d_Mo_copyText_39 (by decide) ?_
        refine lv_iload_n cx.x cx.b d_Mo_copyText_41 rfl (lv_at hl 4 rfl) ?_
        refine lv_imul cx.x cx.b d_Mo_copyText_42 ?_
        refine lv_topi (fun x18 e_x18 => ?_)
        have e_x18 : x18 = nI (20 * r1) := e_x18.trans (pk_mul 20 r1)
        subst e_x18
        refine lv_iload cx.x cx.b d_Mo_copyText_43 (lv_at hl 0 rfl) ?_
        refine lv_iadd cx.x cx.b d_Mo_copyText_45 ?_
        refine lv_topi (fun x19 e_x19 => ?_)
        have e_x19 : x19 = nI ((20 * r1) + j1) := e_x19.trans (nI_add (20 * r1) j1)
        subst e_x19
        refine hx_iald cx.x cx.b cx.K 0 (M5.1.2.1 4 (by decide)) rfl (show vp_in (nI ((20 * r1) + j1)) 4340 from vp_in_nI (show ((20 * r1) + j1) < 4340 by omega) (by decide)) d_Mo_copyText_46 ?_
        refine lv_topi (fun x20 e_x20 => ?_)
        have hb9 : xs.getD j1 0 < 128 := hr.2.2.2 _ (getD_mem (show j1 < xs.length by omega))
        have e_x20 : x20 = nI (xs.getD j1 0) := e_x20.trans (congrArg nI ((congrArg (g.1 4) (nI_clamp (n := ((20 * r1) + j1)) (by omega))).trans (hr.2.2.1 j1 (by omega))))
        subst e_x20
        refine lv_goto (tgt := 62) cx.x cx.b d_Mo_copyText_47 (by decide) ?_
        refine lv_istore (lv' := [(6, .int (nI (xs.getD j1 0))), (5, .int (nI j1)), (4, .int (nI xs.length)), (0, .ref a), (1, .int 1), (2, .int (nI r1)), (3, .int (nI fm))]) cx.x cx.b d_Mo_copyText_62 hl (by decide) rfl (fun ls hl => ?_)
        refine lv_iload cx.x cx.b d_Mo_copyText_64 (lv_at hl 0 rfl) ?_
        refine lv_bipush (v := 36) cx.x cx.b d_Mo_copyText_66 (by decide) ?_
        refine lv_icmp_ne (tgt := 82) cx.x cx.b d_Mo_copyText_68 (by decide) (fun c2 => ?_) (fun c2 => ?_)
        · have c2 : (xs.getD j1 0) ≠ 36 := fun zz => c2 ((nI_eq (a := (xs.getD j1 0)) (b := 36) (by omega) (by omega)).mpr zz)
          refine lv_aload_n cx.x cx.b d_Mo_copyText_82 rfl (lv_at hl 3 rfl) ?_
          refine lv_iload cx.x cx.b d_Mo_copyText_83 (lv_at hl 0 rfl) ?_
          refine hx_callv (iv_Mo_198_Mo cx (c_Mo_put l hE M5.1 (x := xs.getD j1 0) (show n9 < 300 by omega)) oM17 rfl hl.1 rfl (Nat.le_of_ble_eq_true rfl) d_Mo_copyText_85 ⟨Nat.le_of_ble_eq_true rfl, Nat.le_of_ble_eq_true rfl⟩ ⟨Nat.le_of_ble_eq_true rfl, Nat.le_of_ble_eq_true rfl⟩) hlo (fun _ h => h) (fun H22 locs hp21 hlo => ?_)
          have q_M23 := hp21
          have M23 : Mw E H H22 a ad (up g.1 12 (updN o9 n9 (xs.getD j1 0)), up g.2 11 (n9 + 1)) := Mw.cg (M5.tr q_M23) rfl rfl rfl rfl rfl rfl rfl rfl rfl rfl rfl rfl rfl rfl rfl rfl rfl rfl rfl rfl rfl rfl rfl rfl rfl rfl
          have oM24 : hOb (eD E) classes H22 a 10 [.ref (ad 0), .int (nI (g.2 0)), .ref (ad 1), .int (nI (g.2 1)), .int (nI (g.2 2)), .ref (ad 2), .ref (ad 3), .ref (ad 4), .ref (ad 5), .ref (ad 6), .ref (ad 7), .ref (ad 8), .ref (ad 9), .ref (ad 10), .int (nI (g.2 3)), .int (nI (g.2 4)), .int (nI (g.2 5)), .int (nI (g.2 6)), .int (nI (g.2 7)), .ref (ad 11), .int (nI (g.2 8)), .int (nI (g.2 9)), .int (nI (g.2 10)), .ref (ad 12), .int (nI (n9 + 1)), .ref (ad 13)] := M23.1.1
          obtain ⟨x25, e_x25⟩ : ∃ y : Int32, y = nI j1 + 1 := ⟨_, rfl⟩
          refine lv_iinc (v := x25) (lv' := [(5, .int x25), (6, .int (nI (xs.getD j1 0))), (4, .int (nI xs.length)), (0, .ref a), (1, .int 1), (2, .int (nI r1)), (3, .int (nI fm))]) cx.x cx.b d_Mo_copyText_88 hl (k := 1) rfl (by rw [e_x25]; rfl) (by decide) rfl (fun ls hl => ?_)
          have e_x25 : x25 = nI (j1 + 1) := e_x25.trans (nI_add j1 1)
          subst e_x25
          refine lv_goto (tgt := 24) cx.x cx.b d_Mo_copyText_91 (by decide) ?_
          exact ih _ (j1 + 1) _ _ _ hlo (by omega) (by omega) M23 (by have := hO9.put (x := xs.getD j1 0); rw [hes, show addN fm (xs.getD j1 0) = [xs.getD j1 0] from if_neg (fun z => c2 z.2), ← List.append_assoc]; exact this) _ (lv_sub hl [0, 2, 3, 4, 5, 6] rfl)
        · have c2 : (xs.getD j1 0) = 36 := (nI_eq (a := (xs.getD j1 0)) (b := 36) (by omega) (by omega)).mp c2
          refine lv_iload_n cx.x cx.b d_Mo_copyText_71 rfl (lv_at hl 6 rfl) ?_
          refine lv_iconst (v := 1) cx.x cx.b d_Mo_copyText_72 (by decide) ?_
          refine lv_icmp_ne (tgt := 82) cx.x cx.b d_Mo_copyText_73 (by decide) (fun c3 => ?_) (fun c3 => ?_)
          · have c3 : fm ≠ 1 := fun zz => c3 ((nI_eq (a := fm) (b := 1) (by omega) (by omega)).mpr zz)
            refine lv_aload_n cx.x cx.b d_Mo_copyText_82 rfl (lv_at hl 3 rfl) ?_
            refine lv_iload cx.x cx.b d_Mo_copyText_83 (lv_at hl 0 rfl) ?_
            refine hx_callv (iv_Mo_198_Mo cx (c_Mo_put l hE M5.1 (x := xs.getD j1 0) (show n9 < 300 by omega)) oM17 rfl hl.1 rfl (Nat.le_of_ble_eq_true rfl) d_Mo_copyText_85 ⟨Nat.le_of_ble_eq_true rfl, Nat.le_of_ble_eq_true rfl⟩ ⟨Nat.le_of_ble_eq_true rfl, Nat.le_of_ble_eq_true rfl⟩) hlo (fun _ h => h) (fun H27 locs hp26 hlo => ?_)
            have q_M28 := hp26
            have M28 : Mw E H H27 a ad (up g.1 12 (updN o9 n9 (xs.getD j1 0)), up g.2 11 (n9 + 1)) := Mw.cg (M5.tr q_M28) rfl rfl rfl rfl rfl rfl rfl rfl rfl rfl rfl rfl rfl rfl rfl rfl rfl rfl rfl rfl rfl rfl rfl rfl rfl rfl
            have oM29 : hOb (eD E) classes H27 a 10 [.ref (ad 0), .int (nI (g.2 0)), .ref (ad 1), .int (nI (g.2 1)), .int (nI (g.2 2)), .ref (ad 2), .ref (ad 3), .ref (ad 4), .ref (ad 5), .ref (ad 6), .ref (ad 7), .ref (ad 8), .ref (ad 9), .ref (ad 10), .int (nI (g.2 3)), .int (nI (g.2 4)), .int (nI (g.2 5)), .int (nI (g.2 6)), .int (nI (g.2 7)), .ref (ad 11), .int (nI (g.2 8)), .int (nI (g.2 9)), .int (nI (g.2 10)), .ref (ad 12), .int (nI (n9 + 1)), .ref (ad 13)] := M28.1.1
            obtain ⟨x30, e_x30⟩ : ∃ y : Int32, y = nI j1 + 1 := ⟨_, rfl⟩
            refine lv_iinc (v := x30) (lv' := [(5, .int x30), (6, .int (nI (xs.getD j1 0))), (4, .int (nI xs.length)), (0, .ref a), (1, .int 1), (2, .int (nI r1)), (3, .int (nI fm))]) cx.x cx.b d_Mo_copyText_88 hl (k := 1) rfl (by rw [e_x30]; rfl) (by decide) rfl (fun ls hl => ?_)
            have e_x30 : x30 = nI (j1 + 1) := e_x30.trans (nI_add j1 1)
            subst e_x30
            refine lv_goto (tgt := 24) cx.x cx.b d_Mo_copyText_91 (by decide) ?_
            exact ih _ (j1 + 1) _ _ _ hlo (by omega) (by omega) M28 (by have := hO9.put (x := xs.getD j1 0); rw [hes, show addN fm (xs.getD j1 0) = [xs.getD j1 0] from if_neg (fun z => c3 z.1), ← List.append_assoc]; exact this) _ (lv_sub hl [0, 2, 3, 4, 5, 6] rfl)
          · have c3 : fm = 1 := (nI_eq (a := fm) (b := 1) (by omega) (by omega)).mp c3
            have hO9 := hO9.put (x := 37)
            refine lv_aload_n cx.x cx.b d_Mo_copyText_76 rfl (lv_at hl 3 rfl) ?_
            refine lv_bipush (v := 37) cx.x cx.b d_Mo_copyText_77 (by decide) ?_
            refine hx_callv (iv_Mo_198_Mo cx (c_Mo_put l hE M5.1 (x := 37) (show n9 < 300 by omega)) oM17 rfl hl.1 rfl (Nat.le_of_ble_eq_true rfl) d_Mo_copyText_79 ⟨Nat.le_of_ble_eq_true rfl, Nat.le_of_ble_eq_true rfl⟩ ⟨Nat.le_of_ble_eq_true rfl, Nat.le_of_ble_eq_true rfl⟩) hlo (fun _ h => h) (fun H32 locs hp31 hlo => ?_)
            have q_M33 := hp31
            have M33 : Mw E H H32 a ad (up g.1 12 (updN o9 n9 37), up g.2 11 (n9 + 1)) := Mw.cg (M5.tr q_M33) rfl rfl rfl rfl rfl rfl rfl rfl rfl rfl rfl rfl rfl rfl rfl rfl rfl rfl rfl rfl rfl rfl rfl rfl rfl rfl
            have oM34 : hOb (eD E) classes H32 a 10 [.ref (ad 0), .int (nI (g.2 0)), .ref (ad 1), .int (nI (g.2 1)), .int (nI (g.2 2)), .ref (ad 2), .ref (ad 3), .ref (ad 4), .ref (ad 5), .ref (ad 6), .ref (ad 7), .ref (ad 8), .ref (ad 9), .ref (ad 10), .int (nI (g.2 3)), .int (nI (g.2 4)), .int (nI (g.2 5)), .int (nI (g.2 6)), .int (nI (g.2 7)), .ref (ad 11), .int (nI (g.2 8)), .int (nI (g.2 9)), .int (nI (g.2 10)), .ref (ad 12), .int (nI (n9 + 1)), .ref (ad 13)] := M33.1.1
            refine lv_aload_n cx.x cx.b d_Mo_copyText_82 rfl (lv_at hl 3 rfl) ?_
            refine lv_iload cx.x cx.b d_Mo_copyText_83 (lv_at hl 0 rfl) ?_
            refine hx_callv (iv_Mo_198_Mo cx (c_Mo_put l hE M33.1 (x := xs.getD j1 0) (show n9 + 1 < 300 by omega)) oM34 rfl hl.1 rfl (Nat.le_of_ble_eq_true rfl) d_Mo_copyText_85 ⟨Nat.le_of_ble_eq_true rfl, Nat.le_of_ble_eq_true rfl⟩ ⟨Nat.le_of_ble_eq_true rfl, Nat.le_of_ble_eq_true rfl⟩) hlo (fun _ h => h) (fun H36 locs hp35 hlo => ?_)
            have q_M37 := hp35
            have M37 : Mw E H H36 a ad (up g.1 12 (updN (updN o9 n9 37) (n9 + 1) (xs.getD j1 0)), up g.2 11 ((n9 + 1) + 1)) := Mw.cg (M33.tr q_M37) rfl rfl rfl rfl rfl rfl rfl rfl rfl rfl rfl rfl rfl rfl rfl rfl rfl rfl rfl rfl rfl rfl rfl rfl rfl rfl
            have oM38 : hOb (eD E) classes H36 a 10 [.ref (ad 0), .int (nI (g.2 0)), .ref (ad 1), .int (nI (g.2 1)), .int (nI (g.2 2)), .ref (ad 2), .ref (ad 3), .ref (ad 4), .ref (ad 5), .ref (ad 6), .ref (ad 7), .ref (ad 8), .ref (ad 9), .ref (ad 10), .int (nI (g.2 3)), .int (nI (g.2 4)), .int (nI (g.2 5)), .int (nI (g.2 6)), .int (nI (g.2 7)), .ref (ad 11), .int (nI (g.2 8)), .int (nI (g.2 9)), .int (nI (g.2 10)), .ref (ad 12), .int (nI ((n9 + 1) + 1)), .ref (ad 13)] := M37.1.1
            obtain ⟨x39, e_x39⟩ : ∃ y : Int32, y = nI j1 + 1 := ⟨_, rfl⟩
            refine lv_iinc (v := x39) (lv' := [(5, .int x39), (6, .int (nI (xs.getD j1 0))), (4, .int (nI xs.length)), (0, .ref a), (1, .int 1), (2, .int (nI r1)), (3, .int (nI fm))]) cx.x cx.b d_Mo_copyText_88 hl (k := 1) rfl (by rw [e_x39]; rfl) (by decide) rfl (fun ls hl => ?_)
            have e_x39 : x39 = nI (j1 + 1) := e_x39.trans (nI_add j1 1)
            subst e_x39
            refine lv_goto (tgt := 24) cx.x cx.b d_Mo_copyText_91 (by decide) ?_
            exact ih _ (j1 + 1) _ _ _ hlo (by omega) (by omega) M37 (by have := hO9.put (x := xs.getD j1 0); rw [hes, show addN fm (xs.getD j1 0) = [37, 36] from if_pos ⟨c3, c2⟩, ← List.append_assoc]; rw [c2, List.append_assoc] at this; rw [c2]; exact this) _ (lv_sub hl [0, 2, 3, 4, 5, 6] rfl)
  exact LP _ _ 0 (g.2 11) (g.1 12) _ hlo (Nat.lt_succ_self _) (Nat.zero_le _) (Mw.cg M0 rfl rfl rfl rfl rfl rfl rfl rfl rfl rfl rfl rfl rfl rfl rfl rfl rfl rfl rfl rfl rfl rfl rfl rfl rfl rfl) (by rw [List.take_zero]; show OutR (g.1 12) (g.2 11) (O ++ []); rw [List.append_nil]; exact hO) _ (lv_sub hl [0, 1, 2, 3, 4, 5] rfl)

set_option maxHeartbeats 4000000 in
set_option maxRecDepth 100000 in
theorem c_Mo_copyText_d (l : Launch) {E : hE} (hE : EnvOk E) {H : Heap} {a : Nat} {ad : Nat → Nat} {g : MS} (M : Mo E H a ad g) {O : List Nat} (hO : OutR (g.1 12) (g.2 11) O) {r1 fm : Nat} {xs : List Nat} (hr1 : r1 < 217) (hr : RT (g.1 7) (g.1 5) r1 xs) (hfm : fm < 10) (hl3 : O.length + 42 < 300) : Ct l E y_Mo_copyText b_Mo_copyText 7 none (rmA 1 0 0) [.ref a, .int 0, .int (nI r1), .int (nI fm)] H (hQv (fun H1 => ∃ (o9 : Nat → Nat) (n9 : Nat), Mw E H H1 a ad (up g.1 12 o9, up g.2 11 n9) ∧ OutR o9 n9 (O ++ escN fm xs))) := by
  refine hx_enter hE (by decide) (Nat.le_of_ble_eq_true rfl) ?_
  intro p e s m args below meth c ls cx hnm hl
  have hl : lv_has ls 7 [(0, .ref a), (1, .int 0), (2, .int (nI r1)), (3, .int (nI fm))] := hl
  have hlo : hLo (eB E) [] := hLo.nil
  generalize hQ : MQ below _ args s _ _ _ = Q
  have M0 : Mw E H H a ad g := ⟨M, hCh.rf, rfl⟩
  have hl20 := hr.2.1
  refine lv_iload_n cx.x cx.b d_Mo_copyText_0 rfl (lv_at hl 1 rfl) ?_
  refine lv_if_eq (tgt := 13) cx.x cx.b d_Mo_copyText_1 (by decide) (fun _ => ?_) (fun c => absurd (by decide) c)
  refine lv_aload_n cx.x cx.b d_Mo_copyText_13 rfl (lv_at hl 0 rfl) ?_
  refine gf_Mo_31_Mo cx M0.1.1 rfl d_Mo_copyText_14 ?_
  refine lv_iload_n cx.x cx.b d_Mo_copyText_17 rfl (lv_at hl 2 rfl) ?_
  refine hx_iald cx.x cx.b cx.K 0 (M0.1.2.1 7 (by decide)) rfl (show vp_in (nI r1) 217 from vp_in_nI (show r1 < 217 by omega) (by decide)) d_Mo_copyText_18 ?_
  refine lv_topi (fun x40 e_x40 => ?_)
  have e_x40 : x40 = nI xs.length := e_x40.trans (congrArg nI ((congrArg (g.1 7) (nI_clamp (n := r1) (by omega))).trans (hr.1)))
  subst e_x40
  refine lv_istore (lv' := [(4, .int (nI xs.length)), (0, .ref a), (1, .int 0), (2, .int (nI r1)), (3, .int (nI fm))]) cx.x cx.b d_Mo_copyText_19 hl (by decide) rfl (fun ls hl => ?_)
  refine lv_iconst (v := 0) cx.x cx.b d_Mo_copyText_21 (by decide) ?_
  refine lv_istore (lv' := [(5, .int 0), (4, .int (nI xs.length)), (0, .ref a), (1, .int 0), (2, .int (nI r1)), (3, .int (nI fm))]) cx.x cx.b d_Mo_copyText_22 hl (by decide) rfl (fun ls hl => ?_)
  have LP : ∀ (k : Nat) (locs : List Loc) (j1 n9 : Nat) (o9 : Nat → Nat) (H5 : Heap), hLo (eB E) locs → (xs.length - j1 < k) → (j1 ≤ xs.length) → (Mw E H H5 a ad (up g.1 12 o9, up g.2 11 n9)) → (OutR o9 n9 (O ++ escN fm (xs.take j1))) → ∀ ls, lv_has ls 7 [(5, .int (nI j1)), (4, .int (nI xs.length)), (0, .ref a), (1, .int 0), (2, .int (nI r1)), (3, .int (nI fm))] → W p l e (rmA 1 0 0) s m args below meth c H5 locs 0 0 Q (F0 m 24 ls []) := by
    intro k
    induction k with
    | zero => intro locs j1 n9 o9 H5 hlo hk hj1 M5 hO9; exact absurd hk (by omega)
    | succ k ih =>
      intro locs j1 n9 o9 H5 hlo hk hj1 M5 hO9 ls hl
      have oM41 : hOb (eD E) classes H5 a 10 [.ref (ad 0), .int (nI (g.2 0)), .ref (ad 1), .int (nI (g.2 1)), .int (nI (g.2 2)), .ref (ad 2), .ref (ad 3), .ref (ad 4), .ref (ad 5), .ref (ad 6), .ref (ad 7), .ref (ad 8), .ref (ad 9), .ref (ad 10), .int (nI (g.2 3)), .int (nI (g.2 4)), .int (nI (g.2 5)), .int (nI (g.2 6)), .int (nI (g.2 7)), .ref (ad 11), .int (nI (g.2 8)), .int (nI (g.2 9)), .int (nI (g.2 10)), .ref (ad 12), .int (nI n9), .ref (ad 13)] := M5.1.1
      have hn9 := hO9.1
      have hel := esc_len (fm := fm) (xs.take j1)
      rw [List.length_take] at hel
      rw [List.length_append] at hn9
      refine lv_iload cx.x cx.b d_Mo_copyText_24 (lv_at hl 0 rfl) ?_
      refine lv_iload cx.x cx.b d_Mo_copyText_26 (lv_at hl 1 rfl) ?_
      refine lv_icmp_ge (tgt := 94) cx.x cx.b d_Mo_copyText_28 (by decide) (fun c1 => ?_) (fun c1 => ?_)
      · have c1 : xs.length ≤ j1 := (nI_leI (a := xs.length) (b := j1) (by omega) (by omega)).mp c1
        rw [← hQ]
        exact hx_retv cx.x cx.b cx.r cx.k hlo (fun _ h => h) (Nat.le_of_ble_eq_true rfl) (Nat.le_of_ble_eq_true rfl) d_Mo_copyText_94 (⟨o9, n9, M5, by rw [List.take_of_length_le (by omega)] at hO9; exact hO9⟩)
      · have c1 : j1 < xs.length := Nat.not_le.mp (fun zz => c1 ((nI_leI (a := xs.length) (b := j1) (by omega) (by omega)).mpr zz))
        have hes := esc_snoc fm xs c1
        refine lv_iload_n cx.x cx.b d_Mo_copyText_31 rfl (lv_at hl 3 rfl) ?_
        refine lv_if_eq (tgt := 50) cx.x cx.b d_Mo_copyText_32 (by decide) (fun _ => ?_) (fun c => absurd (by decide) c)
        refine lv_aload_n cx.x cx.b d_Mo_copyText_50 rfl (lv_at hl 2 rfl) ?_
        refine gf_Mo_25_Mo cx oM41 rfl d_Mo_copyText_51 ?_
        refine lv_bipush (v := 20) cx.x cx.b d_Mo_copyText_54 (by decide) ?_
        refine lv_iload_n cx.x cx.b d_Mo_copyText_56 rfl (lv_at hl 4 rfl) ?_
        refine lv_imul cx.x cx.b d_Mo_copyText_57 ?_
        refine lv_topi (fun x42 e_x42 => ?_)
        have e_x42 : x42 = nI (20 * r1) := e_x42.trans (pk_mul 20 r1)
        subst e_x42
        refine lv_iload cx.x cx.b d_Mo_copyText_58 (lv_at hl 0 rfl) ?_
        refine lv_iadd cx.x cx.b d_Mo_copyText_60 ?_
        refine lv_topi (fun x43 e_x43 => ?_)
        have e_x43 : x43 = nI ((20 * r1) + j1) := e_x43.trans (nI_add (20 * r1) j1)
        subst e_x43
        refine hx_iald cx.x cx.b cx.K 0 (M5.1.2.1 5 (by decide)) rfl (show vp_in (nI ((20 * r1) + j1)) 4340 from vp_in_nI (show ((20 * r1) + j1) < 4340 by omega) (by decide)) d_Mo_copyText_61 ?_
        refine lv_topi (fun x44 e_x44 => ?_)
        have hb9 : xs.getD j1 0 < 128 := hr.2.2.2 _ (getD_mem (show j1 < xs.length by omega))
        have e_x44 : x44 = nI (xs.getD j1 0) := e_x44.trans (congrArg nI ((congrArg (g.1 5) (nI_clamp (n := ((20 * r1) + j1)) (by omega))).trans (hr.2.2.1 j1 (by omega))))
        subst e_x44
        refine lv_istore (lv' := [(6, .int (nI (xs.getD j1 0))), (5, .int (nI j1)), (4, .int (nI xs.length)), (0, .ref a), (1, .int 0), (2, .int (nI r1)), (3, .int (nI fm))]) cx.x cx.b d_Mo_copyText_62 hl (by decide) rfl (fun ls hl => ?_)
        refine lv_iload cx.x cx.b d_Mo_copyText_64 (lv_at hl 0 rfl) ?_
        refine lv_bipush (v := 36) cx.x cx.b d_Mo_copyText_66 (by decide) ?_
        refine lv_icmp_ne (tgt := 82) cx.x cx.b d_Mo_copyText_68 (by decide) (fun c2 => ?_) (fun c2 => ?_)
        · have c2 : (xs.getD j1 0) ≠ 36 := fun zz => c2 ((nI_eq (a := (xs.getD j1 0)) (b := 36) (by omega) (by omega)).mpr zz)
          refine lv_aload_n cx.x cx.b d_Mo_copyText_82 rfl (lv_at hl 3 rfl) ?_
          refine lv_iload cx.x cx.b d_Mo_copyText_83 (lv_at hl 0 rfl) ?_
          refine hx_callv (iv_Mo_198_Mo cx (c_Mo_put l hE M5.1 (x := xs.getD j1 0) (show n9 < 300 by omega)) oM41 rfl hl.1 rfl (Nat.le_of_ble_eq_true rfl) d_Mo_copyText_85 ⟨Nat.le_of_ble_eq_true rfl, Nat.le_of_ble_eq_true rfl⟩ ⟨Nat.le_of_ble_eq_true rfl, Nat.le_of_ble_eq_true rfl⟩) hlo (fun _ h => h) (fun H46 locs hp45 hlo => ?_)
          have q_M47 := hp45
          have M47 : Mw E H H46 a ad (up g.1 12 (updN o9 n9 (xs.getD j1 0)), up g.2 11 (n9 + 1)) := Mw.cg (M5.tr q_M47) rfl rfl rfl rfl rfl rfl rfl rfl rfl rfl rfl rfl rfl rfl rfl rfl rfl rfl rfl rfl rfl rfl rfl rfl rfl rfl
          have oM48 : hOb (eD E) classes H46 a 10 [.ref (ad 0), .int (nI (g.2 0)), .ref (ad 1), .int (nI (g.2 1)), .int (nI (g.2 2)), .ref (ad 2), .ref (ad 3), .ref (ad 4), .ref (ad 5), .ref (ad 6), .ref (ad 7), .ref (ad 8), .ref (ad 9), .ref (ad 10), .int (nI (g.2 3)), .int (nI (g.2 4)), .int (nI (g.2 5)), .int (nI (g.2 6)), .int (nI (g.2 7)), .ref (ad 11), .int (nI (g.2 8)), .int (nI (g.2 9)), .int (nI (g.2 10)), .ref (ad 12), .int (nI (n9 + 1)), .ref (ad 13)] := M47.1.1
          obtain ⟨x49, e_x49⟩ : ∃ y : Int32, y = nI j1 + 1 := ⟨_, rfl⟩
          refine lv_iinc (v := x49) (lv' := [(5, .int x49), (6, .int (nI (xs.getD j1 0))), (4, .int (nI xs.length)), (0, .ref a), (1, .int 0), (2, .int (nI r1)), (3, .int (nI fm))]) cx.x cx.b d_Mo_copyText_88 hl (k := 1) rfl (by rw [e_x49]; rfl) (by decide) rfl (fun ls hl => ?_)
          have e_x49 : x49 = nI (j1 + 1) := e_x49.trans (nI_add j1 1)
          subst e_x49
          refine lv_goto (tgt := 24) cx.x cx.b d_Mo_copyText_91 (by decide) ?_
          exact ih _ (j1 + 1) _ _ _ hlo (by omega) (by omega) M47 (by have := hO9.put (x := xs.getD j1 0); rw [hes, show addN fm (xs.getD j1 0) = [xs.getD j1 0] from if_neg (fun z => c2 z.2), ← List.append_assoc]; exact this) _ (lv_sub hl [0, 2, 3, 4, 5, 6] rfl)
        · have c2 : (xs.getD j1 0) = 36 := (nI_eq (a := (xs.getD j1 0)) (b := 36) (by omega) (by omega)).mp c2
          refine lv_iload_n cx.x cx.b d_Mo_copyText_71 rfl (lv_at hl 6 rfl) ?_
          refine lv_iconst (v := 1) cx.x cx.b d_Mo_copyText_72 (by decide) ?_
          refine lv_icmp_ne (tgt := 82) cx.x cx.b d_Mo_copyText_73 (by decide) (fun c3 => ?_) (fun c3 => ?_)
          · have c3 : fm ≠ 1 := fun zz => c3 ((nI_eq (a := fm) (b := 1) (by omega) (by omega)).mpr zz)
            refine lv_aload_n cx.x cx.b d_Mo_copyText_82 rfl (lv_at hl 3 rfl) ?_
            refine lv_iload cx.x cx.b d_Mo_copyText_83 (lv_at hl 0 rfl) ?_
            refine hx_callv (iv_Mo_198_Mo cx (c_Mo_put l hE M5.1 (x := xs.getD j1 0) (show n9 < 300 by omega)) oM41 rfl hl.1 rfl (Nat.le_of_ble_eq_true rfl) d_Mo_copyText_85 ⟨Nat.le_of_ble_eq_true rfl, Nat.le_of_ble_eq_true rfl⟩ ⟨Nat.le_of_ble_eq_true rfl, Nat.le_of_ble_eq_true rfl⟩) hlo (fun _ h => h) (fun H51 locs hp50 hlo => ?_)
            have q_M52 := hp50
            have M52 : Mw E H H51 a ad (up g.1 12 (updN o9 n9 (xs.getD j1 0)), up g.2 11 (n9 + 1)) := Mw.cg (M5.tr q_M52) rfl rfl rfl rfl rfl rfl rfl rfl rfl rfl rfl rfl rfl rfl rfl rfl rfl rfl rfl rfl rfl rfl rfl rfl rfl rfl
            have oM53 : hOb (eD E) classes H51 a 10 [.ref (ad 0), .int (nI (g.2 0)), .ref (ad 1), .int (nI (g.2 1)), .int (nI (g.2 2)), .ref (ad 2), .ref (ad 3), .ref (ad 4), .ref (ad 5), .ref (ad 6), .ref (ad 7), .ref (ad 8), .ref (ad 9), .ref (ad 10), .int (nI (g.2 3)), .int (nI (g.2 4)), .int (nI (g.2 5)), .int (nI (g.2 6)), .int (nI (g.2 7)), .ref (ad 11), .int (nI (g.2 8)), .int (nI (g.2 9)), .int (nI (g.2 10)), .ref (ad 12), .int (nI (n9 + 1)), .ref (ad 13)] := M52.1.1
            obtain ⟨x54, e_x54⟩ : ∃ y : Int32, y = nI j1 + 1 := ⟨_, rfl⟩
            refine lv_iinc (v := x54) (lv' := [(5, .int x54), (6, .int (nI (xs.getD j1 0))), (4, .int (nI xs.length)), (0, .ref a), (1, .int 0), (2, .int (nI r1)), (3, .int (nI fm))]) cx.x cx.b d_Mo_copyText_88 hl (k := 1) rfl (by rw [e_x54]; rfl) (by decide) rfl (fun ls hl => ?_)
            have e_x54 : x54 = nI (j1 + 1) := e_x54.trans (nI_add j1 1)
            subst e_x54
            refine lv_goto (tgt := 24) cx.x cx.b d_Mo_copyText_91 (by decide) ?_
            exact ih _ (j1 + 1) _ _ _ hlo (by omega) (by omega) M52 (by have := hO9.put (x := xs.getD j1 0); rw [hes, show addN fm (xs.getD j1 0) = [xs.getD j1 0] from if_neg (fun z => c3 z.1), ← List.append_assoc]; exact this) _ (lv_sub hl [0, 2, 3, 4, 5, 6] rfl)
          · have c3 : fm = 1 := (nI_eq (a := fm) (b := 1) (by omega) (by omega)).mp c3
            have hO9 := hO9.put (x := 37)
            refine lv_aload_n cx.x cx.b d_Mo_copyText_76 rfl (lv_at hl 3 rfl) ?_
            refine lv_bipush (v := 37) cx.x cx.b d_Mo_copyText_77 (by decide) ?_
            refine hx_callv (iv_Mo_198_Mo cx (c_Mo_put l hE M5.1 (x := 37) (show n9 < 300 by omega)) oM41 rfl hl.1 rfl (Nat.le_of_ble_eq_true rfl) d_Mo_copyText_79 ⟨Nat.le_of_ble_eq_true rfl, Nat.le_of_ble_eq_true rfl⟩ ⟨Nat.le_of_ble_eq_true rfl, Nat.le_of_ble_eq_true rfl⟩) hlo (fun _ h => h) (fun H56 locs hp55 hlo => ?_)
            have q_M57 := hp55
            have M57 : Mw E H H56 a ad (up g.1 12 (updN o9 n9 37), up g.2 11 (n9 + 1)) := Mw.cg (M5.tr q_M57) rfl rfl rfl rfl rfl rfl rfl rfl rfl rfl rfl rfl rfl rfl rfl rfl rfl rfl rfl rfl rfl rfl rfl rfl rfl rfl
            have oM58 : hOb (eD E) classes H56 a 10 [.ref (ad 0), .int (nI (g.2 0)), .ref (ad 1), .int (nI (g.2 1)), .int (nI (g.2 2)), .ref (ad 2), .ref (ad 3), .ref (ad 4), .ref (ad 5), .ref (ad 6), .ref (ad 7), .ref (ad 8), .ref (ad 9), .ref (ad 10), .int (nI (g.2 3)), .int (nI (g.2 4)), .int (nI (g.2 5)), .int (nI (g.2 6)), .int (nI (g.2 7)), .ref (ad 11), .int (nI (g.2 8)), .int (nI (g.2 9)), .int (nI (g.2 10)), .ref (ad 12), .int (nI (n9 + 1)), .ref (ad 13)] := M57.1.1
            refine lv_aload_n cx.x cx.b d_Mo_copyText_82 rfl (lv_at hl 3 rfl) ?_
            refine lv_iload cx.x cx.b d_Mo_copyText_83 (lv_at hl 0 rfl) ?_
            refine hx_callv (iv_Mo_198_Mo cx (c_Mo_put l hE M57.1 (x := xs.getD j1 0) (show n9 + 1 < 300 by omega)) oM58 rfl hl.1 rfl (Nat.le_of_ble_eq_true rfl) d_Mo_copyText_85 ⟨Nat.le_of_ble_eq_true rfl, Nat.le_of_ble_eq_true rfl⟩ ⟨Nat.le_of_ble_eq_true rfl, Nat.le_of_ble_eq_true rfl⟩) hlo (fun _ h => h) (fun H60 locs hp59 hlo => ?_)
            have q_M61 := hp59
            have M61 : Mw E H H60 a ad (up g.1 12 (updN (updN o9 n9 37) (n9 + 1) (xs.getD j1 0)), up g.2 11 ((n9 + 1) + 1)) := Mw.cg (M57.tr q_M61) rfl rfl rfl rfl rfl rfl rfl rfl rfl rfl rfl rfl rfl rfl rfl rfl rfl rfl rfl rfl rfl rfl rfl rfl rfl rfl
            have oM62 : hOb (eD E) classes H60 a 10 [.ref (ad 0), .int (nI (g.2 0)), .ref (ad 1), .int (nI (g.2 1)), .int (nI (g.2 2)), .ref (ad 2), .ref (ad 3), .ref (ad 4), .ref (ad 5), .ref (ad 6), .ref (ad 7), .ref (ad 8), .ref (ad 9), .ref (ad 10), .int (nI (g.2 3)), .int (nI (g.2 4)), .int (nI (g.2 5)), .int (nI (g.2 6)), .int (nI (g.2 7)), .ref (ad 11), .int (nI (g.2 8)), .int (nI (g.2 9)), .int (nI (g.2 10)), .ref (ad 12), .int (nI ((n9 + 1) + 1)), .ref (ad 13)] := M61.1.1
            obtain ⟨x63, e_x63⟩ : ∃ y : Int32, y = nI j1 + 1 := ⟨_, rfl⟩
            refine lv_iinc (v := x63) (lv' := [(5, .int x63), (6, .int (nI (xs.getD j1 0))), (4, .int (nI xs.length)), (0, .ref a), (1, .int 0), (2, .int (nI r1)), (3, .int (nI fm))]) cx.x cx.b d_Mo_copyText_88 hl (k := 1) rfl (by rw [e_x63]; rfl) (by decide) rfl (fun ls hl => ?_)
            have e_x63 : x63 = nI (j1 + 1) := e_x63.trans (nI_add j1 1)
            subst e_x63
            refine lv_goto (tgt := 24) cx.x cx.b d_Mo_copyText_91 (by decide) ?_
            exact ih _ (j1 + 1) _ _ _ hlo (by omega) (by omega) M61 (by have := hO9.put (x := xs.getD j1 0); rw [hes, show addN fm (xs.getD j1 0) = [37, 36] from if_pos ⟨c3, c2⟩, ← List.append_assoc]; rw [c2, List.append_assoc] at this; rw [c2]; exact this) _ (lv_sub hl [0, 2, 3, 4, 5, 6] rfl)
  exact LP _ _ 0 (g.2 11) (g.1 12) _ hlo (Nat.lt_succ_self _) (Nat.zero_le _) (Mw.cg M0 rfl rfl rfl rfl rfl rfl rfl rfl rfl rfl rfl rfl rfl rfl rfl rfl rfl rfl rfl rfl rfl rfl rfl rfl rfl rfl) (by rw [List.take_zero]; show OutR (g.1 12) (g.2 11) (O ++ []); rw [List.append_nil]; exact hO) _ (lv_sub hl [0, 1, 2, 3, 4, 5] rfl)

set_option maxHeartbeats 4000000 in
set_option maxRecDepth 100000 in
theorem c_Mo_markWord_t (l : Launch) {E : hE} (hE : EnvOk E) {H : Heap} {k1 : Nat} (hk1 : k1 < 5) : Ct l E y_Mo_markWord b_Mo_markWord 2 (some .long) (rmA 0 0 0) [.int (bI true), .int (nI k1)] H (hQl (fun r H1 => r = lN (wnum (strL (markS true k1))) ∧ H1 = H)) := by
  refine hx_enter hE (by decide) (Nat.le_of_ble_eq_true rfl) ?_
  intro p e s m args below meth c ls cx hnm hl
  have hl : lv_has ls 2 [(0, .int (bI true)), (1, .int (nI k1))] := hl
  have hlo : hLo (eB E) [] := hLo.nil
  generalize hQ : MQ below _ args s _ _ _ = Q
  rcases (show k1 = 0 ∨ k1 = 1 ∨ k1 = 2 ∨ k1 = 3 ∨ k1 = 4 by omega) with rfl | rfl | rfl | rfl | rfl
  · have hl : lv_has ls 2 [(0, .int (bI true)), (1, .int 0)] := hl
    refine lv_iload_n cx.x cx.b d_Mo_markWord_0 rfl (lv_at hl 1 rfl) ?_
    refine lv_if_ne (tgt := 8) cx.x cx.b d_Mo_markWord_1 (by decide) (fun c => absurd (by decide) c) (fun _ => ?_)
    refine lv_ldc2 cx.x cx.b cx.o (cx.ts _ tw_934) d_Mo_markWord_4 ?_
    rw [← hQ]
    exact hx_retl cx.x cx.b cx.r cx.k hlo (fun _ h => h) (Nat.le_of_ble_eq_true rfl) (Nat.le_of_ble_eq_true rfl) d_Mo_markWord_7 (⟨by decide +kernel, rfl⟩)
  · have hl : lv_has ls 2 [(0, .int (bI true)), (1, .int 1)] := hl
    refine lv_iload_n cx.x cx.b d_Mo_markWord_0 rfl (lv_at hl 1 rfl) ?_
    refine lv_if_ne (tgt := 8) cx.x cx.b d_Mo_markWord_1 (by decide) (fun _ => ?_) (fun c => absurd c (by decide))
    refine lv_iload_n cx.x cx.b d_Mo_markWord_8 rfl (lv_at hl 0 rfl) ?_
    refine lv_if_eq (tgt := 49) cx.x cx.b d_Mo_markWord_9 (by decide) (fun c => absurd c (by decide)) (fun _ => ?_)
    refine lv_iload_n cx.x cx.b d_Mo_markWord_12 rfl (lv_at hl 1 rfl) ?_
    refine lv_iconst (v := 1) cx.x cx.b d_Mo_markWord_13 (by decide) ?_
    refine lv_icmp_ne (tgt := 23) cx.x cx.b d_Mo_markWord_14 (by decide) (fun c => absurd (by decide) c) (fun _ => ?_)
    refine lv_ldc2 cx.x cx.b cx.o (cx.ts _ tw_937) d_Mo_markWord_17 ?_
    refine lv_goto (tgt := 48) cx.x cx.b d_Mo_markWord_20 (by decide) ?_
    rw [← hQ]
    exact hx_retl cx.x cx.b cx.r cx.k hlo (fun _ h => h) (Nat.le_of_ble_eq_true rfl) (Nat.le_of_ble_eq_true rfl) d_Mo_markWord_48 (⟨by decide +kernel, rfl⟩)
  · have hl : lv_has ls 2 [(0, .int (bI true)), (1, .int 2)] := hl
    refine lv_iload_n cx.x cx.b d_Mo_markWord_0 rfl (lv_at hl 1 rfl) ?_
    refine lv_if_ne (tgt := 8) cx.x cx.b d_Mo_markWord_1 (by decide) (fun _ => ?_) (fun c => absurd c (by decide))
    refine lv_iload_n cx.x cx.b d_Mo_markWord_8 rfl (lv_at hl 0 rfl) ?_
    refine lv_if_eq (tgt := 49) cx.x cx.b d_Mo_markWord_9 (by decide) (fun c => absurd c (by decide)) (fun _ => ?_)
    refine lv_iload_n cx.x cx.b d_Mo_markWord_12 rfl (lv_at hl 1 rfl) ?_
    refine lv_iconst (v := 1) cx.x cx.b d_Mo_markWord_13 (by decide) ?_
    refine lv_icmp_ne (tgt := 23) cx.x cx.b d_Mo_markWord_14 (by decide) (fun _ => ?_) (fun c => absurd c (by decide))
    refine lv_iload_n cx.x cx.b d_Mo_markWord_23 rfl (lv_at hl 1 rfl) ?_
    refine lv_iconst (v := 2) cx.x cx.b d_Mo_markWord_24 (by decide) ?_
    refine lv_icmp_ne (tgt := 34) cx.x cx.b d_Mo_markWord_25 (by decide) (fun c => absurd (by decide) c) (fun _ => ?_)
    refine lv_ldc2 cx.x cx.b cx.o (cx.ts _ tw_938) d_Mo_markWord_28 ?_
    refine lv_goto (tgt := 48) cx.x cx.b d_Mo_markWord_31 (by decide) ?_
    rw [← hQ]
    exact hx_retl cx.x cx.b cx.r cx.k hlo (fun _ h => h) (Nat.le_of_ble_eq_true rfl) (Nat.le_of_ble_eq_true rfl) d_Mo_markWord_48 (⟨by decide +kernel, rfl⟩)
  · have hl : lv_has ls 2 [(0, .int (bI true)), (1, .int 3)] := hl
    refine lv_iload_n cx.x cx.b d_Mo_markWord_0 rfl (lv_at hl 1 rfl) ?_
    refine lv_if_ne (tgt := 8) cx.x cx.b d_Mo_markWord_1 (by decide) (fun _ => ?_) (fun c => absurd c (by decide))
    refine lv_iload_n cx.x cx.b d_Mo_markWord_8 rfl (lv_at hl 0 rfl) ?_
    refine lv_if_eq (tgt := 49) cx.x cx.b d_Mo_markWord_9 (by decide) (fun c => absurd c (by decide)) (fun _ => ?_)
    refine lv_iload_n cx.x cx.b d_Mo_markWord_12 rfl (lv_at hl 1 rfl) ?_
    refine lv_iconst (v := 1) cx.x cx.b d_Mo_markWord_13 (by decide) ?_
    refine lv_icmp_ne (tgt := 23) cx.x cx.b d_Mo_markWord_14 (by decide) (fun _ => ?_) (fun c => absurd c (by decide))
    refine lv_iload_n cx.x cx.b d_Mo_markWord_23 rfl (lv_at hl 1 rfl) ?_
    refine lv_iconst (v := 2) cx.x cx.b d_Mo_markWord_24 (by decide) ?_
    refine lv_icmp_ne (tgt := 34) cx.x cx.b d_Mo_markWord_25 (by decide) (fun _ => ?_) (fun c => absurd c (by decide))
    refine lv_iload_n cx.x cx.b d_Mo_markWord_34 rfl (lv_at hl 1 rfl) ?_
    refine lv_iconst (v := 3) cx.x cx.b d_Mo_markWord_35 (by decide) ?_
    refine lv_icmp_ne (tgt := 45) cx.x cx.b d_Mo_markWord_36 (by decide) (fun c => absurd (by decide) c) (fun _ => ?_)
    refine lv_ldc2 cx.x cx.b cx.o (cx.ts _ tw_935) d_Mo_markWord_39 ?_
    refine lv_goto (tgt := 48) cx.x cx.b d_Mo_markWord_42 (by decide) ?_
    rw [← hQ]
    exact hx_retl cx.x cx.b cx.r cx.k hlo (fun _ h => h) (Nat.le_of_ble_eq_true rfl) (Nat.le_of_ble_eq_true rfl) d_Mo_markWord_48 (⟨by decide +kernel, rfl⟩)
  · have hl : lv_has ls 2 [(0, .int (bI true)), (1, .int 4)] := hl
    refine lv_iload_n cx.x cx.b d_Mo_markWord_0 rfl (lv_at hl 1 rfl) ?_
    refine lv_if_ne (tgt := 8) cx.x cx.b d_Mo_markWord_1 (by decide) (fun _ => ?_) (fun c => absurd c (by decide))
    refine lv_iload_n cx.x cx.b d_Mo_markWord_8 rfl (lv_at hl 0 rfl) ?_
    refine lv_if_eq (tgt := 49) cx.x cx.b d_Mo_markWord_9 (by decide) (fun c => absurd c (by decide)) (fun _ => ?_)
    refine lv_iload_n cx.x cx.b d_Mo_markWord_12 rfl (lv_at hl 1 rfl) ?_
    refine lv_iconst (v := 1) cx.x cx.b d_Mo_markWord_13 (by decide) ?_
    refine lv_icmp_ne (tgt := 23) cx.x cx.b d_Mo_markWord_14 (by decide) (fun _ => ?_) (fun c => absurd c (by decide))
    refine lv_iload_n cx.x cx.b d_Mo_markWord_23 rfl (lv_at hl 1 rfl) ?_
    refine lv_iconst (v := 2) cx.x cx.b d_Mo_markWord_24 (by decide) ?_
    refine lv_icmp_ne (tgt := 34) cx.x cx.b d_Mo_markWord_25 (by decide) (fun _ => ?_) (fun c => absurd c (by decide))
    refine lv_iload_n cx.x cx.b d_Mo_markWord_34 rfl (lv_at hl 1 rfl) ?_
    refine lv_iconst (v := 3) cx.x cx.b d_Mo_markWord_35 (by decide) ?_
    refine lv_icmp_ne (tgt := 45) cx.x cx.b d_Mo_markWord_36 (by decide) (fun _ => ?_) (fun c => absurd c (by decide))
    refine lv_ldc2 cx.x cx.b cx.o (cx.ts _ tw_936) d_Mo_markWord_45 ?_
    rw [← hQ]
    exact hx_retl cx.x cx.b cx.r cx.k hlo (fun _ h => h) (Nat.le_of_ble_eq_true rfl) (Nat.le_of_ble_eq_true rfl) d_Mo_markWord_48 (⟨by decide +kernel, rfl⟩)

set_option maxHeartbeats 4000000 in
set_option maxRecDepth 100000 in
theorem c_Mo_markWord_f (l : Launch) {E : hE} (hE : EnvOk E) {H : Heap} {k1 : Nat} (hk1 : k1 < 3) : Ct l E y_Mo_markWord b_Mo_markWord 2 (some .long) (rmA 0 0 0) [.int (bI false), .int (nI k1)] H (hQl (fun r H1 => r = lN (wnum (strL (markS false k1))) ∧ H1 = H)) := by
  refine hx_enter hE (by decide) (Nat.le_of_ble_eq_true rfl) ?_
  intro p e s m args below meth c ls cx hnm hl
  have hl : lv_has ls 2 [(0, .int (bI false)), (1, .int (nI k1))] := hl
  have hlo : hLo (eB E) [] := hLo.nil
  generalize hQ : MQ below _ args s _ _ _ = Q
  rcases (show k1 = 0 ∨ k1 = 1 ∨ k1 = 2 by omega) with rfl | rfl | rfl
  · have hl : lv_has ls 2 [(0, .int (bI false)), (1, .int 0)] := hl
    refine lv_iload_n cx.x cx.b d_Mo_markWord_0 rfl (lv_at hl 1 rfl) ?_
    refine lv_if_ne (tgt := 8) cx.x cx.b d_Mo_markWord_1 (by decide) (fun c => absurd (by decide) c) (fun _ => ?_)
    refine lv_ldc2 cx.x cx.b cx.o (cx.ts _ tw_934) d_Mo_markWord_4 ?_
    rw [← hQ]
    exact hx_retl cx.x cx.b cx.r cx.k hlo (fun _ h => h) (Nat.le_of_ble_eq_true rfl) (Nat.le_of_ble_eq_true rfl) d_Mo_markWord_7 (⟨by decide +kernel, rfl⟩)
  · have hl : lv_has ls 2 [(0, .int (bI false)), (1, .int 1)] := hl
    refine lv_iload_n cx.x cx.b d_Mo_markWord_0 rfl (lv_at hl 1 rfl) ?_
    refine lv_if_ne (tgt := 8) cx.x cx.b d_Mo_markWord_1 (by decide) (fun _ => ?_) (fun c => absurd c (by decide))
    refine lv_iload_n cx.x cx.b d_Mo_markWord_8 rfl (lv_at hl 0 rfl) ?_
    refine lv_if_eq (tgt := 49) cx.x cx.b d_Mo_markWord_9 (by decide) (fun _ => ?_) (fun c => absurd (by decide) c)
    refine lv_iload_n cx.x cx.b d_Mo_markWord_49 rfl (lv_at hl 1 rfl) ?_
    refine lv_iconst (v := 1) cx.x cx.b d_Mo_markWord_50 (by decide) ?_
    refine lv_icmp_ne (tgt := 60) cx.x cx.b d_Mo_markWord_51 (by decide) (fun c => absurd (by decide) c) (fun _ => ?_)
    refine lv_ldc2 cx.x cx.b cx.o (cx.ts _ tw_936) d_Mo_markWord_54 ?_
    refine lv_goto (tgt := 63) cx.x cx.b d_Mo_markWord_57 (by decide) ?_
    rw [← hQ]
    exact hx_retl cx.x cx.b cx.r cx.k hlo (fun _ h => h) (Nat.le_of_ble_eq_true rfl) (Nat.le_of_ble_eq_true rfl) d_Mo_markWord_63 (⟨by decide +kernel, rfl⟩)
  · have hl : lv_has ls 2 [(0, .int (bI false)), (1, .int 2)] := hl
    refine lv_iload_n cx.x cx.b d_Mo_markWord_0 rfl (lv_at hl 1 rfl) ?_
    refine lv_if_ne (tgt := 8) cx.x cx.b d_Mo_markWord_1 (by decide) (fun _ => ?_) (fun c => absurd c (by decide))
    refine lv_iload_n cx.x cx.b d_Mo_markWord_8 rfl (lv_at hl 0 rfl) ?_
    refine lv_if_eq (tgt := 49) cx.x cx.b d_Mo_markWord_9 (by decide) (fun _ => ?_) (fun c => absurd (by decide) c)
    refine lv_iload_n cx.x cx.b d_Mo_markWord_49 rfl (lv_at hl 1 rfl) ?_
    refine lv_iconst (v := 1) cx.x cx.b d_Mo_markWord_50 (by decide) ?_
    refine lv_icmp_ne (tgt := 60) cx.x cx.b d_Mo_markWord_51 (by decide) (fun _ => ?_) (fun c => absurd c (by decide))
    refine lv_ldc2 cx.x cx.b cx.o (cx.ts _ tw_935) d_Mo_markWord_60 ?_
    rw [← hQ]
    exact hx_retl cx.x cx.b cx.r cx.k hlo (fun _ h => h) (Nat.le_of_ble_eq_true rfl) (Nat.le_of_ble_eq_true rfl) d_Mo_markWord_63 (⟨by decide +kernel, rfl⟩)

set_option maxHeartbeats 4000000 in
set_option maxRecDepth 100000 in
theorem c_Mo_kindWord_t (l : Launch) {E : hE} (hE : EnvOk E) {H : Heap} {k1 : Nat} (hk1 : k1 < 2) : Ct l E y_Mo_kindWord b_Mo_kindWord 2 (some .long) (rmA 0 0 0) [.int (bI true), .int (nI k1)] H (hQl (fun r H1 => r = lN (wnum (strL (kindS true k1))) ∧ H1 = H)) := by
  refine hx_enter hE (by decide) (Nat.le_of_ble_eq_true rfl) ?_
  intro p e s m args below meth c ls cx hnm hl
  have hl : lv_has ls 2 [(0, .int (bI true)), (1, .int (nI k1))] := hl
  have hlo : hLo (eB E) [] := hLo.nil
  generalize hQ : MQ below _ args s _ _ _ = Q
  rcases (show k1 = 0 ∨ k1 = 1 by omega) with rfl | rfl
  · have hl : lv_has ls 2 [(0, .int (bI true)), (1, .int 0)] := hl
    refine lv_iload_n cx.x cx.b d_Mo_kindWord_0 rfl (lv_at hl 0 rfl) ?_
    refine lv_if_eq (tgt := 18) cx.x cx.b d_Mo_kindWord_1 (by decide) (fun c => absurd c (by decide)) (fun _ => ?_)
    refine lv_iload_n cx.x cx.b d_Mo_kindWord_4 rfl (lv_at hl 1 rfl) ?_
    refine lv_if_ne (tgt := 14) cx.x cx.b d_Mo_kindWord_5 (by decide) (fun c => absurd (by decide) c) (fun _ => ?_)
    refine lv_ldc2 cx.x cx.b cx.o (cx.ts _ tw_946) d_Mo_kindWord_8 ?_
    refine lv_goto (tgt := 17) cx.x cx.b d_Mo_kindWord_11 (by decide) ?_
    rw [← hQ]
    exact hx_retl cx.x cx.b cx.r cx.k hlo (fun _ h => h) (Nat.le_of_ble_eq_true rfl) (Nat.le_of_ble_eq_true rfl) d_Mo_kindWord_17 (⟨by decide +kernel, rfl⟩)
  · have hl : lv_has ls 2 [(0, .int (bI true)), (1, .int 1)] := hl
    refine lv_iload_n cx.x cx.b d_Mo_kindWord_0 rfl (lv_at hl 0 rfl) ?_
    refine lv_if_eq (tgt := 18) cx.x cx.b d_Mo_kindWord_1 (by decide) (fun c => absurd c (by decide)) (fun _ => ?_)
    refine lv_iload_n cx.x cx.b d_Mo_kindWord_4 rfl (lv_at hl 1 rfl) ?_
    refine lv_if_ne (tgt := 14) cx.x cx.b d_Mo_kindWord_5 (by decide) (fun _ => ?_) (fun c => absurd c (by decide))
    refine lv_ldc2 cx.x cx.b cx.o (cx.ts _ tw_947) d_Mo_kindWord_14 ?_
    rw [← hQ]
    exact hx_retl cx.x cx.b cx.r cx.k hlo (fun _ h => h) (Nat.le_of_ble_eq_true rfl) (Nat.le_of_ble_eq_true rfl) d_Mo_kindWord_17 (⟨by decide +kernel, rfl⟩)

set_option maxHeartbeats 4000000 in
set_option maxRecDepth 100000 in
theorem c_Mo_kindWord_f (l : Launch) {E : hE} (hE : EnvOk E) {H : Heap} {k1 : Nat} (hk1 : k1 < 4) : Ct l E y_Mo_kindWord b_Mo_kindWord 2 (some .long) (rmA 0 0 0) [.int (bI false), .int (nI k1)] H (hQl (fun r H1 => r = lN (wnum (strL (kindS false k1))) ∧ H1 = H)) := by
  refine hx_enter hE (by decide) (Nat.le_of_ble_eq_true rfl) ?_
  intro p e s m args below meth c ls cx hnm hl
  have hl : lv_has ls 2 [(0, .int (bI false)), (1, .int (nI k1))] := hl
  have hlo : hLo (eB E) [] := hLo.nil
  generalize hQ : MQ below _ args s _ _ _ = Q
  rcases (show k1 = 0 ∨ k1 = 1 ∨ k1 = 2 ∨ k1 = 3 by omega) with rfl | rfl | rfl | rfl
  · have hl : lv_has ls 2 [(0, .int (bI false)), (1, .int 0)] := hl
    refine lv_iload_n cx.x cx.b d_Mo_kindWord_0 rfl (lv_at hl 0 rfl) ?_
    refine lv_if_eq (tgt := 18) cx.x cx.b d_Mo_kindWord_1 (by decide) (fun _ => ?_) (fun c => absurd (by decide) c)
    refine lv_iload_n cx.x cx.b d_Mo_kindWord_18 rfl (lv_at hl 1 rfl) ?_
    refine lv_if_ne (tgt := 28) cx.x cx.b d_Mo_kindWord_19 (by decide) (fun c => absurd (by decide) c) (fun _ => ?_)
    refine lv_ldc2 cx.x cx.b cx.o (cx.ts _ tw_948) d_Mo_kindWord_22 ?_
    refine lv_goto (tgt := 53) cx.x cx.b d_Mo_kindWord_25 (by decide) ?_
    rw [← hQ]
    exact hx_retl cx.x cx.b cx.r cx.k hlo (fun _ h => h) (Nat.le_of_ble_eq_true rfl) (Nat.le_of_ble_eq_true rfl) d_Mo_kindWord_53 (⟨by decide +kernel, rfl⟩)
  · have hl : lv_has ls 2 [(0, .int (bI false)), (1, .int 1)] := hl
    refine lv_iload_n cx.x cx.b d_Mo_kindWord_0 rfl (lv_at hl 0 rfl) ?_
    refine lv_if_eq (tgt := 18) cx.x cx.b d_Mo_kindWord_1 (by decide) (fun _ => ?_) (fun c => absurd (by decide) c)
    refine lv_iload_n cx.x cx.b d_Mo_kindWord_18 rfl (lv_at hl 1 rfl) ?_
    refine lv_if_ne (tgt := 28) cx.x cx.b d_Mo_kindWord_19 (by decide) (fun _ => ?_) (fun c => absurd c (by decide))
    refine lv_iload_n cx.x cx.b d_Mo_kindWord_28 rfl (lv_at hl 1 rfl) ?_
    refine lv_iconst (v := 1) cx.x cx.b d_Mo_kindWord_29 (by decide) ?_
    refine lv_icmp_ne (tgt := 39) cx.x cx.b d_Mo_kindWord_30 (by decide) (fun c => absurd (by decide) c) (fun _ => ?_)
    refine lv_ldc2 cx.x cx.b cx.o (cx.ts _ tw_949) d_Mo_kindWord_33 ?_
    refine lv_goto (tgt := 53) cx.x cx.b d_Mo_kindWord_36 (by decide) ?_
    rw [← hQ]
    exact hx_retl cx.x cx.b cx.r cx.k hlo (fun _ h => h) (Nat.le_of_ble_eq_true rfl) (Nat.le_of_ble_eq_true rfl) d_Mo_kindWord_53 (⟨by decide +kernel, rfl⟩)
  · have hl : lv_has ls 2 [(0, .int (bI false)), (1, .int 2)] := hl
    refine lv_iload_n cx.x cx.b d_Mo_kindWord_0 rfl (lv_at hl 0 rfl) ?_
    refine lv_if_eq (tgt := 18) cx.x cx.b d_Mo_kindWord_1 (by decide) (fun _ => ?_) (fun c => absurd (by decide) c)
    refine lv_iload_n cx.x cx.b d_Mo_kindWord_18 rfl (lv_at hl 1 rfl) ?_
    refine lv_if_ne (tgt := 28) cx.x cx.b d_Mo_kindWord_19 (by decide) (fun _ => ?_) (fun c => absurd c (by decide))
    refine lv_iload_n cx.x cx.b d_Mo_kindWord_28 rfl (lv_at hl 1 rfl) ?_
    refine lv_iconst (v := 1) cx.x cx.b d_Mo_kindWord_29 (by decide) ?_
    refine lv_icmp_ne (tgt := 39) cx.x cx.b d_Mo_kindWord_30 (by decide) (fun _ => ?_) (fun c => absurd c (by decide))
    refine lv_iload_n cx.x cx.b d_Mo_kindWord_39 rfl (lv_at hl 1 rfl) ?_
    refine lv_iconst (v := 2) cx.x cx.b d_Mo_kindWord_40 (by decide) ?_
    refine lv_icmp_ne (tgt := 50) cx.x cx.b d_Mo_kindWord_41 (by decide) (fun c => absurd (by decide) c) (fun _ => ?_)
    refine lv_ldc2 cx.x cx.b cx.o (cx.ts _ tw_950) d_Mo_kindWord_44 ?_
    refine lv_goto (tgt := 53) cx.x cx.b d_Mo_kindWord_47 (by decide) ?_
    rw [← hQ]
    exact hx_retl cx.x cx.b cx.r cx.k hlo (fun _ h => h) (Nat.le_of_ble_eq_true rfl) (Nat.le_of_ble_eq_true rfl) d_Mo_kindWord_53 (⟨by decide +kernel, rfl⟩)
  · have hl : lv_has ls 2 [(0, .int (bI false)), (1, .int 3)] := hl
    refine lv_iload_n cx.x cx.b d_Mo_kindWord_0 rfl (lv_at hl 0 rfl) ?_
    refine lv_if_eq (tgt := 18) cx.x cx.b d_Mo_kindWord_1 (by decide) (fun _ => ?_) (fun c => absurd (by decide) c)
    refine lv_iload_n cx.x cx.b d_Mo_kindWord_18 rfl (lv_at hl 1 rfl) ?_
    refine lv_if_ne (tgt := 28) cx.x cx.b d_Mo_kindWord_19 (by decide) (fun _ => ?_) (fun c => absurd c (by decide))
    refine lv_iload_n cx.x cx.b d_Mo_kindWord_28 rfl (lv_at hl 1 rfl) ?_
    refine lv_iconst (v := 1) cx.x cx.b d_Mo_kindWord_29 (by decide) ?_
    refine lv_icmp_ne (tgt := 39) cx.x cx.b d_Mo_kindWord_30 (by decide) (fun _ => ?_) (fun c => absurd c (by decide))
    refine lv_iload_n cx.x cx.b d_Mo_kindWord_39 rfl (lv_at hl 1 rfl) ?_
    refine lv_iconst (v := 2) cx.x cx.b d_Mo_kindWord_40 (by decide) ?_
    refine lv_icmp_ne (tgt := 50) cx.x cx.b d_Mo_kindWord_41 (by decide) (fun _ => ?_) (fun c => absurd c (by decide))
    refine lv_ldc2 cx.x cx.b cx.o (cx.ts _ tw_951) d_Mo_kindWord_50 ?_
    rw [← hQ]
    exact hx_retl cx.x cx.b cx.r cx.k hlo (fun _ h => h) (Nat.le_of_ble_eq_true rfl) (Nat.le_of_ble_eq_true rfl) d_Mo_kindWord_53 (⟨by decide +kernel, rfl⟩)

set_option maxHeartbeats 4000000 in
set_option maxRecDepth 100000 in
theorem c_Mo_rowLine_f (l : Launch) {E : hE} (hE : EnvOk E) {H : Heap} {a : Nat} {ad : Nat → Nat} {g : MS} (M : Mo E H a ad g) (hO : OutR (g.1 12) (g.2 11) []) {r1 fm : Nat} {x : DV} (hr1 : r1 < 216) (hrm : r1 % 108 < 12) (hr : Row g.1 r1 x) (hx : OkD false x) (hfm : fm < 10) : Ct l E y_Mo_rowLine b_Mo_rowLine 5 none (rmA 2 0 0) [.ref a, .int (nI r1), .int (nI fm)] H (hQv (fun H1 => ∃ (o9 : Nat → Nat) (n9 : Nat), Mw E H H1 a ad (up g.1 12 o9, up g.2 11 n9) ∧ OutR o9 n9 (lnT fm (false, x)))) := by
  refine hx_enter hE (by decide) (Nat.le_of_ble_eq_true rfl) ?_
  intro p e s m args below meth c ls cx hnm hl
  have hl : lv_has ls 5 [(0, .ref a), (1, .int (nI r1)), (2, .int (nI fm))] := hl
  have hlo : hLo (eB E) [] := hLo.nil
  generalize hQ : MQ below _ args s _ _ _ = Q
  have M0 : Mw E H H a ad g := ⟨M, hCh.rf, rfl⟩
  obtain ⟨rn, rd, rk, rm, rk2, rm2⟩ := hr
  obtain ⟨-, -, x3, x4, x5, x6, -⟩ := hx
  have hw0 : (g.2 11) = 0 := hO.1
  have hml := mkW_len false x.2.2.2 (nMarks false)
  rw [show nMarks false = 3 from rfl] at hml x6
  have hel := esc_len (fm := fm) x.1
  refine lv_iload_n cx.x cx.b d_Mo_rowLine_0 rfl (lv_at hl 1 rfl) ?_
  refine lv_bipush (v := 108) cx.x cx.b d_Mo_rowLine_1 (by decide) ?_
  refine lv_irem cx.x cx.b d_Mo_rowLine_3 (by decide) ?_
  refine lv_topi (fun x64 e_x64 => ?_)
  have e_x64 : x64 = nI (r1 % 108) := e_x64.trans (pk_rem (a := r1) (d := 108) (by omega) (by omega) (by omega))
  subst e_x64
  refine lv_bipush (v := 12) cx.x cx.b d_Mo_rowLine_4 (by decide) ?_
  refine lv_icmp_lt (tgt := 13) cx.x cx.b d_Mo_rowLine_6 (by decide) (fun _ => ?_) (fun c => absurd ((nI_ltI (a := r1 % 108) (b := 12) (by omega) (by omega)).mpr hrm) c)
  refine lv_iconst (v := 0) cx.x cx.b d_Mo_rowLine_13 (by decide) ?_
  refine lv_istore_n (lv' := [(3, .int 0), (0, .ref a), (1, .int (nI r1)), (2, .int (nI fm))]) cx.x cx.b d_Mo_rowLine_14 rfl hl (by decide) rfl (fun ls hl => ?_)
  refine lv_iload_n cx.x cx.b d_Mo_rowLine_15 rfl (lv_at hl 0 rfl) ?_
  refine lv_if_eq (tgt := 31) cx.x cx.b d_Mo_rowLine_16 (by decide) (fun _ => ?_) (fun c => absurd (by decide) c)
  have hO9 : OutR (g.1 12) (g.2 11) [] := hO
  refine lv_iconst (v := 0) cx.x cx.b d_Mo_rowLine_31 (by decide) ?_
  refine lv_istore (lv' := [(4, .int 0), (3, .int 0), (0, .ref a), (1, .int (nI r1)), (2, .int (nI fm))]) cx.x cx.b d_Mo_rowLine_32 hl (by decide) rfl (fun ls hl => ?_)
  have LP : ∀ (k : Nat) (locs : List Loc) (k1 n9 : Nat) (o9 : Nat → Nat) (O9 : List Nat) (H5 : Heap), hLo (eB E) locs → (5 - k1 < k) → (k1 ≤ 5) → (Mw E H H5 a ad (up g.1 12 o9, up g.2 11 n9)) → (OutR o9 n9 O9) → (O9 ++ mkW false x.2.2.2 (3 - k1) = [] ++ mkW false x.2.2.2 3) → ∀ ls, lv_has ls 5 [(4, .int (nI k1)), (3, .int (bI false)), (0, .ref a), (1, .int (nI r1)), (2, .int (nI fm))] → W p l e (rmA 2 0 0) s m args below meth c H5 locs 0 0 Q (F0 m 34 ls []) := by
    intro k
    induction k with
    | zero => intro locs k1 n9 o9 O9 H5 hlo hk hk1 M5 hO9 hW; exact absurd hk (by omega)
    | succ k ih =>
      intro locs k1 n9 o9 O9 H5 hlo hk hk1 M5 hO9 hW ls hl
      have oM65 : hOb (eD E) classes H5 a 10 [.ref (ad 0), .int (nI (g.2 0)), .ref (ad 1), .int (nI (g.2 1)), .int (nI (g.2 2)), .ref (ad 2), .ref (ad 3), .ref (ad 4), .ref (ad 5), .ref (ad 6), .ref (ad 7), .ref (ad 8), .ref (ad 9), .ref (ad 10), .int (nI (g.2 3)), .int (nI (g.2 4)), .int (nI (g.2 5)), .int (nI (g.2 6)), .int (nI (g.2 7)), .ref (ad 11), .int (nI (g.2 8)), .int (nI (g.2 9)), .int (nI (g.2 10)), .ref (ad 12), .int (nI n9), .ref (ad 13)] := M5.1.1
      have hWl := congrArg List.length hW
      rw [List.length_append, List.length_append] at hWl
      simp only [List.length_cons, List.length_nil] at hWl
      refine lv_iload cx.x cx.b d_Mo_rowLine_34 (lv_at hl 0 rfl) ?_
      refine lv_iconst (v := 5) cx.x cx.b d_Mo_rowLine_36 (by decide) ?_
      refine lv_icmp_ge (tgt := 70) cx.x cx.b d_Mo_rowLine_37 (by decide) (fun c1 => ?_) (fun c1 => ?_)
      · have c1 : 5 ≤ k1 := (nI_leI (a := 5) (b := k1) (by omega) (by omega)).mp c1
        rw [show 3 - k1 = 0 by omega] at hW
        have hW : O9 ++ [] = [] ++ mkW false x.2.2.2 3 := hW
        rw [List.append_nil] at hW
        refine lv_aload_n cx.x cx.b d_Mo_rowLine_70 rfl (lv_at hl 2 rfl) ?_
        refine lv_iload_n cx.x cx.b d_Mo_rowLine_71 rfl (lv_at hl 1 rfl) ?_
        refine lv_aload_n cx.x cx.b d_Mo_rowLine_72 rfl (lv_at hl 2 rfl) ?_
        refine gf_Mo_34_Mo cx oM65 rfl d_Mo_rowLine_73 ?_
        refine lv_iload_n cx.x cx.b d_Mo_rowLine_76 rfl (lv_at hl 3 rfl) ?_
        refine hx_iald cx.x cx.b cx.K 0 (M5.1.2.1 8 (by decide)) rfl (show vp_in (nI r1) 217 from vp_in_nI (show r1 < 217 by omega) (by decide)) d_Mo_rowLine_77 ?_
        refine lv_topi (fun x66 e_x66 => ?_)
        have e_x66 : x66 = nI x.2.2.1 := e_x66.trans (congrArg nI ((congrArg (g.1 8) (nI_clamp (n := r1) (by omega))).trans (rk)))
        subst e_x66
        refine hx_calll (iv_Mo_210 cx (c_Mo_kindWord_f l hE (H := H5) (k1 := x.2.2.1) x5) rfl hl.1 rfl (Nat.le_of_ble_eq_true rfl) d_Mo_rowLine_78 ⟨Nat.le_of_ble_eq_true rfl, Nat.le_of_ble_eq_true rfl⟩ ⟨Nat.le_of_ble_eq_true rfl, Nat.le_of_ble_eq_true rfl⟩) hlo (fun _ h => h) (fun r69 H68 locs hp67 hlo => ?_)
        obtain ⟨hp67, hH9⟩ := hp67
        have hH9 := hH9.symm
        subst hH9
        subst hp67
        obtain ⟨s1, s2, s3⟩ := str14 (kindS false x.2.2.1) (kdS_lt _ _)
        refine hx_callv (iv_Mo_206_Mo cx (c_Mo_say l hE M5.1 hO9 s1 s2 s3 (by omega)) oM65 rfl hl.1 rfl (Nat.le_of_ble_eq_true rfl) d_Mo_rowLine_81 ⟨Nat.le_of_ble_eq_true rfl, Nat.le_of_ble_eq_true rfl⟩ ⟨Nat.le_of_ble_eq_true rfl, Nat.le_of_ble_eq_true rfl⟩) hlo (fun _ h => h) (fun H71 locs hp70 hlo => ?_)
        obtain ⟨o73, n74, q_M72, hP1⟩ := hp70
        have M72 : Mw E H H71 a ad (up g.1 12 o73, up g.2 11 n74) := Mw.cg (M5.tr q_M72) rfl rfl rfl rfl rfl rfl rfl rfl rfl rfl rfl rfl rfl rfl rfl rfl rfl rfl rfl rfl rfl rfl rfl rfl rfl rfl
        have hP1 : OutR o73 n74 (O9 ++ ((strL (kindS false x.2.2.1)) ++ [32])) := hP1
        have oM75 : hOb (eD E) classes H71 a 10 [.ref (ad 0), .int (nI (g.2 0)), .ref (ad 1), .int (nI (g.2 1)), .int (nI (g.2 2)), .ref (ad 2), .ref (ad 3), .ref (ad 4), .ref (ad 5), .ref (ad 6), .ref (ad 7), .ref (ad 8), .ref (ad 9), .ref (ad 10), .int (nI (g.2 3)), .int (nI (g.2 4)), .int (nI (g.2 5)), .int (nI (g.2 6)), .int (nI (g.2 7)), .ref (ad 11), .int (nI (g.2 8)), .int (nI (g.2 9)), .int (nI (g.2 10)), .ref (ad 12), .int (nI n74), .ref (ad 13)] := M72.1.1
        obtain ⟨L1, hL1⟩ : ∃ L1, L1 = O9 ++ ((strL (kindS false x.2.2.1)) ++ [32]) := ⟨_, rfl⟩
        have hL1l : L1.length ≤ 63 := by rw [hL1, List.length_append, List.length_append, List.length_singleton]; omega
        rw [← hL1] at hP1
        refine lv_aload_n cx.x cx.b d_Mo_rowLine_84 rfl (lv_at hl 2 rfl) ?_
        refine lv_iconst (v := 1) cx.x cx.b d_Mo_rowLine_85 (by decide) ?_
        refine lv_iload_n cx.x cx.b d_Mo_rowLine_86 rfl (lv_at hl 3 rfl) ?_
        refine lv_iload_n cx.x cx.b d_Mo_rowLine_87 rfl (lv_at hl 4 rfl) ?_
        refine hx_callv (iv_Mo_213_Mo cx (c_Mo_copyText_n l hE M72.1 hP1 (r1 := r1) (fm := fm) (by omega) rn hfm (by omega)) oM75 rfl hl.1 rfl (Nat.le_of_ble_eq_true rfl) d_Mo_rowLine_88 ⟨Nat.le_of_ble_eq_true rfl, Nat.le_of_ble_eq_true rfl⟩ ⟨Nat.le_of_ble_eq_true rfl, Nat.le_of_ble_eq_true rfl⟩) hlo (fun _ h => h) (fun H77 locs hp76 hlo => ?_)
        obtain ⟨o79, n80, q_M78, hP2⟩ := hp76
        have M78 : Mw E H H77 a ad (up g.1 12 o79, up g.2 11 n80) := Mw.cg (M72.tr q_M78) rfl rfl rfl rfl rfl rfl rfl rfl rfl rfl rfl rfl rfl rfl rfl rfl rfl rfl rfl rfl rfl rfl rfl rfl rfl rfl
        have hP2 : OutR o79 n80 (L1 ++ escN fm x.1) := hP2
        have oM81 : hOb (eD E) classes H77 a 10 [.ref (ad 0), .int (nI (g.2 0)), .ref (ad 1), .int (nI (g.2 1)), .int (nI (g.2 2)), .ref (ad 2), .ref (ad 3), .ref (ad 4), .ref (ad 5), .ref (ad 6), .ref (ad 7), .ref (ad 8), .ref (ad 9), .ref (ad 10), .int (nI (g.2 3)), .int (nI (g.2 4)), .int (nI (g.2 5)), .int (nI (g.2 6)), .int (nI (g.2 7)), .ref (ad 11), .int (nI (g.2 8)), .int (nI (g.2 9)), .int (nI (g.2 10)), .ref (ad 12), .int (nI n80), .ref (ad 13)] := M78.1.1
        refine lv_iload_n cx.x cx.b d_Mo_rowLine_91 rfl (lv_at hl 1 rfl) ?_
        refine lv_if_eq (tgt := 108) cx.x cx.b d_Mo_rowLine_92 (by decide) (fun _ => ?_) (fun c => absurd (by decide) c)
        rw [← hQ]
        exact hx_retv cx.x cx.b cx.r cx.k hlo (fun _ h => h) (Nat.le_of_ble_eq_true rfl) (Nat.le_of_ble_eq_true rfl) d_Mo_rowLine_108 (⟨_, _, M78, by rw [show lnT fm (false, x) = L1 ++ escN fm x.1 from by rw [hL1, hW]; unfold lnT; simp [nMarks, List.append_assoc]]; exact hP2⟩)
      · have c1 : k1 < 5 := Nat.not_le.mp (fun zz => c1 ((nI_leI (a := 5) (b := k1) (by omega) (by omega)).mpr zz))
        refine lv_aload_n cx.x cx.b d_Mo_rowLine_40 rfl (lv_at hl 2 rfl) ?_
        refine gf_Mo_37_Mo cx oM65 rfl d_Mo_rowLine_41 ?_
        refine lv_iload_n cx.x cx.b d_Mo_rowLine_44 rfl (lv_at hl 3 rfl) ?_
        refine hx_iald cx.x cx.b cx.K 0 (M5.1.2.1 9 (by decide)) rfl (show vp_in (nI r1) 217 from vp_in_nI (show r1 < 217 by omega) (by decide)) d_Mo_rowLine_45 ?_
        refine lv_topi (fun x82 e_x82 => ?_)
        have e_x82 : x82 = nI x.2.2.2 := e_x82.trans (congrArg nI ((congrArg (g.1 9) (nI_clamp (n := r1) (by omega))).trans (rm)))
        subst e_x82
        refine lv_iload cx.x cx.b d_Mo_rowLine_46 (lv_at hl 0 rfl) ?_
        refine lv_ishr cx.x cx.b d_Mo_rowLine_48 ?_
        refine lv_topi (fun x83 e_x83 => ?_)
        refine lv_iconst (v := 1) cx.x cx.b d_Mo_rowLine_49 (by decide) ?_
        refine lv_iand cx.x cx.b d_Mo_rowLine_50 ?_
        refine lv_topi (fun x84 e_x84 => ?_)
        have e_x84 : x84 = nI (x.2.2.2 / 2 ^ k1 % 2) := e_x84.trans (by rw [e_x83]; exact shb x.2.2.2 rm2 k1 (by omega))
        subst e_x84
        have hb2 : x.2.2.2 / 2 ^ k1 % 2 < 2 := Nat.mod_lt _ (by decide)
        refine lv_if_eq (tgt := 64) cx.x cx.b d_Mo_rowLine_51 (by decide) (fun c2 => ?_) (fun c2 => ?_)
        · have c2 : (x.2.2.2 / 2 ^ k1 % 2) = 0 := (nI_eq (a := (x.2.2.2 / 2 ^ k1 % 2)) (b := 0) (by omega) (by omega)).mp c2
          obtain ⟨x85, e_x85⟩ : ∃ y : Int32, y = nI k1 + 1 := ⟨_, rfl⟩
          refine lv_iinc (v := x85) (lv' := [(4, .int x85), (3, .int (bI false)), (0, .ref a), (1, .int (nI r1)), (2, .int (nI fm))]) cx.x cx.b d_Mo_rowLine_64 hl (k := 0) rfl (by rw [e_x85]; rfl) (by decide) rfl (fun ls hl => ?_)
          have e_x85 : x85 = nI (k1 + 1) := e_x85.trans (nI_add k1 1)
          subst e_x85
          refine lv_goto (tgt := 34) cx.x cx.b d_Mo_rowLine_67 (by decide) ?_
          exact ih _ (k1 + 1) _ _ O9 _ hlo (by omega) (by omega) M5 hO9 (by by_cases e9 : k1 < 3; have h9 := mkW_at (m := false) (mk := x.2.2.2) (k := k1) e9; rw [if_neg (by omega), List.nil_append] at h9; have h9 : mkW false x.2.2.2 (3 - k1) = mkW false x.2.2.2 (3 - (k1 + 1)) := h9; rw [← h9]; exact hW; rw [show 3 - (k1 + 1) = 3 - k1 by omega]; exact hW) _ (lv_sub hl [0, 1, 2, 3, 4] rfl)
        · have c2 : (x.2.2.2 / 2 ^ k1 % 2) ≠ 0 := fun zz => c2 ((nI_eq (a := (x.2.2.2 / 2 ^ k1 % 2)) (b := 0) (by omega) (by omega)).mpr zz)
          have hk3 : k1 < 3 := by
            by_cases e9 : k1 < 3
            · exact e9
            · exact absurd (mk_hi (m := false) x6 (show nMarks false ≤ k1 by show 3 ≤ k1; omega)) c2
          have h9 := mkW_at (m := false) (mk := x.2.2.2) (k := k1) hk3
          rw [if_pos (by omega)] at h9
          have h9 : mkW false x.2.2.2 (3 - k1) = (strL (markS false k1) ++ [32]) ++ mkW false x.2.2.2 (3 - (k1 + 1)) := h9
          rw [h9, ← List.append_assoc] at hW
          refine lv_aload_n cx.x cx.b d_Mo_rowLine_54 rfl (lv_at hl 2 rfl) ?_
          refine lv_iload_n cx.x cx.b d_Mo_rowLine_55 rfl (lv_at hl 1 rfl) ?_
          refine lv_iload cx.x cx.b d_Mo_rowLine_56 (lv_at hl 0 rfl) ?_
          refine hx_calll (iv_Mo_202 cx (c_Mo_markWord_f l hE (H := H5) (k1 := k1) hk3) rfl hl.1 rfl (Nat.le_of_ble_eq_true rfl) d_Mo_rowLine_58 ⟨Nat.le_of_ble_eq_true rfl, Nat.le_of_ble_eq_true rfl⟩ ⟨Nat.le_of_ble_eq_true rfl, Nat.le_of_ble_eq_true rfl⟩) hlo (fun _ h => h) (fun r88 H87 locs hp86 hlo => ?_)
          obtain ⟨hp86, hH9⟩ := hp86
          have hH9 := hH9.symm
          subst hH9
          subst hp86
          obtain ⟨s1, s2, s3⟩ := str14 (markS false k1) (mkS_lt _ _)
          refine hx_callv (iv_Mo_206_Mo cx (c_Mo_say l hE M5.1 hO9 s1 s2 s3 (by omega)) oM65 rfl hl.1 rfl (Nat.le_of_ble_eq_true rfl) d_Mo_rowLine_61 ⟨Nat.le_of_ble_eq_true rfl, Nat.le_of_ble_eq_true rfl⟩ ⟨Nat.le_of_ble_eq_true rfl, Nat.le_of_ble_eq_true rfl⟩) hlo (fun _ h => h) (fun H90 locs hp89 hlo => ?_)
          obtain ⟨o92, n93, q_M91, hP1⟩ := hp89
          have M91 : Mw E H H90 a ad (up g.1 12 o92, up g.2 11 n93) := Mw.cg (M5.tr q_M91) rfl rfl rfl rfl rfl rfl rfl rfl rfl rfl rfl rfl rfl rfl rfl rfl rfl rfl rfl rfl rfl rfl rfl rfl rfl rfl
          have hP1 : OutR o92 n93 (O9 ++ ((strL (markS false k1)) ++ [32])) := hP1
          have oM94 : hOb (eD E) classes H90 a 10 [.ref (ad 0), .int (nI (g.2 0)), .ref (ad 1), .int (nI (g.2 1)), .int (nI (g.2 2)), .ref (ad 2), .ref (ad 3), .ref (ad 4), .ref (ad 5), .ref (ad 6), .ref (ad 7), .ref (ad 8), .ref (ad 9), .ref (ad 10), .int (nI (g.2 3)), .int (nI (g.2 4)), .int (nI (g.2 5)), .int (nI (g.2 6)), .int (nI (g.2 7)), .ref (ad 11), .int (nI (g.2 8)), .int (nI (g.2 9)), .int (nI (g.2 10)), .ref (ad 12), .int (nI n93), .ref (ad 13)] := M91.1.1
          obtain ⟨x95, e_x95⟩ : ∃ y : Int32, y = nI k1 + 1 := ⟨_, rfl⟩
          refine lv_iinc (v := x95) (lv' := [(4, .int x95), (3, .int (bI false)), (0, .ref a), (1, .int (nI r1)), (2, .int (nI fm))]) cx.x cx.b d_Mo_rowLine_64 hl (k := 0) rfl (by rw [e_x95]; rfl) (by decide) rfl (fun ls hl => ?_)
          have e_x95 : x95 = nI (k1 + 1) := e_x95.trans (nI_add k1 1)
          subst e_x95
          refine lv_goto (tgt := 34) cx.x cx.b d_Mo_rowLine_67 (by decide) ?_
          exact ih _ (k1 + 1) _ _ (O9 ++ ((strL (markS false k1)) ++ [32])) _ hlo (by omega) (by omega) M91 hP1 (hW) _ (lv_sub hl [0, 1, 2, 3, 4] rfl)
  exact LP _ _ 0 _ _ [] _ hlo (Nat.lt_succ_self _) (Nat.zero_le _) (Mw.cg M0 rfl rfl rfl rfl rfl rfl rfl rfl rfl rfl rfl rfl rfl rfl rfl rfl rfl rfl rfl rfl rfl rfl rfl rfl rfl rfl) hO9 rfl _ (lv_sub hl [0, 1, 2, 3, 4] rfl)

set_option maxHeartbeats 4000000 in
set_option maxRecDepth 100000 in
theorem c_Mo_rowLine_t (l : Launch) {E : hE} (hE : EnvOk E) {H : Heap} {a : Nat} {ad : Nat → Nat} {g : MS} (M : Mo E H a ad g) (hO : OutR (g.1 12) (g.2 11) []) {r1 fm : Nat} {x : DV} (hr1 : r1 < 216) (hrm : 12 ≤ r1 % 108) (hr : Row g.1 r1 x) (hx : OkD true x) (hfm : fm < 10) : Ct l E y_Mo_rowLine b_Mo_rowLine 5 none (rmA 2 0 0) [.ref a, .int (nI r1), .int (nI fm)] H (hQv (fun H1 => ∃ (o9 : Nat → Nat) (n9 : Nat), Mw E H H1 a ad (up g.1 12 o9, up g.2 11 n9) ∧ OutR o9 n9 (lnT fm (true, x)))) := by
  refine hx_enter hE (by decide) (Nat.le_of_ble_eq_true rfl) ?_
  intro p e s m args below meth c ls cx hnm hl
  have hl : lv_has ls 5 [(0, .ref a), (1, .int (nI r1)), (2, .int (nI fm))] := hl
  have hlo : hLo (eB E) [] := hLo.nil
  generalize hQ : MQ below _ args s _ _ _ = Q
  have M0 : Mw E H H a ad g := ⟨M, hCh.rf, rfl⟩
  obtain ⟨rn, rd, rk, rm, rk2, rm2⟩ := hr
  obtain ⟨-, -, x3, x4, x5, x6, -⟩ := hx
  have hw0 : (g.2 11) = 0 := hO.1
  have hml := mkW_len true x.2.2.2 (nMarks true)
  rw [show nMarks true = 5 from rfl] at hml x6
  have hel := esc_len (fm := fm) x.1
  refine lv_iload_n cx.x cx.b d_Mo_rowLine_0 rfl (lv_at hl 1 rfl) ?_
  refine lv_bipush (v := 108) cx.x cx.b d_Mo_rowLine_1 (by decide) ?_
  refine lv_irem cx.x cx.b d_Mo_rowLine_3 (by decide) ?_
  refine lv_topi (fun x96 e_x96 => ?_)
  have e_x96 : x96 = nI (r1 % 108) := e_x96.trans (pk_rem (a := r1) (d := 108) (by omega) (by omega) (by omega))
  subst e_x96
  refine lv_bipush (v := 12) cx.x cx.b d_Mo_rowLine_4 (by decide) ?_
  refine lv_icmp_lt (tgt := 13) cx.x cx.b d_Mo_rowLine_6 (by decide) (fun c => absurd ((nI_ltI (a := r1 % 108) (b := 12) (by omega) (by omega)).mp c) (by omega)) (fun _ => ?_)
  refine lv_iconst (v := 1) cx.x cx.b d_Mo_rowLine_9 (by decide) ?_
  refine lv_goto (tgt := 14) cx.x cx.b d_Mo_rowLine_10 (by decide) ?_
  refine lv_istore_n (lv' := [(3, .int 1), (0, .ref a), (1, .int (nI r1)), (2, .int (nI fm))]) cx.x cx.b d_Mo_rowLine_14 rfl hl (by decide) rfl (fun ls hl => ?_)
  refine lv_iload_n cx.x cx.b d_Mo_rowLine_15 rfl (lv_at hl 0 rfl) ?_
  refine lv_if_eq (tgt := 31) cx.x cx.b d_Mo_rowLine_16 (by decide) (fun c => absurd c (by decide)) (fun _ => ?_)
  have hO9 : OutR (g.1 12) (g.2 11) [] := hO
  refine lv_aload_n cx.x cx.b d_Mo_rowLine_19 rfl (lv_at hl 1 rfl) ?_
  refine lv_bipush (v := 32) cx.x cx.b d_Mo_rowLine_20 (by decide) ?_
  refine hx_callv (iv_Mo_198_Mo cx (c_Mo_put l hE M0.1 (x := 32) (show g.2 11 < 300 by omega)) M0.1.1 rfl hl.1 rfl (Nat.le_of_ble_eq_true rfl) d_Mo_rowLine_22 ⟨Nat.le_of_ble_eq_true rfl, Nat.le_of_ble_eq_true rfl⟩ ⟨Nat.le_of_ble_eq_true rfl, Nat.le_of_ble_eq_true rfl⟩) hlo (fun _ h => h) (fun H98 locs hp97 hlo => ?_)
  have q_M99 := hp97
  have M99 : Mw E H H98 a ad (up g.1 12 (updN (g.1 12) (g.2 11) 32), up g.2 11 ((g.2 11) + 1)) := Mw.cg (M0.tr q_M99) rfl rfl rfl rfl rfl rfl rfl rfl rfl rfl rfl rfl rfl rfl rfl rfl rfl rfl rfl rfl rfl rfl rfl rfl rfl rfl
  have oM100 : hOb (eD E) classes H98 a 10 [.ref (ad 0), .int (nI (g.2 0)), .ref (ad 1), .int (nI (g.2 1)), .int (nI (g.2 2)), .ref (ad 2), .ref (ad 3), .ref (ad 4), .ref (ad 5), .ref (ad 6), .ref (ad 7), .ref (ad 8), .ref (ad 9), .ref (ad 10), .int (nI (g.2 3)), .int (nI (g.2 4)), .int (nI (g.2 5)), .int (nI (g.2 6)), .int (nI (g.2 7)), .ref (ad 11), .int (nI (g.2 8)), .int (nI (g.2 9)), .int (nI (g.2 10)), .ref (ad 12), .int (nI ((g.2 11) + 1)), .ref (ad 13)] := M99.1.1
  refine lv_aload_n cx.x cx.b d_Mo_rowLine_25 rfl (lv_at hl 1 rfl) ?_
  refine lv_bipush (v := 32) cx.x cx.b d_Mo_rowLine_26 (by decide) ?_
  refine hx_callv (iv_Mo_198_Mo cx (c_Mo_put l hE M99.1 (x := 32) (show (g.2 11) + 1 < 300 by omega)) oM100 rfl hl.1 rfl (Nat.le_of_ble_eq_true rfl) d_Mo_rowLine_28 ⟨Nat.le_of_ble_eq_true rfl, Nat.le_of_ble_eq_true rfl⟩ ⟨Nat.le_of_ble_eq_true rfl, Nat.le_of_ble_eq_true rfl⟩) hlo (fun _ h => h) (fun H102 locs hp101 hlo => ?_)
  have q_M103 := hp101
  have M103 : Mw E H H102 a ad (up g.1 12 (updN (updN (g.1 12) (g.2 11) 32) ((g.2 11) + 1) 32), up g.2 11 (((g.2 11) + 1) + 1)) := Mw.cg (M99.tr q_M103) rfl rfl rfl rfl rfl rfl rfl rfl rfl rfl rfl rfl rfl rfl rfl rfl rfl rfl rfl rfl rfl rfl rfl rfl rfl rfl
  have oM104 : hOb (eD E) classes H102 a 10 [.ref (ad 0), .int (nI (g.2 0)), .ref (ad 1), .int (nI (g.2 1)), .int (nI (g.2 2)), .ref (ad 2), .ref (ad 3), .ref (ad 4), .ref (ad 5), .ref (ad 6), .ref (ad 7), .ref (ad 8), .ref (ad 9), .ref (ad 10), .int (nI (g.2 3)), .int (nI (g.2 4)), .int (nI (g.2 5)), .int (nI (g.2 6)), .int (nI (g.2 7)), .ref (ad 11), .int (nI (g.2 8)), .int (nI (g.2 9)), .int (nI (g.2 10)), .ref (ad 12), .int (nI (((g.2 11) + 1) + 1)), .ref (ad 13)] := M103.1.1
  have hO9 := (hO9.put (x := 32)).put (x := 32)
  have hO9 : OutR (updN (updN (g.1 12) (g.2 11) 32) ((g.2 11) + 1) 32) (((g.2 11) + 1) + 1) [32, 32] := hO9
  refine lv_iconst (v := 0) cx.x cx.b d_Mo_rowLine_31 (by decide) ?_
  refine lv_istore (lv' := [(4, .int 0), (3, .int 1), (0, .ref a), (1, .int (nI r1)), (2, .int (nI fm))]) cx.x cx.b d_Mo_rowLine_32 hl (by decide) rfl (fun ls hl => ?_)
  have LP : ∀ (k : Nat) (locs : List Loc) (k1 n9 : Nat) (o9 : Nat → Nat) (O9 : List Nat) (H5 : Heap), hLo (eB E) locs → (5 - k1 < k) → (k1 ≤ 5) → (Mw E H H5 a ad (up g.1 12 o9, up g.2 11 n9)) → (OutR o9 n9 O9) → (O9 ++ mkW true x.2.2.2 (5 - k1) = [32, 32] ++ mkW true x.2.2.2 5) → ∀ ls, lv_has ls 5 [(4, .int (nI k1)), (3, .int (bI true)), (0, .ref a), (1, .int (nI r1)), (2, .int (nI fm))] → W p l e (rmA 2 0 0) s m args below meth c H5 locs 0 0 Q (F0 m 34 ls []) := by
    intro k
    induction k with
    | zero => intro locs k1 n9 o9 O9 H5 hlo hk hk1 M5 hO9 hW; exact absurd hk (by omega)
    | succ k ih =>
      intro locs k1 n9 o9 O9 H5 hlo hk hk1 M5 hO9 hW ls hl
      have oM105 : hOb (eD E) classes H5 a 10 [.ref (ad 0), .int (nI (g.2 0)), .ref (ad 1), .int (nI (g.2 1)), .int (nI (g.2 2)), .ref (ad 2), .ref (ad 3), .ref (ad 4), .ref (ad 5), .ref (ad 6), .ref (ad 7), .ref (ad 8), .ref (ad 9), .ref (ad 10), .int (nI (g.2 3)), .int (nI (g.2 4)), .int (nI (g.2 5)), .int (nI (g.2 6)), .int (nI (g.2 7)), .ref (ad 11), .int (nI (g.2 8)), .int (nI (g.2 9)), .int (nI (g.2 10)), .ref (ad 12), .int (nI n9), .ref (ad 13)] := M5.1.1
      have hWl := congrArg List.length hW
      rw [List.length_append, List.length_append] at hWl
      simp only [List.length_cons, List.length_nil] at hWl
      refine lv_iload cx.x cx.b d_Mo_rowLine_34 (lv_at hl 0 rfl) ?_
      refine lv_iconst (v := 5) cx.x cx.b d_Mo_rowLine_36 (by decide) ?_
      refine lv_icmp_ge (tgt := 70) cx.x cx.b d_Mo_rowLine_37 (by decide) (fun c1 => ?_) (fun c1 => ?_)
      · have c1 : 5 ≤ k1 := (nI_leI (a := 5) (b := k1) (by omega) (by omega)).mp c1
        rw [show 5 - k1 = 0 by omega] at hW
        have hW : O9 ++ [] = [32, 32] ++ mkW true x.2.2.2 5 := hW
        rw [List.append_nil] at hW
        refine lv_aload_n cx.x cx.b d_Mo_rowLine_70 rfl (lv_at hl 2 rfl) ?_
        refine lv_iload_n cx.x cx.b d_Mo_rowLine_71 rfl (lv_at hl 1 rfl) ?_
        refine lv_aload_n cx.x cx.b d_Mo_rowLine_72 rfl (lv_at hl 2 rfl) ?_
        refine gf_Mo_34_Mo cx oM105 rfl d_Mo_rowLine_73 ?_
        refine lv_iload_n cx.x cx.b d_Mo_rowLine_76 rfl (lv_at hl 3 rfl) ?_
        refine hx_iald cx.x cx.b cx.K 0 (M5.1.2.1 8 (by decide)) rfl (show vp_in (nI r1) 217 from vp_in_nI (show r1 < 217 by omega) (by decide)) d_Mo_rowLine_77 ?_
        refine lv_topi (fun x106 e_x106 => ?_)
        have e_x106 : x106 = nI x.2.2.1 := e_x106.trans (congrArg nI ((congrArg (g.1 8) (nI_clamp (n := r1) (by omega))).trans (rk)))
        subst e_x106
        refine hx_calll (iv_Mo_210 cx (c_Mo_kindWord_t l hE (H := H5) (k1 := x.2.2.1) x5) rfl hl.1 rfl (Nat.le_of_ble_eq_true rfl) d_Mo_rowLine_78 ⟨Nat.le_of_ble_eq_true rfl, Nat.le_of_ble_eq_true rfl⟩ ⟨Nat.le_of_ble_eq_true rfl, Nat.le_of_ble_eq_true rfl⟩) hlo (fun _ h => h) (fun r109 H108 locs hp107 hlo => ?_)
        obtain ⟨hp107, hH9⟩ := hp107
        have hH9 := hH9.symm
        subst hH9
        subst hp107
        obtain ⟨s1, s2, s3⟩ := str14 (kindS true x.2.2.1) (kdS_lt _ _)
        refine hx_callv (iv_Mo_206_Mo cx (c_Mo_say l hE M5.1 hO9 s1 s2 s3 (by omega)) oM105 rfl hl.1 rfl (Nat.le_of_ble_eq_true rfl) d_Mo_rowLine_81 ⟨Nat.le_of_ble_eq_true rfl, Nat.le_of_ble_eq_true rfl⟩ ⟨Nat.le_of_ble_eq_true rfl, Nat.le_of_ble_eq_true rfl⟩) hlo (fun _ h => h) (fun H111 locs hp110 hlo => ?_)
        obtain ⟨o113, n114, q_M112, hP1⟩ := hp110
        have M112 : Mw E H H111 a ad (up g.1 12 o113, up g.2 11 n114) := Mw.cg (M5.tr q_M112) rfl rfl rfl rfl rfl rfl rfl rfl rfl rfl rfl rfl rfl rfl rfl rfl rfl rfl rfl rfl rfl rfl rfl rfl rfl rfl
        have hP1 : OutR o113 n114 (O9 ++ ((strL (kindS true x.2.2.1)) ++ [32])) := hP1
        have oM115 : hOb (eD E) classes H111 a 10 [.ref (ad 0), .int (nI (g.2 0)), .ref (ad 1), .int (nI (g.2 1)), .int (nI (g.2 2)), .ref (ad 2), .ref (ad 3), .ref (ad 4), .ref (ad 5), .ref (ad 6), .ref (ad 7), .ref (ad 8), .ref (ad 9), .ref (ad 10), .int (nI (g.2 3)), .int (nI (g.2 4)), .int (nI (g.2 5)), .int (nI (g.2 6)), .int (nI (g.2 7)), .ref (ad 11), .int (nI (g.2 8)), .int (nI (g.2 9)), .int (nI (g.2 10)), .ref (ad 12), .int (nI n114), .ref (ad 13)] := M112.1.1
        obtain ⟨L1, hL1⟩ : ∃ L1, L1 = O9 ++ ((strL (kindS true x.2.2.1)) ++ [32]) := ⟨_, rfl⟩
        have hL1l : L1.length ≤ 63 := by rw [hL1, List.length_append, List.length_append, List.length_singleton]; omega
        rw [← hL1] at hP1
        refine lv_aload_n cx.x cx.b d_Mo_rowLine_84 rfl (lv_at hl 2 rfl) ?_
        refine lv_iconst (v := 1) cx.x cx.b d_Mo_rowLine_85 (by decide) ?_
        refine lv_iload_n cx.x cx.b d_Mo_rowLine_86 rfl (lv_at hl 3 rfl) ?_
        refine lv_iload_n cx.x cx.b d_Mo_rowLine_87 rfl (lv_at hl 4 rfl) ?_
        refine hx_callv (iv_Mo_213_Mo cx (c_Mo_copyText_n l hE M112.1 hP1 (r1 := r1) (fm := fm) (by omega) rn hfm (by omega)) oM115 rfl hl.1 rfl (Nat.le_of_ble_eq_true rfl) d_Mo_rowLine_88 ⟨Nat.le_of_ble_eq_true rfl, Nat.le_of_ble_eq_true rfl⟩ ⟨Nat.le_of_ble_eq_true rfl, Nat.le_of_ble_eq_true rfl⟩) hlo (fun _ h => h) (fun H117 locs hp116 hlo => ?_)
        obtain ⟨o119, n120, q_M118, hP2⟩ := hp116
        have M118 : Mw E H H117 a ad (up g.1 12 o119, up g.2 11 n120) := Mw.cg (M112.tr q_M118) rfl rfl rfl rfl rfl rfl rfl rfl rfl rfl rfl rfl rfl rfl rfl rfl rfl rfl rfl rfl rfl rfl rfl rfl rfl rfl
        have hP2 : OutR o119 n120 (L1 ++ escN fm x.1) := hP2
        have oM121 : hOb (eD E) classes H117 a 10 [.ref (ad 0), .int (nI (g.2 0)), .ref (ad 1), .int (nI (g.2 1)), .int (nI (g.2 2)), .ref (ad 2), .ref (ad 3), .ref (ad 4), .ref (ad 5), .ref (ad 6), .ref (ad 7), .ref (ad 8), .ref (ad 9), .ref (ad 10), .int (nI (g.2 3)), .int (nI (g.2 4)), .int (nI (g.2 5)), .int (nI (g.2 6)), .int (nI (g.2 7)), .ref (ad 11), .int (nI (g.2 8)), .int (nI (g.2 9)), .int (nI (g.2 10)), .ref (ad 12), .int (nI n120), .ref (ad 13)] := M118.1.1
        refine lv_iload_n cx.x cx.b d_Mo_rowLine_91 rfl (lv_at hl 1 rfl) ?_
        refine lv_if_eq (tgt := 108) cx.x cx.b d_Mo_rowLine_92 (by decide) (fun c => absurd c (by decide)) (fun _ => ?_)
        obtain ⟨L2, hL2⟩ : ∃ L2, L2 = L1 ++ escN fm x.1 := ⟨_, rfl⟩
        have hL2l : L2.length ≤ 103 := by rw [hL2, List.length_append]; omega
        rw [← hL2] at hP2
        have hn2 := hP2.1
        refine lv_aload_n cx.x cx.b d_Mo_rowLine_95 rfl (lv_at hl 2 rfl) ?_
        refine lv_bipush (v := 32) cx.x cx.b d_Mo_rowLine_96 (by decide) ?_
        refine hx_callv (iv_Mo_198_Mo cx (c_Mo_put l hE M118.1 (x := 32) (show n120 < 300 by omega)) oM121 rfl hl.1 rfl (Nat.le_of_ble_eq_true rfl) d_Mo_rowLine_98 ⟨Nat.le_of_ble_eq_true rfl, Nat.le_of_ble_eq_true rfl⟩ ⟨Nat.le_of_ble_eq_true rfl, Nat.le_of_ble_eq_true rfl⟩) hlo (fun _ h => h) (fun H123 locs hp122 hlo => ?_)
        have q_M124 := hp122
        have M124 : Mw E H H123 a ad (up g.1 12 (updN o119 n120 32), up g.2 11 (n120 + 1)) := Mw.cg (M118.tr q_M124) rfl rfl rfl rfl rfl rfl rfl rfl rfl rfl rfl rfl rfl rfl rfl rfl rfl rfl rfl rfl rfl rfl rfl rfl rfl rfl
        have oM125 : hOb (eD E) classes H123 a 10 [.ref (ad 0), .int (nI (g.2 0)), .ref (ad 1), .int (nI (g.2 1)), .int (nI (g.2 2)), .ref (ad 2), .ref (ad 3), .ref (ad 4), .ref (ad 5), .ref (ad 6), .ref (ad 7), .ref (ad 8), .ref (ad 9), .ref (ad 10), .int (nI (g.2 3)), .int (nI (g.2 4)), .int (nI (g.2 5)), .int (nI (g.2 6)), .int (nI (g.2 7)), .ref (ad 11), .int (nI (g.2 8)), .int (nI (g.2 9)), .int (nI (g.2 10)), .ref (ad 12), .int (nI (n120 + 1)), .ref (ad 13)] := M124.1.1
        have hP3 := hP2.put (x := 32)
        refine lv_aload_n cx.x cx.b d_Mo_rowLine_101 rfl (lv_at hl 2 rfl) ?_
        refine lv_iconst (v := 0) cx.x cx.b d_Mo_rowLine_102 (by decide) ?_
        refine lv_iload_n cx.x cx.b d_Mo_rowLine_103 rfl (lv_at hl 3 rfl) ?_
        refine lv_iload_n cx.x cx.b d_Mo_rowLine_104 rfl (lv_at hl 4 rfl) ?_
        refine hx_callv (iv_Mo_213_Mo cx (c_Mo_copyText_d l hE M124.1 hP3 (r1 := r1) (fm := fm) (by omega) rd hfm (by rw [List.length_append, List.length_singleton]; omega)) oM125 rfl hl.1 rfl (Nat.le_of_ble_eq_true rfl) d_Mo_rowLine_105 ⟨Nat.le_of_ble_eq_true rfl, Nat.le_of_ble_eq_true rfl⟩ ⟨Nat.le_of_ble_eq_true rfl, Nat.le_of_ble_eq_true rfl⟩) hlo (fun _ h => h) (fun H127 locs hp126 hlo => ?_)
        obtain ⟨o129, n130, q_M128, hP4⟩ := hp126
        have M128 : Mw E H H127 a ad (up g.1 12 o129, up g.2 11 n130) := Mw.cg (M124.tr q_M128) rfl rfl rfl rfl rfl rfl rfl rfl rfl rfl rfl rfl rfl rfl rfl rfl rfl rfl rfl rfl rfl rfl rfl rfl rfl rfl
        have hP4 : OutR o129 n130 ((L2 ++ [32]) ++ escN fm x.2.1) := hP4
        have oM131 : hOb (eD E) classes H127 a 10 [.ref (ad 0), .int (nI (g.2 0)), .ref (ad 1), .int (nI (g.2 1)), .int (nI (g.2 2)), .ref (ad 2), .ref (ad 3), .ref (ad 4), .ref (ad 5), .ref (ad 6), .ref (ad 7), .ref (ad 8), .ref (ad 9), .ref (ad 10), .int (nI (g.2 3)), .int (nI (g.2 4)), .int (nI (g.2 5)), .int (nI (g.2 6)), .int (nI (g.2 7)), .ref (ad 11), .int (nI (g.2 8)), .int (nI (g.2 9)), .int (nI (g.2 10)), .ref (ad 12), .int (nI n130), .ref (ad 13)] := M128.1.1
        rw [← hQ]
        exact hx_retv cx.x cx.b cx.r cx.k hlo (fun _ h => h) (Nat.le_of_ble_eq_true rfl) (Nat.le_of_ble_eq_true rfl) d_Mo_rowLine_108 (⟨_, _, M128, by rw [show lnT fm (true, x) = (L2 ++ [32]) ++ escN fm x.2.1 from by rw [hL2, hL1, hW]; unfold lnT; simp [nMarks, List.append_assoc]]; exact hP4⟩)
      · have c1 : k1 < 5 := Nat.not_le.mp (fun zz => c1 ((nI_leI (a := 5) (b := k1) (by omega) (by omega)).mpr zz))
        refine lv_aload_n cx.x cx.b d_Mo_rowLine_40 rfl (lv_at hl 2 rfl) ?_
        refine gf_Mo_37_Mo cx oM105 rfl d_Mo_rowLine_41 ?_
        refine lv_iload_n cx.x cx.b d_Mo_rowLine_44 rfl (lv_at hl 3 rfl) ?_
        refine hx_iald cx.x cx.b cx.K 0 (M5.1.2.1 9 (by decide)) rfl (show vp_in (nI r1) 217 from vp_in_nI (show r1 < 217 by omega) (by decide)) d_Mo_rowLine_45 ?_
        refine lv_topi (fun x132 e_x132 => ?_)
        have e_x132 : x132 = nI x.2.2.2 := e_x132.trans (congrArg nI ((congrArg (g.1 9) (nI_clamp (n := r1) (by omega))).trans (rm)))
        subst e_x132
        refine lv_iload cx.x cx.b d_Mo_rowLine_46 (lv_at hl 0 rfl) ?_
        refine lv_ishr cx.x cx.b d_Mo_rowLine_48 ?_
        refine lv_topi (fun x133 e_x133 => ?_)
        refine lv_iconst (v := 1) cx.x cx.b d_Mo_rowLine_49 (by decide) ?_
        refine lv_iand cx.x cx.b d_Mo_rowLine_50 ?_
        refine lv_topi (fun x134 e_x134 => ?_)
        have e_x134 : x134 = nI (x.2.2.2 / 2 ^ k1 % 2) := e_x134.trans (by rw [e_x133]; exact shb x.2.2.2 rm2 k1 (by omega))
        subst e_x134
        have hb2 : x.2.2.2 / 2 ^ k1 % 2 < 2 := Nat.mod_lt _ (by decide)
        refine lv_if_eq (tgt := 64) cx.x cx.b d_Mo_rowLine_51 (by decide) (fun c2 => ?_) (fun c2 => ?_)
        · have c2 : (x.2.2.2 / 2 ^ k1 % 2) = 0 := (nI_eq (a := (x.2.2.2 / 2 ^ k1 % 2)) (b := 0) (by omega) (by omega)).mp c2
          obtain ⟨x135, e_x135⟩ : ∃ y : Int32, y = nI k1 + 1 := ⟨_, rfl⟩
          refine lv_iinc (v := x135) (lv' := [(4, .int x135), (3, .int (bI true)), (0, .ref a), (1, .int (nI r1)), (2, .int (nI fm))]) cx.x cx.b d_Mo_rowLine_64 hl (k := 0) rfl (by rw [e_x135]; rfl) (by decide) rfl (fun ls hl => ?_)
          have e_x135 : x135 = nI (k1 + 1) := e_x135.trans (nI_add k1 1)
          subst e_x135
          refine lv_goto (tgt := 34) cx.x cx.b d_Mo_rowLine_67 (by decide) ?_
          exact ih _ (k1 + 1) _ _ O9 _ hlo (by omega) (by omega) M5 hO9 (by by_cases e9 : k1 < 5; have h9 := mkW_at (m := true) (mk := x.2.2.2) (k := k1) e9; rw [if_neg (by omega), List.nil_append] at h9; have h9 : mkW true x.2.2.2 (5 - k1) = mkW true x.2.2.2 (5 - (k1 + 1)) := h9; rw [← h9]; exact hW; rw [show 5 - (k1 + 1) = 5 - k1 by omega]; exact hW) _ (lv_sub hl [0, 1, 2, 3, 4] rfl)
        · have c2 : (x.2.2.2 / 2 ^ k1 % 2) ≠ 0 := fun zz => c2 ((nI_eq (a := (x.2.2.2 / 2 ^ k1 % 2)) (b := 0) (by omega) (by omega)).mpr zz)
          have hk3 : k1 < 5 := by
            by_cases e9 : k1 < 5
            · exact e9
            · exact absurd (mk_hi (m := true) x6 (show nMarks true ≤ k1 by show 5 ≤ k1; omega)) c2
          have h9 := mkW_at (m := true) (mk := x.2.2.2) (k := k1) hk3
          rw [if_pos (by omega)] at h9
          have h9 : mkW true x.2.2.2 (5 - k1) = (strL (markS true k1) ++ [32]) ++ mkW true x.2.2.2 (5 - (k1 + 1)) := h9
          rw [h9, ← List.append_assoc] at hW
          refine lv_aload_n cx.x cx.b d_Mo_rowLine_54 rfl (lv_at hl 2 rfl) ?_
          refine lv_iload_n cx.x cx.b d_Mo_rowLine_55 rfl (lv_at hl 1 rfl) ?_
          refine lv_iload cx.x cx.b d_Mo_rowLine_56 (lv_at hl 0 rfl) ?_
          refine hx_calll (iv_Mo_202 cx (c_Mo_markWord_t l hE (H := H5) (k1 := k1) hk3) rfl hl.1 rfl (Nat.le_of_ble_eq_true rfl) d_Mo_rowLine_58 ⟨Nat.le_of_ble_eq_true rfl, Nat.le_of_ble_eq_true rfl⟩ ⟨Nat.le_of_ble_eq_true rfl, Nat.le_of_ble_eq_true rfl⟩) hlo (fun _ h => h) (fun r138 H137 locs hp136 hlo => ?_)
          obtain ⟨hp136, hH9⟩ := hp136
          have hH9 := hH9.symm
          subst hH9
          subst hp136
          obtain ⟨s1, s2, s3⟩ := str14 (markS true k1) (mkS_lt _ _)
          refine hx_callv (iv_Mo_206_Mo cx (c_Mo_say l hE M5.1 hO9 s1 s2 s3 (by omega)) oM105 rfl hl.1 rfl (Nat.le_of_ble_eq_true rfl) d_Mo_rowLine_61 ⟨Nat.le_of_ble_eq_true rfl, Nat.le_of_ble_eq_true rfl⟩ ⟨Nat.le_of_ble_eq_true rfl, Nat.le_of_ble_eq_true rfl⟩) hlo (fun _ h => h) (fun H140 locs hp139 hlo => ?_)
          obtain ⟨o142, n143, q_M141, hP1⟩ := hp139
          have M141 : Mw E H H140 a ad (up g.1 12 o142, up g.2 11 n143) := Mw.cg (M5.tr q_M141) rfl rfl rfl rfl rfl rfl rfl rfl rfl rfl rfl rfl rfl rfl rfl rfl rfl rfl rfl rfl rfl rfl rfl rfl rfl rfl
          have hP1 : OutR o142 n143 (O9 ++ ((strL (markS true k1)) ++ [32])) := hP1
          have oM144 : hOb (eD E) classes H140 a 10 [.ref (ad 0), .int (nI (g.2 0)), .ref (ad 1), .int (nI (g.2 1)), .int (nI (g.2 2)), .ref (ad 2), .ref (ad 3), .ref (ad 4), .ref (ad 5), .ref (ad 6), .ref (ad 7), .ref (ad 8), .ref (ad 9), .ref (ad 10), .int (nI (g.2 3)), .int (nI (g.2 4)), .int (nI (g.2 5)), .int (nI (g.2 6)), .int (nI (g.2 7)), .ref (ad 11), .int (nI (g.2 8)), .int (nI (g.2 9)), .int (nI (g.2 10)), .ref (ad 12), .int (nI n143), .ref (ad 13)] := M141.1.1
          obtain ⟨x145, e_x145⟩ : ∃ y : Int32, y = nI k1 + 1 := ⟨_, rfl⟩
          refine lv_iinc (v := x145) (lv' := [(4, .int x145), (3, .int (bI true)), (0, .ref a), (1, .int (nI r1)), (2, .int (nI fm))]) cx.x cx.b d_Mo_rowLine_64 hl (k := 0) rfl (by rw [e_x145]; rfl) (by decide) rfl (fun ls hl => ?_)
          have e_x145 : x145 = nI (k1 + 1) := e_x145.trans (nI_add k1 1)
          subst e_x145
          refine lv_goto (tgt := 34) cx.x cx.b d_Mo_rowLine_67 (by decide) ?_
          exact ih _ (k1 + 1) _ _ (O9 ++ ((strL (markS true k1)) ++ [32])) _ hlo (by omega) (by omega) M141 hP1 (hW) _ (lv_sub hl [0, 1, 2, 3, 4] rfl)
  exact LP _ _ 0 _ _ [32, 32] _ hlo (Nat.lt_succ_self _) (Nat.zero_le _) (Mw.cg M103 rfl rfl rfl rfl rfl rfl rfl rfl rfl rfl rfl rfl rfl rfl rfl rfl rfl rfl rfl rfl rfl rfl rfl rfl rfl rfl) hO9 rfl _ (lv_sub hl [0, 1, 2, 3, 4] rfl)
