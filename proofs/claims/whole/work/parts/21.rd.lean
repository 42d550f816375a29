/-! THE READER -/
theorem ndn {l : List Nat} (h : l.Nodup) (i j : Nat) {a b : Nat} (hi : l[i]? = some a) (hj : l[j]? = some b) (hij : i ≠ j) : a ≠ b := fun e => by
  subst e
  obtain ⟨h1, h2⟩ := List.getElem?_eq_some_iff.mp hi
  obtain ⟨h3, h4⟩ := List.getElem?_eq_some_iff.mp hj
  exact hij ((List.getElem_inj h).mp (h2.trans h4.symm))
def mkHf (mem : Bool) (x : List Nat) : Nat → Nat
  | 0 => 0
  | n + 1 => if x = strL (markS mem (nMarks mem - (n + 1))) then 2 ^ (nMarks mem - (n + 1)) else mkHf mem x n
/-- the mark of a word, or 0; the kind of a word -/
def mkH (mem : Bool) (x : List Nat) : Nat := mkHf mem x (nMarks mem)
def kdHf (mem : Bool) (x : List Nat) : Nat → Option Nat
  | 0 => none
  | n + 1 => if x = strL (kindS mem (nKinds mem - (n + 1))) then some (nKinds mem - (n + 1)) else kdHf mem x n
def kdH (mem : Bool) (x : List Nat) : Option Nat := kdHf mem x (nKinds mem)
/-- the marks from a word on: whether none is repeated, their sum, where the line then stands -/
def rmk (mem : Bool) (txt : List Nat) (en : Nat) : Nat → Nat → Nat → Nat → Bool × Nat × Nat × Nat
  | 0, mq, ws, we => (true, mq, ws, we)
  | n + 1, mq, ws, we => if mkH mem (wdO txt ws we) = 0 then (true, mq, ws, we) else if mq &&& mkH mem (wdO txt ws we) ≠ 0 then (false, mq, ws, we) else rmk mem txt en n (mq ||| mkH mem (wdO txt ws we)) (wdS (txt.take en) we) (wdE (txt.take en) (wdS (txt.take en) we))
theorem nI_and : ∀ a, a < 64 → ∀ b, b < 64 → nI a &&& nI b = nI (a &&& b) ∧ nI a ||| nI b = nI (a ||| b) ∧ (a &&& b) < 64 ∧ (a ||| b) < 64 := by decide +kernel
theorem mkHf_lt (mem : Bool) (x : List Nat) : ∀ n, mkHf mem x n < 64
  | 0 => by unfold mkHf; omega
  | n + 1 => by
    unfold mkHf
    by_cases c : x = strL (markS mem (nMarks mem - (n + 1)))
    · rw [if_pos c]
      have h1 : nMarks mem - (n + 1) ≤ 5 := by cases mem <;> (unfold nMarks; simp; omega)
      have h2 : 2 ^ (nMarks mem - (n + 1)) ≤ 2 ^ 5 := Nat.pow_le_pow_right (by omega) h1
      omega
    · rw [if_neg c]; exact mkHf_lt mem x n
theorem mkH_lt (mem : Bool) (x : List Nat) : mkH mem x < 64 := mkHf_lt mem x _
theorem kdHf_lt (mem : Bool) (x : List Nat) : ∀ n, n ≤ nKinds mem → ∀ k, kdHf mem x n = some k → k < nKinds mem
  | 0, _, k, h => by cases h
  | n + 1, hn, k, h => by
    unfold kdHf at h
    by_cases c : x = strL (kindS mem (nKinds mem - (n + 1)))
    · rw [if_pos c] at h; cases h; omega
    · rw [if_neg c] at h; exact kdHf_lt mem x n (by omega) k h
theorem kdH_lt {mem : Bool} {x : List Nat} {k : Nat} (h : kdH mem x = some k) : k < nKinds mem := kdHf_lt mem x _ (Nat.le_refl _) k h
theorem rmk_le {mem : Bool} {txt : List Nat} {en : Nat} (hen : en ≤ txt.length) : ∀ (n mq ws we : Nat), mq < 64 → ws ≤ we → we ≤ en → (rmk mem txt en n mq ws we).2.1 < 64 ∧ (rmk mem txt en n mq ws we).2.2.1 ≤ (rmk mem txt en n mq ws we).2.2.2 ∧ (rmk mem txt en n mq ws we).2.2.2 ≤ en ∧ ws ≤ (rmk mem txt en n mq ws we).2.2.1
  | 0, mq, ws, we, h1, h2, h3 => ⟨h1, h2, h3, Nat.le_refl _⟩
  | n + 1, mq, ws, we, h1, h2, h3 => by
    unfold rmk
    have hl := len_take hen
    have a1 := wdS_le (L := txt.take en) (i := we) (by omega)
    have a2 := wdE_le (L := txt.take en) (i := wdS (txt.take en) we) (by omega)
    by_cases c1 : mkH mem (wdO txt ws we) = 0
    · rw [if_pos c1]; exact ⟨h1, h2, h3, Nat.le_refl _⟩
    · rw [if_neg c1]
      by_cases c2 : mq &&& mkH mem (wdO txt ws we) ≠ 0
      · rw [if_pos c2]; exact ⟨h1, h2, h3, Nat.le_refl _⟩
      · rw [if_neg c2]
        have := rmk_le (mem := mem) hen n (mq ||| mkH mem (wdO txt ws we)) (wdS (txt.take en) we) (wdE (txt.take en) (wdS (txt.take en) we)) (nI_and mq h1 _ (mkH_lt mem _)).2.2.2 a2.1 (by omega)
        exact ⟨this.1, this.2.1, this.2.2.1, by omega⟩
/-- the DRAFT: a declaration whose kind may be no kind -/
def Dr (E : hE) (H : Heap) (ad : DA) (kI : Int32) (mk : Nat) (xs ys : List Nat) (o1 o2 : Bool) : Prop := hOb (eD E) classes H ad.1 1 [.ref ad.2.1, .ref ad.2.2.2.1, .int kI, .int (nI mk)] ∧ Rw E H ad.2.1 ad.2.2.1 20 xs o1 ∧ Rw E H ad.2.2.2.1 ad.2.2.2.2 20 ys o2 ∧ eB E ≤ ad.1 ∧ mk < 64
theorem Dr.ch {E : hE} {H H1 : Heap} {ad : DA} {kI : Int32} {mk : Nat} {xs ys : List Nat} {o1 o2 : Bool} {S : Nat → Prop} (h : Dr E H ad kI mk xs ys o1 o2) (k : hCh S H H1) (hs : ∀ q, dcS ad q → ¬ S q) : Dr E H1 ad kI mk xs ys o1 o2 := by
  obtain ⟨h0, h1, h2, r⟩ := h
  exact ⟨h0.ch k (hs _ (Or.inl rfl)), h1.ch k (hs _ (Or.inr (Or.inl (Or.inl rfl)))) (hs _ (Or.inr (Or.inl (Or.inr rfl)))), h2.ch k (hs _ (Or.inr (Or.inr (Or.inl rfl)))) (hs _ (Or.inr (Or.inr (Or.inr rfl)))), r⟩
theorem Dr.dc {E : hE} {H : Heap} {ad : DA} {k mk : Nat} {xs ys : List Nat} {o1 o2 : Bool} (h : Dr E H ad (nI k) mk xs ys o1 o2) (hk : k < 10) (hn : (fpD ad).Nodup) : Dc E H ad none (xs, ys, k, mk) o1 o2 := by
  obtain ⟨h0, h1, h2, h3, h4⟩ := h
  simp only [fpD, List.nodup_cons, List.mem_cons, List.not_mem_nil, or_false, not_or, not_false_eq_true, List.nodup_nil, and_true] at hn
  exact ⟨h0, h1, h2, h3, ⟨by omega, by omega, by omega, by omega, by omega, by omega, by omega, by omega⟩, hk, h4⟩
/-- the draft's cells are not the line's -/
theorem dnl {rd ln tr tarr : Nat} {dr : DA} (h : (rd :: ln :: tr :: tarr :: fpD dr).Nodup) : ∀ q, dcS dr q → ¬ q = ln := fun q hq e => by
  have h1 := fpD_dc.mpr hq
  rw [e] at h1
  rw [List.nodup_cons, List.nodup_cons] at h
  exact h.2.1 (List.mem_cons_of_mem _ (List.mem_cons_of_mem _ h1))
/-- the READER's object -/
def RdO (E : hE) (H : Heap) (rd ln bl dg dr num : Nat) (past brk : Bool) (ow : Option Nat) : Prop := hOb (eD E) classes H rd 8 [.ref ln, .ref bl, .ref dg, .ref dr, .int (nI num), .int (bI past), .int (bI brk), va_rf ow] ∧ eB E ≤ rd
theorem RdO.ch {E : hE} {H H1 : Heap} {rd ln bl dg dr num : Nat} {past brk : Bool} {ow : Option Nat} {S : Nat → Prop} (h : RdO E H rd ln bl dg dr num past brk ow) (k : hCh S H H1) (hs : ¬ S rd) : RdO E H1 rd ln bl dg dr num past brk ow := ⟨h.1.ch k hs, h.2⟩
set_option maxHeartbeats 4000000 in
set_option maxRecDepth 100000 in
theorem c_Rd_markHere (l : Launch) {E : hE} (hE : EnvOk E) (hS : EnvS E) {H : Heap} {rd ln bl dg num tr tarr st en ws we : Nat} {dr : DA} {past brk : Bool} {ow : Option Nat} {txt : List Nat} {ot : Bool} (hR : RdO E H rd ln bl dg dr.1 num past brk ow) (hln : Ln E H ln tr st en ws we) (hr : Rw E H tr tarr 480 txt ot) (hN : (rd :: ln :: tr :: tarr :: fpD dr).Nodup) (h1 : ws ≤ we) (h2 : we ≤ en) (h3 : en ≤ txt.length) (hO : Old E H) (mem : Bool) : Ct l E y_Rd_markHere b_Rd_markHere 3 (some .int) (rmA 5 0 0) [.ref rd, .int (bI mem)] H (hQi (fun r H1 => r = nI (mkH mem (wdO txt ws we)) ∧ H1 = H)) := by
  refine hx_enter hE (by decide) (Nat.le_of_ble_eq_true rfl) ?_
  intro p e s m args below meth c ls cx hnm hl
  have hl : lv_has ls 3 [(0, .ref rd), (1, .int (bI mem))] := hl
  have hlo : hLo (eB E) [] := hLo.nil
  generalize hQ : MQ below _ args s _ _ _ = Q
  have hN0 := hN
  clear hN
  have hnm9 : nMarks mem ≤ 5 := by cases mem <;> decide
  have LP : ∀ (k : Nat) (locs : List Loc) (i : Nat), hLo (eB E) locs → (nMarks mem - i < k) → (i ≤ nMarks mem) → (mkHf mem (wdO txt ws we) (nMarks mem - i) = mkH mem (wdO txt ws we)) → ∀ ls, lv_has ls 3 [(2, .int (nI i)), (0, .ref rd), (1, .int (bI mem))] → W p l e (rmA 5 0 0) s m args below meth c H locs 0 0 Q (F0 m 2 ls []) := by
    intro k
    induction k with
    | zero => intro locs i hlo hk hi hj; exact absurd hk (by omega)
    | succ k ih =>
      intro locs i hlo hk hi hj ls hl
      refine lv_iload_n cx.x cx.b d_Rd_markHere_2 rfl (lv_at hl 0 rfl) ?_
      refine lv_iload_n cx.x cx.b d_Rd_markHere_3 rfl (lv_at hl 2 rfl) ?_
      refine hx_calli (iv_Rd_146 cx (c_Vo_marks l hE mem) rfl hl.1 rfl (Nat.le_of_ble_eq_true rfl) d_Rd_markHere_4 ⟨Nat.le_of_ble_eq_true rfl, Nat.le_of_ble_eq_true rfl⟩ ⟨Nat.le_of_ble_eq_true rfl, Nat.le_of_ble_eq_true rfl⟩) hlo (fun _ h => h) (fun r118 H117 locs hp116 hlo => ?_)
      obtain ⟨hp116, hH9⟩ := hp116
      have hH9 := hH9.symm
      subst hH9
      subst hp116
      refine lv_icmp_ge (tgt := 35) cx.x cx.b d_Rd_markHere_7 (by decide) (fun c1 => ?_) (fun c1 => ?_)
      · have c1 : (nMarks mem) ≤ i := (nI_leI (a := (nMarks mem)) (b := i) (by omega) (by omega)).mp c1
        rw [show nMarks mem - i = 0 by omega] at hj
        refine lv_iconst (v := 0) cx.x cx.b d_Rd_markHere_35 (by decide) ?_
        rw [← hQ]
        exact hx_reti cx.x cx.b cx.r cx.k rfl hlo (fun _ h => h) (Nat.le_of_ble_eq_true rfl) (Nat.le_of_ble_eq_true rfl) d_Rd_markHere_36 (⟨by rw [← hj]; rfl, rfl⟩)
      · have c1 : i < (nMarks mem) := Nat.not_le.mp (fun zz => c1 ((nI_leI (a := (nMarks mem)) (b := i) (by omega) (by omega)).mpr zz))
        obtain ⟨n9, hn9⟩ : ∃ n9, nMarks mem - i = n9 + 1 := ⟨nMarks mem - i - 1, by omega⟩
        rw [hn9] at hj
        unfold mkHf at hj
        rw [show nMarks mem - (n9 + 1) = i by omega] at hj
        have hmi : markS mem i < 17 := markS_lt mem _
        refine lv_aload_n cx.x cx.b d_Rd_markHere_10 rfl (lv_at hl 1 rfl) ?_
        refine gf_Rd_23_Rd cx hR.1 rfl d_Rd_markHere_11 ?_
        refine lv_iload_n cx.x cx.b d_Rd_markHere_14 rfl (lv_at hl 2 rfl) ?_
        refine lv_iload_n cx.x cx.b d_Rd_markHere_15 rfl (lv_at hl 0 rfl) ?_
        refine hx_callr (iv_Rd_153 cx (c_Vo_mark l hE mem c1) rfl hl.1 rfl (Nat.le_of_ble_eq_true rfl) d_Rd_markHere_16 ⟨Nat.le_of_ble_eq_true rfl, Nat.le_of_ble_eq_true rfl⟩ ⟨Nat.le_of_ble_eq_true rfl, Nat.le_of_ble_eq_true rfl⟩) hlo (fun _ h => h) (fun r121 H120 locs hp119 hlo => ?_)
        obtain ⟨hp119, hH9⟩ := hp119
        have hH9 := hH9.symm
        subst hH9
        subst hp119
        refine hx_calli (iv_Rd_85_Ln cx (c_Ln_isAt l hE hS hln hr (ndn hN0 2 1 rfl rfl (by decide)) (ndn hN0 3 1 rfl rfl (by decide)) hO hmi h1 (by omega)) hln.1 rfl hl.1 rfl (Nat.le_of_ble_eq_true rfl) d_Rd_markHere_19 ⟨Nat.le_of_ble_eq_true rfl, Nat.le_of_ble_eq_true rfl⟩ ⟨Nat.le_of_ble_eq_true rfl, Nat.le_of_ble_eq_true rfl⟩) hlo (fun _ h => h) (fun r124 H123 locs hp122 hlo => ?_)
        obtain ⟨hp122, hH9⟩ := hp122
        have hH9 := hH9.symm
        subst hH9
        subst hp122
        by_cases hw : wdO txt ws we = strL (markS mem i)
        · rw [show decide (wdO txt ws we = strL (markS mem i)) = true from decide_eq_true hw]
          rw [if_pos hw] at hj
          refine lv_if_eq (tgt := 29) cx.x cx.b d_Rd_markHere_22 (by decide) (fun c => absurd c (by decide)) (fun _ => ?_)
          refine lv_iconst (v := 1) cx.x cx.b d_Rd_markHere_25 (by decide) ?_
          refine lv_iload_n cx.x cx.b d_Rd_markHere_26 rfl (lv_at hl 0 rfl) ?_
          refine lv_ishl cx.x cx.b d_Rd_markHere_27 ?_
          refine lv_topi (fun x125 e_x125 => ?_)
          have hsh := pk_shlN (n := 1) (nI i &&& 31) i (s_l i (by omega)) (by have : 2 ^ i ≤ 2 ^ 5 := Nat.pow_le_pow_right (by omega) (by omega); omega)
          rw [← hQ]
          exact hx_reti cx.x cx.b cx.r cx.k rfl hlo (fun _ h => h) (Nat.le_of_ble_eq_true rfl) (Nat.le_of_ble_eq_true rfl) d_Rd_markHere_28 (⟨by rw [← hj, e_x125]; rw [Nat.one_mul] at hsh; exact hsh, rfl⟩)
        · rw [show decide (wdO txt ws we = strL (markS mem i)) = false from decide_eq_false hw]
          rw [if_neg hw] at hj
          refine lv_if_eq (tgt := 29) cx.x cx.b d_Rd_markHere_22 (by decide) (fun _ => ?_) (fun c => absurd (by decide) c)
          obtain ⟨x126, e_x126⟩ : ∃ y : Int32, y = nI i + 1 := ⟨_, rfl⟩
          refine lv_iinc (v := x126) (lv' := [(2, .int x126), (0, .ref rd), (1, .int (bI mem))]) cx.x cx.b d_Rd_markHere_29 hl (k := 0) rfl (by rw [e_x126]; rfl) (by decide) rfl (fun ls hl => ?_)
          refine lv_goto (tgt := 2) cx.x cx.b d_Rd_markHere_32 (by decide) ?_
          rw [nI_1] at e_x126
          subst e_x126
          exact ih _ (i + 1) hlo (by omega) (by omega) (by rw [show nMarks mem - (i + 1) = n9 by omega]; exact hj) _ hl
  refine lv_iconst (v := 0) cx.x cx.b d_Rd_markHere_0 (by decide) ?_
  refine lv_istore_n (lv' := [(2, .int 0), (0, .ref rd), (1, .int (bI mem))]) cx.x cx.b d_Rd_markHere_1 rfl hl (by decide) rfl (fun ls hl => ?_)
  exact LP (nMarks mem + 1) _ 0 hlo (by omega) (Nat.zero_le _) rfl _ hl

set_option maxHeartbeats 4000000 in
set_option maxRecDepth 100000 in
theorem c_Rd_kindHere (l : Launch) {E : hE} (hE : EnvOk E) (hS : EnvS E) {H : Heap} {rd ln bl dg num tr tarr st en ws we : Nat} {dr : DA} {past brk : Bool} {ow : Option Nat} {txt : List Nat} {ot : Bool} (hR : RdO E H rd ln bl dg dr.1 num past brk ow) (hln : Ln E H ln tr st en ws we) (hr : Rw E H tr tarr 480 txt ot) (hN : (rd :: ln :: tr :: tarr :: fpD dr).Nodup) (h1 : ws ≤ we) (h2 : we ≤ en) (h3 : en ≤ txt.length) (hO : Old E H) (mem : Bool) : Ct l E y_Rd_kindHere b_Rd_kindHere 3 (some .int) (rmA 5 0 0) [.ref rd, .int (bI mem)] H (hQi (fun r H1 => r = oI (kdH mem (wdO txt ws we)) ∧ H1 = H)) := by
  refine hx_enter hE (by decide) (Nat.le_of_ble_eq_true rfl) ?_
  intro p e s m args below meth c ls cx hnm hl
  have hl : lv_has ls 3 [(0, .ref rd), (1, .int (bI mem))] := hl
  have hlo : hLo (eB E) [] := hLo.nil
  generalize hQ : MQ below _ args s _ _ _ = Q
  have hN0 := hN
  clear hN
  have hnm9 : nKinds mem ≤ 5 := by cases mem <;> decide
  have LP : ∀ (k : Nat) (locs : List Loc) (i : Nat), hLo (eB E) locs → (nKinds mem - i < k) → (i ≤ nKinds mem) → (kdHf mem (wdO txt ws we) (nKinds mem - i) = kdH mem (wdO txt ws we)) → ∀ ls, lv_has ls 3 [(2, .int (nI i)), (0, .ref rd), (1, .int (bI mem))] → W p l e (rmA 5 0 0) s m args below meth c H locs 0 0 Q (F0 m 2 ls []) := by
    intro k
    induction k with
    | zero => intro locs i hlo hk hi hj; exact absurd hk (by omega)
    | succ k ih =>
      intro locs i hlo hk hi hj ls hl
      refine lv_iload_n cx.x cx.b d_Rd_kindHere_2 rfl (lv_at hl 0 rfl) ?_
      refine lv_iload_n cx.x cx.b d_Rd_kindHere_3 rfl (lv_at hl 2 rfl) ?_
      refine hx_calli (iv_Rd_157 cx (c_Vo_kinds l hE mem) rfl hl.1 rfl (Nat.le_of_ble_eq_true rfl) d_Rd_kindHere_4 ⟨Nat.le_of_ble_eq_true rfl, Nat.le_of_ble_eq_true rfl⟩ ⟨Nat.le_of_ble_eq_true rfl, Nat.le_of_ble_eq_true rfl⟩) hlo (fun _ h => h) (fun r129 H128 locs hp127 hlo => ?_)
      obtain ⟨hp127, hH9⟩ := hp127
      have hH9 := hH9.symm
      subst hH9
      subst hp127
      refine lv_icmp_ge (tgt := 33) cx.x cx.b d_Rd_kindHere_7 (by decide) (fun c1 => ?_) (fun c1 => ?_)
      · have c1 : (nKinds mem) ≤ i := (nI_leI (a := (nKinds mem)) (b := i) (by omega) (by omega)).mp c1
        rw [show nKinds mem - i = 0 by omega] at hj
        refine lv_iconst (v := (-1)) cx.x cx.b d_Rd_kindHere_33 (by decide) ?_
        rw [← hQ]
        exact hx_reti cx.x cx.b cx.r cx.k rfl hlo (fun _ h => h) (Nat.le_of_ble_eq_true rfl) (Nat.le_of_ble_eq_true rfl) d_Rd_kindHere_34 (⟨by rw [← hj]; rfl, rfl⟩)
      · have c1 : i < (nKinds mem) := Nat.not_le.mp (fun zz => c1 ((nI_leI (a := (nKinds mem)) (b := i) (by omega) (by omega)).mpr zz))
        obtain ⟨n9, hn9⟩ : ∃ n9, nKinds mem - i = n9 + 1 := ⟨nKinds mem - i - 1, by omega⟩
        rw [hn9] at hj
        unfold kdHf at hj
        rw [show nKinds mem - (n9 + 1) = i by omega] at hj
        have hmi : kindS mem i < 17 := kindS_lt mem _
        refine lv_aload_n cx.x cx.b d_Rd_kindHere_10 rfl (lv_at hl 1 rfl) ?_
        refine gf_Rd_23_Rd cx hR.1 rfl d_Rd_kindHere_11 ?_
        refine lv_iload_n cx.x cx.b d_Rd_kindHere_14 rfl (lv_at hl 2 rfl) ?_
        refine lv_iload_n cx.x cx.b d_Rd_kindHere_15 rfl (lv_at hl 0 rfl) ?_
        refine hx_callr (iv_Rd_160 cx (c_Vo_kind l hE mem c1) rfl hl.1 rfl (Nat.le_of_ble_eq_true rfl) d_Rd_kindHere_16 ⟨Nat.le_of_ble_eq_true rfl, Nat.le_of_ble_eq_true rfl⟩ ⟨Nat.le_of_ble_eq_true rfl, Nat.le_of_ble_eq_true rfl⟩) hlo (fun _ h => h) (fun r132 H131 locs hp130 hlo => ?_)
        obtain ⟨hp130, hH9⟩ := hp130
        have hH9 := hH9.symm
        subst hH9
        subst hp130
        refine hx_calli (iv_Rd_85_Ln cx (c_Ln_isAt l hE hS hln hr (ndn hN0 2 1 rfl rfl (by decide)) (ndn hN0 3 1 rfl rfl (by decide)) hO hmi h1 (by omega)) hln.1 rfl hl.1 rfl (Nat.le_of_ble_eq_true rfl) d_Rd_kindHere_19 ⟨Nat.le_of_ble_eq_true rfl, Nat.le_of_ble_eq_true rfl⟩ ⟨Nat.le_of_ble_eq_true rfl, Nat.le_of_ble_eq_true rfl⟩) hlo (fun _ h => h) (fun r135 H134 locs hp133 hlo => ?_)
        obtain ⟨hp133, hH9⟩ := hp133
        have hH9 := hH9.symm
        subst hH9
        subst hp133
        by_cases hw : wdO txt ws we = strL (kindS mem i)
        · rw [show decide (wdO txt ws we = strL (kindS mem i)) = true from decide_eq_true hw]
          rw [if_pos hw] at hj
          refine lv_if_eq (tgt := 27) cx.x cx.b d_Rd_kindHere_22 (by decide) (fun c => absurd c (by decide)) (fun _ => ?_)
          refine lv_iload_n cx.x cx.b d_Rd_kindHere_25 rfl (lv_at hl 0 rfl) ?_
          rw [← hQ]
          exact hx_reti cx.x cx.b cx.r cx.k rfl hlo (fun _ h => h) (Nat.le_of_ble_eq_true rfl) (Nat.le_of_ble_eq_true rfl) d_Rd_kindHere_26 (⟨by rw [← hj]; rfl, rfl⟩)
        · rw [show decide (wdO txt ws we = strL (kindS mem i)) = false from decide_eq_false hw]
          rw [if_neg hw] at hj
          refine lv_if_eq (tgt := 27) cx.x cx.b d_Rd_kindHere_22 (by decide) (fun _ => ?_) (fun c => absurd (by decide) c)
          obtain ⟨x136, e_x136⟩ : ∃ y : Int32, y = nI i + 1 := ⟨_, rfl⟩
          refine lv_iinc (v := x136) (lv' := [(2, .int x136), (0, .ref rd), (1, .int (bI mem))]) cx.x cx.b d_Rd_kindHere_27 hl (k := 0) rfl (by rw [e_x136]; rfl) (by decide) rfl (fun ls hl => ?_)
          refine lv_goto (tgt := 2) cx.x cx.b d_Rd_kindHere_30 (by decide) ?_
          rw [nI_1] at e_x136
          subst e_x136
          exact ih _ (i + 1) hlo (by omega) (by omega) (by rw [show nKinds mem - (i + 1) = n9 by omega]; exact hj) _ hl
  refine lv_iconst (v := 0) cx.x cx.b d_Rd_kindHere_0 (by decide) ?_
  refine lv_istore_n (lv' := [(2, .int 0), (0, .ref rd), (1, .int (bI mem))]) cx.x cx.b d_Rd_kindHere_1 rfl hl (by decide) rfl (fun ls hl => ?_)
  exact LP (nKinds mem + 1) _ 0 hlo (by omega) (Nat.zero_le _) rfl _ hl

set_option maxHeartbeats 4000000 in
set_option maxRecDepth 100000 in
theorem c_Rd_readMarks (l : Launch) {E : hE} (hE : EnvOk E) (hS : EnvS E) {H : Heap} {rd ln bl dg num tr tarr st en ws we : Nat} {dr : DA} {past brk : Bool} {ow : Option Nat} {txt : List Nat} {ot : Bool} (hR : RdO E H rd ln bl dg dr.1 num past brk ow) (hln : Ln E H ln tr st en ws we) (hr : Rw E H tr tarr 480 txt ot) (hN : (rd :: ln :: tr :: tarr :: fpD dr).Nodup) (h1 : ws ≤ we) (h2 : we ≤ en) (h3 : en ≤ txt.length) {kI : Int32} {mk0 : Nat} {nx dx : List Nat} {o1 o2 : Bool} (hd : Dr E H dr kI mk0 nx dx o1 o2) (hO : Old E H) (mem : Bool) : Ct l E y_Rd_readMarks b_Rd_readMarks 4 (some .boolean) (rmA 6 0 0) [.ref rd, .int (bI mem)] H (hQi (fun r H1 => r = bI (rmk mem txt en (nMarks mem + 1) 0 ws we).1 ∧ Dr E H1 dr kI (rmk mem txt en (nMarks mem + 1) 0 ws we).2.1 nx dx o1 o2 ∧ Ln E H1 ln tr st en (rmk mem txt en (nMarks mem + 1) 0 ws we).2.2.1 (rmk mem txt en (nMarks mem + 1) 0 ws we).2.2.2 ∧ hCh (fun q => q = ln ∨ q = dr.1) H H1 ∧ H1.size = H.size)) := by
  refine hx_enter hE (by decide) (Nat.le_of_ble_eq_true rfl) ?_
  intro p e s m args below meth c ls cx hnm hl
  have hl : lv_has ls 4 [(0, .ref rd), (1, .int (bI mem))] := hl
  have hlo : hLo (eB E) [] := hLo.nil
  generalize hQ : MQ below _ args s _ _ _ = Q
  have hN0 := hN
  clear hN
  have hBd := hd.2.2.2.1
  have hlen := len_take h3
  obtain ⟨G, hG⟩ : ∃ G, (rmk mem txt en (nMarks mem + 1) 0 ws we) = G := ⟨_, rfl⟩
  rw [hG] at hQ
  have hloS : ∀ q, (fun q => q = ln ∨ q = dr.1) q → eB E ≤ q := fun q hq => by rcases hq with e | e; rw [e]; exact hln.2; rw [e]; exact hBd
  have hnm9 : nMarks mem ≤ 5 := by cases mem <;> decide
  have LP : ∀ (k : Nat) (locs : List Loc) (i mk ws1 we1 : Nat) (H2 : Heap), hLo (eB E) locs → (nMarks mem + 1 - i < k) → (i ≤ nMarks mem + 1) → (Dr E H2 dr kI mk nx dx o1 o2) → (Ln E H2 ln tr st en ws1 we1) → (ws1 ≤ we1 ∧ we1 ≤ en) → (hCh (fun q => q = ln ∨ q = dr.1) H H2) → (H2.size = H.size) → (rmk mem txt en (nMarks mem + 1 - i) mk ws1 we1 = G) → ∀ ls, lv_has ls 4 [(2, .int (nI i)), (0, .ref rd), (1, .int (bI mem))] → W p l e (rmA 6 0 0) s m args below meth c H2 locs 0 0 Q (F0 m 10 ls []) := by
    intro k
    induction k with
    | zero => intro locs i mk ws1 we1 H2 hlo hk hi hd2 hl2 hw1 hch hsz hj; exact absurd hk (by omega)
    | succ k ih =>
      intro locs i mk ws1 we1 H2 hlo hk hi hd2 hl2 hw1 hch hsz hj ls hl
      have hR2 := hR.ch hch (fun q => by rcases q with e | e; exact (ndn hN0 0 1 rfl rfl (by decide)) e; exact (ndn hN0 0 4 rfl rfl (by decide)) e)
      have hr2 := hr.ch hch (fun q => by rcases q with e | e; exact (ndn hN0 2 1 rfl rfl (by decide)) e; exact (ndn hN0 2 4 rfl rfl (by decide)) e) (fun q => by rcases q with e | e; exact (ndn hN0 3 1 rfl rfl (by decide)) e; exact (ndn hN0 3 4 rfl rfl (by decide)) e)
      have hO2 := hO.ch hch hloS
      refine lv_iload_n cx.x cx.b d_Rd_readMarks_10 rfl (lv_at hl 0 rfl) ?_
      refine lv_iload_n cx.x cx.b d_Rd_readMarks_11 rfl (lv_at hl 2 rfl) ?_
      refine hx_calli (iv_Rd_146 cx (c_Vo_marks l hE mem) rfl hl.1 rfl (Nat.le_of_ble_eq_true rfl) d_Rd_readMarks_12 ⟨Nat.le_of_ble_eq_true rfl, Nat.le_of_ble_eq_true rfl⟩ ⟨Nat.le_of_ble_eq_true rfl, Nat.le_of_ble_eq_true rfl⟩) hlo (fun _ h => h) (fun r139 H138 locs hp137 hlo => ?_)
      obtain ⟨hp137, hH9⟩ := hp137
      have hH9 := hH9.symm
      subst hH9
      subst hp137
      refine lv_icmp_gt (tgt := 70) cx.x cx.b d_Rd_readMarks_15 (by decide) (fun c1 => ?_) (fun c1 => ?_)
      · have c1 : (nMarks mem) < i := (nI_ltI (a := (nMarks mem)) (b := i) (by omega) (by omega)).mp c1
        rw [show nMarks mem + 1 - i = 0 by omega] at hj
        have hj : (true, mk, ws1, we1) = G := hj
        rw [← hj] at hQ
        refine lv_iconst (v := 1) cx.x cx.b d_Rd_readMarks_70 (by decide) ?_
        rw [← hQ]
        exact hx_reti cx.x cx.b cx.r cx.k rfl hlo (fun _ h => h) (Nat.le_of_ble_eq_true rfl) (Nat.le_of_ble_eq_true rfl) d_Rd_readMarks_71 (⟨rfl, hd2, hl2, hch, hsz⟩)
      · have c1 : i ≤ (nMarks mem) := Nat.not_lt.mp (fun zz => c1 ((nI_ltI (a := (nMarks mem)) (b := i) (by omega) (by omega)).mpr zz))
        obtain ⟨n9, hn9⟩ : ∃ n9, nMarks mem + 1 - i = n9 + 1 := ⟨nMarks mem - i, by omega⟩
        rw [hn9] at hj
        have hb64 := mkH_lt mem (wdO txt ws1 we1)
        have hj : (if mkH mem (wdO txt ws1 we1) = 0 then (true, mk, ws1, we1) else if mk &&& mkH mem (wdO txt ws1 we1) ≠ 0 then (false, mk, ws1, we1) else rmk mem txt en n9 (mk ||| mkH mem (wdO txt ws1 we1)) (wdS (txt.take en) we1) (wdE (txt.take en) (wdS (txt.take en) we1))) = G := hj
        refine lv_aload_n cx.x cx.b d_Rd_readMarks_18 rfl (lv_at hl 1 rfl) ?_
        refine lv_iload_n cx.x cx.b d_Rd_readMarks_19 rfl (lv_at hl 2 rfl) ?_
        refine hx_calli (iv_Rd_150_Rd cx (c_Rd_markHere l hE hS hR2 hl2 hr2 hN0 hw1.1 hw1.2 h3 hO2 mem) hR2.1 rfl hl.1 rfl (Nat.le_of_ble_eq_true rfl) d_Rd_readMarks_20 ⟨Nat.le_of_ble_eq_true rfl, Nat.le_of_ble_eq_true rfl⟩ ⟨Nat.le_of_ble_eq_true rfl, Nat.le_of_ble_eq_true rfl⟩) hlo (fun _ h => h) (fun r142 H141 locs hp140 hlo => ?_)
        obtain ⟨hp140, hH9⟩ := hp140
        have hH9 := hH9.symm
        subst hH9
        generalize hb9 : mkH mem (wdO txt ws1 we1) = b9 at hb64 hj hp140
        subst hp140
        refine lv_istore_n (lv' := [(3, .int (nI b9)), (2, .int (nI i)), (0, .ref rd), (1, .int (bI mem))]) cx.x cx.b d_Rd_readMarks_23 rfl hl (by decide) rfl (fun ls hl => ?_)
        refine lv_iload_n cx.x cx.b d_Rd_readMarks_24 rfl (lv_at hl 0 rfl) ?_
        refine lv_if_ne (tgt := 30) cx.x cx.b d_Rd_readMarks_25 (by decide) (fun c2 => ?_) (fun c2 => ?_)
        · have c2 : b9 ≠ 0 := fun zz => c2 ((nI_eq (a := b9) (b := 0) (by omega) (by omega)).mpr zz)
          rw [if_neg c2] at hj
          have hab := nI_and mk hd2.2.2.2.2 b9 hb64
          refine lv_aload_n cx.x cx.b d_Rd_readMarks_30 rfl (lv_at hl 2 rfl) ?_
          refine gf_Rd_12_Rd cx hR2.1 rfl d_Rd_readMarks_31 ?_
          refine gf_Rd_143_Dc cx hd2.1 rfl d_Rd_readMarks_34 ?_
          refine lv_iload_n cx.x cx.b d_Rd_readMarks_37 rfl (lv_at hl 0 rfl) ?_
          refine lv_iand cx.x cx.b d_Rd_readMarks_38 ?_
          refine lv_topi (fun x143 e_x143 => ?_)
          have e_x143 : x143 = nI (mk &&& b9) := e_x143.trans (hab.1)
          subst e_x143
          generalize hn8 : mk &&& b9 = n8 at hj hab
          have hn7 := hab.2.2.1
          refine lv_if_eq (tgt := 44) cx.x cx.b d_Rd_readMarks_39 (by decide) (fun c3 => ?_) (fun c3 => ?_)
          · have c3 : n8 = 0 := (nI_eq (a := n8) (b := 0) (by omega) (by omega)).mp c3
            rw [if_neg (fun z => z c3)] at hj
            refine lv_aload_n cx.x cx.b d_Rd_readMarks_44 rfl (lv_at hl 2 rfl) ?_
            refine gf_Rd_12_Rd cx hR2.1 rfl d_Rd_readMarks_45 ?_
            refine lv_dup cx.x cx.b d_Rd_readMarks_48 rfl ?_
            refine gf_Rd_143_Dc cx hd2.1 rfl d_Rd_readMarks_49 ?_
            refine lv_iload_n cx.x cx.b d_Rd_readMarks_52 rfl (lv_at hl 0 rfl) ?_
            refine lv_ior cx.x cx.b d_Rd_readMarks_53 ?_
            refine lv_topi (fun x144 e_x144 => ?_)
            have e_x144 : x144 = nI (mk ||| b9) := e_x144.trans (hab.2.1)
            subst e_x144
            refine pf_Rd_143_Dc cx hd2.1 hlo hBd (Nat.le_of_ble_eq_true rfl) d_Rd_readMarks_54 (fun H145 locs ho146 z_H145 o_H145 hlo => ?_)
            have ho146 : hOb (eD E) classes H145 dr.1 1 [.ref dr.2.1, .ref dr.2.2.2.1, .int kI, .int (nI (mk ||| b9))] := ho146
            have kd : hCh (fun q => q = dr.1) H2 H145 := hCh.put z_H145 o_H145 rfl
            have hd3 : Dr E H145 dr kI (mk ||| b9) nx dx o1 o2 := ⟨ho146, hd2.2.1.ch kd (ndn hN0 5 4 rfl rfl (by decide)) (ndn hN0 6 4 rfl rfl (by decide)), hd2.2.2.1.ch kd (ndn hN0 7 4 rfl rfl (by decide)) (ndn hN0 8 4 rfl rfl (by decide)), hBd, hab.2.2.2⟩
            have hl3 := hl2.ch kd (ndn hN0 1 4 rfl rfl (by decide))
            have hr3 := hr2.ch kd (ndn hN0 2 4 rfl rfl (by decide)) (ndn hN0 3 4 rfl rfl (by decide))
            have hR3 := hR2.ch kd (ndn hN0 0 4 rfl rfl (by decide))
            refine lv_aload_n cx.x cx.b d_Rd_readMarks_57 rfl (lv_at hl 2 rfl) ?_
            refine gf_Rd_23_Rd cx hR3.1 rfl d_Rd_readMarks_58 ?_
            refine hx_callv (iv_Rd_89_Ln cx (c_Ln_toNextWord l hE hl3 hr3 (ndn hN0 2 1 rfl rfl (by decide)) (ndn hN0 3 1 rfl rfl (by decide)) hw1.2 h3) hl3.1 rfl hl.1 rfl (Nat.le_of_ble_eq_true rfl) d_Rd_readMarks_61 ⟨Nat.le_of_ble_eq_true rfl, Nat.le_of_ble_eq_true rfl⟩ ⟨Nat.le_of_ble_eq_true rfl, Nat.le_of_ble_eq_true rfl⟩) hlo (fun _ h => h) (fun H148 locs hp147 hlo => ?_)
            obtain ⟨q1, q2, q3⟩ := hp147
            have a1 := wdS_le (L := txt.take en) (i := we1) (by omega)
            have a2 := wdE_le (L := txt.take en) (i := wdS (txt.take en) we1) (by omega)
            obtain ⟨x149, e_x149⟩ : ∃ y : Int32, y = nI i + 1 := ⟨_, rfl⟩
            refine lv_iinc (v := x149) (lv' := [(2, .int x149), (3, .int (nI b9)), (0, .ref rd), (1, .int (bI mem))]) cx.x cx.b d_Rd_readMarks_64 hl (k := 1) rfl (by rw [e_x149]; rfl) (by decide) rfl (fun ls hl => ?_)
            refine lv_goto (tgt := 10) cx.x cx.b d_Rd_readMarks_67 (by decide) ?_
            rw [nI_1] at e_x149
            subst e_x149
            exact ih _ (i + 1) _ _ _ _ hlo (by omega) (by omega) (hd3.ch q2 (dnl hN0)) q1 ⟨a2.1, by omega⟩ ((hch.tr (kd.mono (fun q _ e => Or.inr e))).tr (q2.mono (fun q _ e => Or.inl e))) (by omega) (by rw [show nMarks mem + 1 - (i + 1) = n9 by omega]; exact hj) _ (lv_sub hl [0, 2, 3] rfl)
          · have c3 : n8 ≠ 0 := fun zz => c3 ((nI_eq (a := n8) (b := 0) (by omega) (by omega)).mpr zz)
            rw [if_pos c3] at hj
            rw [← hj] at hQ
            refine lv_iconst (v := 0) cx.x cx.b d_Rd_readMarks_42 (by decide) ?_
            rw [← hQ]
            exact hx_reti cx.x cx.b cx.r cx.k rfl hlo (fun _ h => h) (Nat.le_of_ble_eq_true rfl) (Nat.le_of_ble_eq_true rfl) d_Rd_readMarks_43 (⟨rfl, hd2, hl2, hch, hsz⟩)
        · have c2 : b9 = 0 := (nI_eq (a := b9) (b := 0) (by omega) (by omega)).mp c2
          rw [if_pos c2] at hj
          rw [← hj] at hQ
          refine lv_iconst (v := 1) cx.x cx.b d_Rd_readMarks_28 (by decide) ?_
          rw [← hQ]
          exact hx_reti cx.x cx.b cx.r cx.k rfl hlo (fun _ h => h) (Nat.le_of_ble_eq_true rfl) (Nat.le_of_ble_eq_true rfl) d_Rd_readMarks_29 (⟨rfl, hd2, hl2, hch, hsz⟩)
  refine lv_aload_n cx.x cx.b d_Rd_readMarks_0 rfl (lv_at hl 0 rfl) ?_
  refine gf_Rd_12_Rd cx hR.1 rfl d_Rd_readMarks_1 ?_
  refine lv_iconst (v := 0) cx.x cx.b d_Rd_readMarks_4 (by decide) ?_
  refine pf_Rd_143_Dc cx hd.1 hlo hBd (Nat.le_of_ble_eq_true rfl) d_Rd_readMarks_5 (fun H150 locs ho151 z_H150 o_H150 hlo => ?_)
  have ho151 : hOb (eD E) classes H150 dr.1 1 [.ref dr.2.1, .ref dr.2.2.2.1, .int kI, .int 0] := ho151
  have kd : hCh (fun q => q = dr.1) H H150 := hCh.put z_H150 o_H150 rfl
  have hd3 : Dr E H150 dr kI 0 nx dx o1 o2 := ⟨ho151, hd.2.1.ch kd (ndn hN0 5 4 rfl rfl (by decide)) (ndn hN0 6 4 rfl rfl (by decide)), hd.2.2.1.ch kd (ndn hN0 7 4 rfl rfl (by decide)) (ndn hN0 8 4 rfl rfl (by decide)), hBd, by omega⟩
  refine lv_iconst (v := 0) cx.x cx.b d_Rd_readMarks_8 (by decide) ?_
  refine lv_istore_n (lv' := [(2, .int 0), (0, .ref rd), (1, .int (bI mem))]) cx.x cx.b d_Rd_readMarks_9 rfl hl (by decide) rfl (fun ls hl => ?_)
  exact LP (nMarks mem + 2) _ 0 0 ws we _ hlo (by omega) (by omega) hd3 (hln.ch kd (ndn hN0 1 4 rfl rfl (by decide))) ⟨h1, h2⟩ (kd.mono (fun q _ e => Or.inr e)) z_H150 hG _ hl
