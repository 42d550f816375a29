/-- the word from ws to we -/
def wdO (txt : List Nat) (ws we : Nat) : List Nat := (txt.take we).drop ws
theorem wdO_len {txt : List Nat} {ws we : Nat} (h : we ≤ txt.length) : (wdO txt ws we).length = we - ws := by
  unfold wdO; rw [List.length_drop, len_take h]
theorem wdO_getD {txt : List Nat} {ws we j : Nat} (h : j < we - ws) : (wdO txt ws we).getD j 0 = txt.getD (ws + j) 0 := by
  unfold wdO
  rw [List.getD_eq_getElem?_getD, List.getElem?_drop, ← List.getD_eq_getElem?_getD, getD_take (by omega)]
/-- what is copied of the place i of a name: nothing, or a character -/
def cn (fm : Nat) (txt : List Nat) (i : Nat) : Option Nat := if fm = 1 ∧ txt.getD i 0 = 37 ∧ txt.getD (i + 1) 0 = 36 then none else if fm = 1 ∧ txt.getD i 0 = 36 ∧ ¬ (0 < i ∧ txt.getD (i - 1) 0 = 37) then some 37 else some (txt.getD i 0)
def cnF (fm : Nat) (txt : List Nat) : Nat → Nat → List Nat
  | 0, _ => []
  | n + 1, i => (cn fm txt i).toList ++ cnF fm txt n (i + 1)
theorem cnF_some {fm n i x : Nat} {txt : List Nat} (h : cn fm txt i = some x) : cnF fm txt (n + 1) i = x :: cnF fm txt n (i + 1) := by
  show (cn fm txt i).toList ++ _ = _
  rw [h]; rfl
theorem cnF_none {fm n i : Nat} {txt : List Nat} (h : cn fm txt i = none) : cnF fm txt (n + 1) i = cnF fm txt n (i + 1) := by
  show (cn fm txt i).toList ++ _ = _
  rw [h]; rfl
theorem getD_out {xs : List Nat} {i : Nat} (h : xs.length ≤ i) : xs.getD i 0 = 0 := by
  rw [List.getD_eq_getElem?_getD, List.getElem?_eq_none h]; rfl
theorem atI_36 {xs : List Nat} {i c : Nat} (hl : xs.length ≤ 480) (hx : ∀ x ∈ xs, x < 128) (hi : i ≤ 480) (hc : c < 128) (hc0 : 0 < c) : atI xs (nI i) = nI c ↔ xs.getD i 0 = c := by
  by_cases h : i < xs.length
  · rw [atI_n h (by omega)]
    exact nI_eq (by have := hx _ (getD_mem h); omega) (by omega)
  · rw [atI_out (by omega) (by omega), getD_out (by omega)]
    constructor
    · intro q; exact absurd q.symm (nI_nm1 (by omega))
    · intro q; omega
theorem atI_p {xs : List Nat} {i c : Nat} (hl : xs.length ≤ 480) (hx : ∀ x ∈ xs, x < 128) (hi : i ≤ 480) (hc : c < 128) (hc0 : 0 < c) : atI xs (nI i - 1) = nI c ↔ (0 < i ∧ xs.getD (i - 1) 0 = c) := by
  cases i with
  | zero =>
    constructor
    · intro q; exact absurd (show (-1 : Int32) = nI c from q).symm (nI_nm1 (by omega))
    · intro q; omega
  | succ d =>
    rw [nI_pred, atI_36 hl hx (by omega) hc hc0]
    constructor
    · intro q; exact ⟨by omega, q⟩
    · intro q; exact q.2
set_option maxHeartbeats 4000000 in
set_option maxRecDepth 100000 in
theorem c_Ln_isAt (l : Launch) {E : hE} (hE : EnvOk E) (hS : EnvS E) {H : Heap} {a tr st en ws we tarr : Nat} {txt : List Nat} {o : Bool} (h : Ln E H a tr st en ws we) (hr : Rw E H tr tarr 480 txt o) (ha1 : tr ≠ a) (ha2 : tarr ≠ a) (hO : Old E H) {i : Nat} (hi : i < 17) (h1 : ws ≤ we) (h2 : we ≤ txt.length) : Ct l E y_Ln_isAt b_Ln_isAt 3 (some .boolean) (rmA 4 0 0) [.ref a, .ref (eK E i)] H (hQi (fun r H1 => r = bI (decide (wdO txt ws we = strL i)) ∧ H1 = H)) := by
  refine hx_enter hE (by decide) (Nat.le_of_ble_eq_true rfl) ?_
  intro p e s m args below meth c ls cx hnm hl
  have hl : lv_has ls 3 [(0, .ref a), (1, .ref (eK E i))] := hl
  have hlo : hLo (eB E) [] := hLo.nil
  generalize hQ : MQ below _ args s _ _ _ = Q
  have hle := hr.le
  have hx := hr.2.2.2.2.2
  have hb := strL_ok i hi
  have k9 := KX.str hS cx.X hO hi
  have hwl := wdO_len (ws := ws) h2
  have LP : ∀ (k : Nat) (locs : List Loc) (j : Nat), hLo (eB E) locs → ((strL i).length - j < k) → (j ≤ (strL i).length) → (we - ws = (strL i).length) → (∀ q, q < j → (wdO txt ws we).getD q 0 = (strL i).getD q 0) → ∀ ls, lv_has ls 3 [(2, .int (nI j)), (0, .ref a), (1, .ref (eK E i))] → W p l e (rmA 4 0 0) s m args below meth c H locs 0 0 Q (F0 m 20 ls []) := by
    intro k
    induction k with
    | zero => intro locs j hlo hk hj0 hlen hj; exact absurd hk (by omega)
    | succ k ih =>
      intro locs j hlo hk hj0 hlen hj ls hl
      refine lv_iload_n cx.x cx.b d_Ln_isAt_20 rfl (lv_at hl 0 rfl) ?_
      refine lv_aload_n cx.x cx.b d_Ln_isAt_21 rfl (lv_at hl 2 rfl) ?_
      refine hx_calli (iv_Ln_44_St cx (c_St_length l hE hS hO hi) k9.1.rc rfl hl.1 rfl (Nat.le_of_ble_eq_true rfl) d_Ln_isAt_22 ⟨Nat.le_of_ble_eq_true rfl, Nat.le_of_ble_eq_true rfl⟩ ⟨Nat.le_of_ble_eq_true rfl, Nat.le_of_ble_eq_true rfl⟩) hlo (fun _ h => h) (fun r75 H74 locs hp73 hlo => ?_)
      obtain ⟨hp73, hH9⟩ := hp73
      have hH9 := hH9.symm
      subst hH9
      subst hp73
      refine lv_icmp_ge (tgt := 57) cx.x cx.b d_Ln_isAt_25 (by decide) (fun c1 => ?_) (fun c1 => ?_)
      · have c1 : ((strL i).length) ≤ j := (nI_leI (a := ((strL i).length)) (b := j) (by omega) (by omega)).mp c1
        refine lv_iconst (v := 1) cx.x cx.b d_Ln_isAt_57 (by decide) ?_
        rw [← hQ]
        exact hx_reti cx.x cx.b cx.r cx.k rfl hlo (fun _ h => h) (Nat.le_of_ble_eq_true rfl) (Nat.le_of_ble_eq_true rfl) d_Ln_isAt_58 (⟨by rw [show decide (wdO txt ws we = strL i) = true from decide_eq_true (eq_getD (by omega) (fun q hq => hj q (by omega)))]; rfl, rfl⟩)
      · have c1 : j < ((strL i).length) := Nat.not_le.mp (fun zz => c1 ((nI_leI (a := ((strL i).length)) (b := j) (by omega) (by omega)).mpr zz))
        have b1 := hx _ (getD_mem (show ws + j < txt.length by omega))
        have b2 := hb.2 _ (getD_mem c1)
        refine lv_aload_n cx.x cx.b d_Ln_isAt_28 rfl (lv_at hl 1 rfl) ?_
        refine gf_Ln_9_Ln cx h.1 rfl d_Ln_isAt_29 ?_
        refine lv_aload_n cx.x cx.b d_Ln_isAt_32 rfl (lv_at hl 1 rfl) ?_
        refine gf_Ln_37_Ln cx h.1 rfl d_Ln_isAt_33 ?_
        refine lv_iload_n cx.x cx.b d_Ln_isAt_36 rfl (lv_at hl 0 rfl) ?_
        refine lv_iadd cx.x cx.b d_Ln_isAt_37 ?_
        refine lv_topi (fun x76 e_x76 => ?_)
        rw [nI_add] at e_x76
        subst e_x76
        refine hx_calli (iv_Ln_22_Rw cx (c_Rw_at l hE hr (nI (ws + j))) hr.1 rfl hl.1 rfl (Nat.le_of_ble_eq_true rfl) d_Ln_isAt_38 ⟨Nat.le_of_ble_eq_true rfl, Nat.le_of_ble_eq_true rfl⟩ ⟨Nat.le_of_ble_eq_true rfl, Nat.le_of_ble_eq_true rfl⟩) hlo (fun _ h => h) (fun r79 H78 locs hp77 hlo => ?_)
        obtain ⟨hp77, hH9⟩ := hp77
        have hH9 := hH9.symm
        subst hH9
        subst hp77
        rw [atI_n (by omega) (by omega)]
        refine lv_aload_n cx.x cx.b d_Ln_isAt_41 rfl (lv_at hl 2 rfl) ?_
        refine lv_iload_n cx.x cx.b d_Ln_isAt_42 rfl (lv_at hl 0 rfl) ?_
        refine hx_calli (iv_Ln_50_St cx (c_St_charAt l hE hS hO hi c1) k9.1.rc rfl hl.1 rfl (Nat.le_of_ble_eq_true rfl) d_Ln_isAt_43 ⟨Nat.le_of_ble_eq_true rfl, Nat.le_of_ble_eq_true rfl⟩ ⟨Nat.le_of_ble_eq_true rfl, Nat.le_of_ble_eq_true rfl⟩) hlo (fun _ h => h) (fun r82 H81 locs hp80 hlo => ?_)
        obtain ⟨hp80, hH9⟩ := hp80
        have hH9 := hH9.symm
        subst hH9
        subst hp80
        refine lv_icmp_eq (tgt := 51) cx.x cx.b d_Ln_isAt_46 (by decide) (fun c2 => ?_) (fun c2 => ?_)
        · have c2 : (txt.getD (ws + j) 0) = ((strL i).getD j 0) := (nI_eq (a := (txt.getD (ws + j) 0)) (b := ((strL i).getD j 0)) (by omega) (by omega)).mp c2
          obtain ⟨x83, e_x83⟩ : ∃ y : Int32, y = nI j + 1 := ⟨_, rfl⟩
          refine lv_iinc (v := x83) (lv' := [(2, .int x83), (0, .ref a), (1, .ref (eK E i))]) cx.x cx.b d_Ln_isAt_51 hl (k := 0) rfl (by rw [e_x83]; rfl) (by decide) rfl (fun ls hl => ?_)
          refine lv_goto (tgt := 20) cx.x cx.b d_Ln_isAt_54 (by decide) ?_
          rw [nI_1] at e_x83
          subst e_x83
          exact ih _ (j + 1) hlo (by omega) (by omega) hlen (lt_s hj (by rw [wdO_getD (by omega)]; exact c2)) _ hl
        · have c2 : (txt.getD (ws + j) 0) ≠ ((strL i).getD j 0) := fun zz => c2 ((nI_eq (a := (txt.getD (ws + j) 0)) (b := ((strL i).getD j 0)) (by omega) (by omega)).mpr zz)
          refine lv_iconst (v := 0) cx.x cx.b d_Ln_isAt_49 (by decide) ?_
          rw [← hQ]
          exact hx_reti cx.x cx.b cx.r cx.k rfl hlo (fun _ h => h) (Nat.le_of_ble_eq_true rfl) (Nat.le_of_ble_eq_true rfl) d_Ln_isAt_50 (⟨by rw [show decide (wdO txt ws we = strL i) = false from decide_eq_false (fun q => c2 (by rw [← wdO_getD (we := we) (by omega), q]))]; rfl, rfl⟩)
  refine lv_aload_n cx.x cx.b d_Ln_isAt_0 rfl (lv_at hl 0 rfl) ?_
  refine gf_Ln_31_Ln cx h.1 rfl d_Ln_isAt_1 ?_
  refine lv_aload_n cx.x cx.b d_Ln_isAt_4 rfl (lv_at hl 0 rfl) ?_
  refine gf_Ln_37_Ln cx h.1 rfl d_Ln_isAt_5 ?_
  refine lv_isub cx.x cx.b d_Ln_isAt_8 ?_
  refine lv_topi (fun x84 e_x84 => ?_)
  refine lv_aload_n cx.x cx.b d_Ln_isAt_9 rfl (lv_at hl 1 rfl) ?_
  rw [pk_sub h1] at e_x84
  subst e_x84
  refine hx_calli (iv_Ln_44_St cx (c_St_length l hE hS hO hi) k9.1.rc rfl hl.1 rfl (Nat.le_of_ble_eq_true rfl) d_Ln_isAt_10 ⟨Nat.le_of_ble_eq_true rfl, Nat.le_of_ble_eq_true rfl⟩ ⟨Nat.le_of_ble_eq_true rfl, Nat.le_of_ble_eq_true rfl⟩) hlo (fun _ h => h) (fun r87 H86 locs hp85 hlo => ?_)
  obtain ⟨hp85, hH9⟩ := hp85
  have hH9 := hH9.symm
  subst hH9
  subst hp85
  refine lv_icmp_eq (tgt := 18) cx.x cx.b d_Ln_isAt_13 (by decide) (fun c1 => ?_) (fun c1 => ?_)
  · have c1 : (we - ws) = ((strL i).length) := (nI_eq (a := (we - ws)) (b := ((strL i).length)) (by omega) (by omega)).mp c1
    refine lv_iconst (v := 0) cx.x cx.b d_Ln_isAt_18 (by decide) ?_
    refine lv_istore_n (lv' := [(2, .int 0), (0, .ref a), (1, .ref (eK E i))]) cx.x cx.b d_Ln_isAt_19 rfl hl (by decide) rfl (fun ls hl => ?_)
    exact LP ((strL i).length + 1) _ 0 hlo (by omega) (Nat.zero_le _) c1 (fun q hq => absurd hq (Nat.not_lt_zero q)) _ hl
  · have c1 : (we - ws) ≠ ((strL i).length) := fun zz => c1 ((nI_eq (a := (we - ws)) (b := ((strL i).length)) (by omega) (by omega)).mpr zz)
    refine lv_iconst (v := 0) cx.x cx.b d_Ln_isAt_16 (by decide) ?_
    rw [← hQ]
    exact hx_reti cx.x cx.b cx.r cx.k rfl hlo (fun _ h => h) (Nat.le_of_ble_eq_true rfl) (Nat.le_of_ble_eq_true rfl) d_Ln_isAt_17 (⟨by rw [show decide (wdO txt ws we = strL i) = false from decide_eq_false (fun q => c1 (by rw [← hwl, q]))]; rfl, rfl⟩)

set_option maxHeartbeats 4000000 in
set_option maxRecDepth 100000 in
theorem c_Ln_copyName (l : Launch) {E : hE} (hE : EnvOk E) {H : Heap} {a tr st en ws we tarr : Nat} {txt : List Nat} {o : Bool} (h : Ln E H a tr st en ws we) (hr : Rw E H tr tarr 480 txt o) (ha1 : tr ≠ a) (ha2 : tarr ≠ a) {b brr cap fm : Nat} {ys : List Nat} {o2 : Bool} (hb : Rw E H b brr cap ys o2) (d1 : a ≠ b) (d2 : a ≠ brr) (d3 : tr ≠ b) (d4 : tr ≠ brr) (d5 : tarr ≠ b) (d6 : tarr ≠ brr) (h1 : ws ≤ we) (h2 : we ≤ txt.length) (hfm : fm < 10) : Ct l E y_Ln_copyName b_Ln_copyName 8 none (rmA 1 0 0) [.ref a, .ref b, .int (nI fm)] H (hQv (fun H1 => Rw E H1 b brr cap ((cnF fm txt (we - ws) ws).foldl (addR cap) ([], false)).1 ((cnF fm txt (we - ws) ws).foldl (addR cap) ([], false)).2 ∧ hCh (rS b brr) H H1 ∧ H1.size = H.size)) := by
  refine hx_enter hE (by decide) (Nat.le_of_ble_eq_true rfl) ?_
  intro p e s m args below meth c ls cx hnm hl
  have hl : lv_has ls 8 [(0, .ref a), (1, .ref b), (2, .int (nI fm))] := hl
  have hlo : hLo (eB E) [] := hLo.nil
  generalize hQ : MQ below _ args s _ _ _ = Q
  have hle := hr.le
  have hx := hr.2.2.2.2.2
  obtain ⟨L9, hL9⟩ : ∃ L9, L9 = cnF fm txt (we - ws) ws := ⟨_, rfl⟩
  rw [← hL9] at hQ
  by_cases hf1 : fm = 1
  · have LP : ∀ (k : Nat) (locs : List Loc) (i : Nat) (xs1 : List Nat) (o1 : Bool) (H2 : Heap), hLo (eB E) locs → (we - i < k) → (ws ≤ i ∧ i ≤ we) → (Rw E H2 b brr cap xs1 o1) → (hCh (rS b brr) H H2) → (H2.size = H.size) → ((cnF fm txt (we - i) i).foldl (addR cap) (xs1, o1) = L9.foldl (addR cap) ([], false)) → ∀ ls, lv_has ls 8 [(4, .int (nI i)), (3, .int 1), (0, .ref a), (1, .ref b), (2, .int (nI fm))] → W p l e (rmA 1 0 0) s m args below meth c H2 locs 0 0 Q (F0 m 21 ls []) := by
      intro k
      induction k with
      | zero => intro locs i xs1 o1 H2 hlo hk hi hr1 hch hsz hj; exact absurd hk (by omega)
      | succ k ih =>
        intro locs i xs1 o1 H2 hlo hk hi hr1 hch hsz hj ls hl
        have hln2 : Ln E H2 a tr st en ws we := h.ch hch (fun q => by rcases q with e | e; exact d1 e; exact d2 e)
        have hr2 : Rw E H2 tr tarr 480 txt o := hr.ch hch (fun q => by rcases q with e | e; exact d3 e; exact d4 e) (fun q => by rcases q with e | e; exact d5 e; exact d6 e)
        refine lv_iload cx.x cx.b d_Ln_copyName_21 (lv_at hl 0 rfl) ?_
        refine lv_aload_n cx.x cx.b d_Ln_copyName_23 rfl (lv_at hl 2 rfl) ?_
        refine gf_Ln_31_Ln cx hln2.1 rfl d_Ln_copyName_24 ?_
        refine lv_icmp_ge (tgt := 136) cx.x cx.b d_Ln_copyName_27 (by decide) (fun c1 => ?_) (fun c1 => ?_)
        · have c1 : we ≤ i := (nI_leI (a := we) (b := i) (by omega) (by omega)).mp c1
          rw [show we - i = 0 by omega] at hj
          rw [← hj] at hQ
          rw [← hQ]
          exact hx_retv cx.x cx.b cx.r cx.k hlo (fun _ h => h) (Nat.le_of_ble_eq_true rfl) (Nat.le_of_ble_eq_true rfl) d_Ln_copyName_136 (⟨hr1, hch, hsz⟩)
        · have c1 : i < we := Nat.not_le.mp (fun zz => c1 ((nI_leI (a := we) (b := i) (by omega) (by omega)).mpr zz))
          have b1 := hx _ (getD_mem (show i < txt.length by omega))
          obtain ⟨n9, hn9⟩ : ∃ n9, we - i = n9 + 1 := ⟨we - i - 1, by omega⟩
          rw [hn9] at hj
          refine lv_aload_n cx.x cx.b d_Ln_copyName_30 rfl (lv_at hl 2 rfl) ?_
          refine gf_Ln_9_Ln cx hln2.1 rfl d_Ln_copyName_31 ?_
          refine lv_iload cx.x cx.b d_Ln_copyName_34 (lv_at hl 0 rfl) ?_
          refine hx_calli (iv_Ln_22_Rw cx (c_Rw_at l hE hr2 (nI i)) hr2.1 rfl hl.1 rfl (Nat.le_of_ble_eq_true rfl) d_Ln_copyName_36 ⟨Nat.le_of_ble_eq_true rfl, Nat.le_of_ble_eq_true rfl⟩ ⟨Nat.le_of_ble_eq_true rfl, Nat.le_of_ble_eq_true rfl⟩) hlo (fun _ h => h) (fun r90 H89 locs hp88 hlo => ?_)
          obtain ⟨hp88, hH9⟩ := hp88
          have hH9 := hH9.symm
          subst hH9
          subst hp88
          rw [atI_n (by omega) (by omega)]
          refine lv_istore (lv' := [(5, .int (nI (txt.getD i 0))), (4, .int (nI i)), (3, .int 1), (0, .ref a), (1, .ref b), (2, .int (nI fm))]) cx.x cx.b d_Ln_copyName_39 hl (by decide) rfl (fun ls hl => ?_)
          refine lv_iload_n cx.x cx.b d_Ln_copyName_41 rfl (lv_at hl 2 rfl) ?_
          refine lv_if_eq (tgt := 72) cx.x cx.b d_Ln_copyName_42 (by decide) (fun c => absurd c (by decide)) (fun _ => ?_)
          refine lv_iload cx.x cx.b d_Ln_copyName_45 (lv_at hl 0 rfl) ?_
          refine lv_bipush (v := 37) cx.x cx.b d_Ln_copyName_47 (by decide) ?_
          refine lv_icmp_ne (tgt := 72) cx.x cx.b d_Ln_copyName_49 (by decide) (fun c2 => ?_) (fun c2 => ?_)
          · have c2 : (txt.getD i 0) ≠ 37 := fun zz => c2 ((nI_eq (a := (txt.getD i 0)) (b := 37) (by omega) (by omega)).mpr zz)
            refine lv_iconst (v := 0) cx.x cx.b d_Ln_copyName_72 (by decide) ?_
            refine lv_istore (lv' := [(6, .int 0), (5, .int (nI (txt.getD i 0))), (4, .int (nI i)), (3, .int 1), (0, .ref a), (1, .ref b), (2, .int (nI fm))]) cx.x cx.b d_Ln_copyName_73 hl (by decide) rfl (fun ls hl => ?_)
            refine lv_iload_n cx.x cx.b d_Ln_copyName_75 rfl (lv_at hl 3 rfl) ?_
            refine lv_if_eq (tgt := 106) cx.x cx.b d_Ln_copyName_76 (by decide) (fun c => absurd c (by decide)) (fun _ => ?_)
            refine lv_iload cx.x cx.b d_Ln_copyName_79 (lv_at hl 1 rfl) ?_
            refine lv_bipush (v := 36) cx.x cx.b d_Ln_copyName_81 (by decide) ?_
            refine lv_icmp_ne (tgt := 106) cx.x cx.b d_Ln_copyName_83 (by decide) (fun c3 => ?_) (fun c3 => ?_)
            · have c3 : (txt.getD i 0) ≠ 36 := fun zz => c3 ((nI_eq (a := (txt.getD i 0)) (b := 36) (by omega) (by omega)).mpr zz)
              refine lv_iconst (v := 0) cx.x cx.b d_Ln_copyName_106 (by decide) ?_
              refine lv_istore (lv' := [(7, .int 0), (6, .int 0), (5, .int (nI (txt.getD i 0))), (4, .int (nI i)), (3, .int 1), (0, .ref a), (1, .ref b), (2, .int (nI fm))]) cx.x cx.b d_Ln_copyName_107 hl (by decide) rfl (fun ls hl => ?_)
              refine lv_iload cx.x cx.b d_Ln_copyName_109 (lv_at hl 1 rfl) ?_
              refine lv_if_ne (tgt := 130) cx.x cx.b d_Ln_copyName_111 (by decide) (fun c => absurd (by decide) c) (fun _ => ?_)
              refine lv_aload_n cx.x cx.b d_Ln_copyName_114 rfl (lv_at hl 6 rfl) ?_
              refine lv_iload cx.x cx.b d_Ln_copyName_115 (lv_at hl 0 rfl) ?_
              refine lv_if_eq (tgt := 125) cx.x cx.b d_Ln_copyName_117 (by decide) (fun _ => ?_) (fun c => absurd (by decide) c)
              refine lv_iload cx.x cx.b d_Ln_copyName_125 (lv_at hl 2 rfl) ?_
              have hcn : cn fm txt i = some (txt.getD i 0) := by unfold cn; rw [if_neg (fun z => c2 z.2.1), if_neg (fun z => c3 z.2.1)]
              refine hx_callv (iv_Ln_57_Rw cx (c_Rw_add l hE hr1 (x := txt.getD i 0) (by omega)) hr1.1 rfl hl.1 rfl (Nat.le_of_ble_eq_true rfl) d_Ln_copyName_127 ⟨Nat.le_of_ble_eq_true rfl, Nat.le_of_ble_eq_true rfl⟩ ⟨Nat.le_of_ble_eq_true rfl, Nat.le_of_ble_eq_true rfl⟩) hlo (fun _ h => h) (fun H92 locs hp91 hlo => ?_)
              obtain ⟨q1, q2, q3⟩ := hp91
              obtain ⟨x93, e_x93⟩ : ∃ y : Int32, y = nI i + 1 := ⟨_, rfl⟩
              refine lv_iinc (v := x93) (lv' := [(4, .int x93), (7, .int 0), (6, .int 0), (5, .int (nI (txt.getD i 0))), (3, .int 1), (0, .ref a), (1, .ref b), (2, .int (nI fm))]) cx.x cx.b d_Ln_copyName_130 hl (k := 3) rfl (by rw [e_x93]; rfl) (by decide) rfl (fun ls hl => ?_)
              refine lv_goto (tgt := 21) cx.x cx.b d_Ln_copyName_133 (by decide) ?_
              rw [nI_1] at e_x93
              subst e_x93
              rw [cnF_some hcn] at hj
              exact ih _ (i + 1) _ _ _ hlo (by omega) ⟨by omega, by omega⟩ q1 (hch.tr q2) (q3.trans hsz) (by rw [show we - (i + 1) = n9 by omega]; exact hj) _ (lv_sub hl [0, 4, 5, 6, 7] rfl)
            · have c3 : (txt.getD i 0) = 36 := (nI_eq (a := (txt.getD i 0)) (b := 36) (by omega) (by omega)).mp c3
              refine lv_aload_n cx.x cx.b d_Ln_copyName_86 rfl (lv_at hl 4 rfl) ?_
              refine gf_Ln_9_Ln cx hln2.1 rfl d_Ln_copyName_87 ?_
              refine lv_iload cx.x cx.b d_Ln_copyName_90 (lv_at hl 2 rfl) ?_
              refine lv_iconst (v := 1) cx.x cx.b d_Ln_copyName_92 (by decide) ?_
              refine lv_isub cx.x cx.b d_Ln_copyName_93 ?_
              refine lv_topi (fun x94 e_x94 => ?_)
              subst e_x94
              refine hx_calli (iv_Ln_22_Rw cx (c_Rw_at l hE hr2 (nI i - 1)) hr2.1 rfl hl.1 rfl (Nat.le_of_ble_eq_true rfl) d_Ln_copyName_94 ⟨Nat.le_of_ble_eq_true rfl, Nat.le_of_ble_eq_true rfl⟩ ⟨Nat.le_of_ble_eq_true rfl, Nat.le_of_ble_eq_true rfl⟩) hlo (fun _ h => h) (fun r97 H96 locs hp95 hlo => ?_)
              obtain ⟨hp95, hH9⟩ := hp95
              have hH9 := hH9.symm
              subst hH9
              subst hp95
              have hp9 := atI_p (i := i) (c := 37) hle hx (by omega) (by omega) (by omega)
              refine lv_bipush (v := 37) cx.x cx.b d_Ln_copyName_97 (by decide) ?_
              refine lv_icmp_eq (tgt := 106) cx.x cx.b d_Ln_copyName_99 (by decide) (fun c4 => ?_) (fun c4 => ?_)
              · refine lv_iconst (v := 0) cx.x cx.b d_Ln_copyName_106 (by decide) ?_
                refine lv_istore (lv' := [(7, .int 0), (6, .int 0), (5, .int (nI (txt.getD i 0))), (4, .int (nI i)), (3, .int 1), (0, .ref a), (1, .ref b), (2, .int (nI fm))]) cx.x cx.b d_Ln_copyName_107 hl (by decide) rfl (fun ls hl => ?_)
                refine lv_iload cx.x cx.b d_Ln_copyName_109 (lv_at hl 1 rfl) ?_
                refine lv_if_ne (tgt := 130) cx.x cx.b d_Ln_copyName_111 (by decide) (fun c => absurd (by decide) c) (fun _ => ?_)
                refine lv_aload_n cx.x cx.b d_Ln_copyName_114 rfl (lv_at hl 6 rfl) ?_
                refine lv_iload cx.x cx.b d_Ln_copyName_115 (lv_at hl 0 rfl) ?_
                refine lv_if_eq (tgt := 125) cx.x cx.b d_Ln_copyName_117 (by decide) (fun _ => ?_) (fun c => absurd (by decide) c)
                refine lv_iload cx.x cx.b d_Ln_copyName_125 (lv_at hl 2 rfl) ?_
                have hcn : cn fm txt i = some (txt.getD i 0) := by unfold cn; rw [if_neg (fun z => c2 z.2.1), if_neg (fun z => z.2.2 (hp9.mp c4))]
                refine hx_callv (iv_Ln_57_Rw cx (c_Rw_add l hE hr1 (x := txt.getD i 0) (by omega)) hr1.1 rfl hl.1 rfl (Nat.le_of_ble_eq_true rfl) d_Ln_copyName_127 ⟨Nat.le_of_ble_eq_true rfl, Nat.le_of_ble_eq_true rfl⟩ ⟨Nat.le_of_ble_eq_true rfl, Nat.le_of_ble_eq_true rfl⟩) hlo (fun _ h => h) (fun H99 locs hp98 hlo => ?_)
                obtain ⟨q1, q2, q3⟩ := hp98
                obtain ⟨x100, e_x100⟩ : ∃ y : Int32, y = nI i + 1 := ⟨_, rfl⟩
                refine lv_iinc (v := x100) (lv' := [(4, .int x100), (7, .int 0), (6, .int 0), (5, .int (nI (txt.getD i 0))), (3, .int 1), (0, .ref a), (1, .ref b), (2, .int (nI fm))]) cx.x cx.b d_Ln_copyName_130 hl (k := 3) rfl (by rw [e_x100]; rfl) (by decide) rfl (fun ls hl => ?_)
                refine lv_goto (tgt := 21) cx.x cx.b d_Ln_copyName_133 (by decide) ?_
                rw [nI_1] at e_x100
                subst e_x100
                rw [cnF_some hcn] at hj
                exact ih _ (i + 1) _ _ _ hlo (by omega) ⟨by omega, by omega⟩ q1 (hch.tr q2) (q3.trans hsz) (by rw [show we - (i + 1) = n9 by omega]; exact hj) _ (lv_sub hl [0, 4, 5, 6, 7] rfl)
              · refine lv_iconst (v := 1) cx.x cx.b d_Ln_copyName_102 (by decide) ?_
                refine lv_goto (tgt := 107) cx.x cx.b d_Ln_copyName_103 (by decide) ?_
                refine lv_istore (lv' := [(7, .int 1), (6, .int 0), (5, .int (nI (txt.getD i 0))), (4, .int (nI i)), (3, .int 1), (0, .ref a), (1, .ref b), (2, .int (nI fm))]) cx.x cx.b d_Ln_copyName_107 hl (by decide) rfl (fun ls hl => ?_)
                refine lv_iload cx.x cx.b d_Ln_copyName_109 (lv_at hl 1 rfl) ?_
                refine lv_if_ne (tgt := 130) cx.x cx.b d_Ln_copyName_111 (by decide) (fun c => absurd (by decide) c) (fun _ => ?_)
                refine lv_aload_n cx.x cx.b d_Ln_copyName_114 rfl (lv_at hl 6 rfl) ?_
                refine lv_iload cx.x cx.b d_Ln_copyName_115 (lv_at hl 0 rfl) ?_
                refine lv_if_eq (tgt := 125) cx.x cx.b d_Ln_copyName_117 (by decide) (fun c => absurd c (by decide)) (fun _ => ?_)
                refine lv_bipush (v := 37) cx.x cx.b d_Ln_copyName_120 (by decide) ?_
                refine lv_goto (tgt := 127) cx.x cx.b d_Ln_copyName_122 (by decide) ?_
                have hcn : cn fm txt i = some (37) := by unfold cn; rw [if_neg (fun z => c2 z.2.1), if_pos ⟨hf1, c3, fun z => c4 (hp9.mpr z)⟩]
                refine hx_callv (iv_Ln_57_Rw cx (c_Rw_add l hE hr1 (x := 37) (by omega)) hr1.1 rfl hl.1 rfl (Nat.le_of_ble_eq_true rfl) d_Ln_copyName_127 ⟨Nat.le_of_ble_eq_true rfl, Nat.le_of_ble_eq_true rfl⟩ ⟨Nat.le_of_ble_eq_true rfl, Nat.le_of_ble_eq_true rfl⟩) hlo (fun _ h => h) (fun H102 locs hp101 hlo => ?_)
                obtain ⟨q1, q2, q3⟩ := hp101
                obtain ⟨x103, e_x103⟩ : ∃ y : Int32, y = nI i + 1 := ⟨_, rfl⟩
                refine lv_iinc (v := x103) (lv' := [(4, .int x103), (7, .int 1), (6, .int 0), (5, .int (nI (txt.getD i 0))), (3, .int 1), (0, .ref a), (1, .ref b), (2, .int (nI fm))]) cx.x cx.b d_Ln_copyName_130 hl (k := 3) rfl (by rw [e_x103]; rfl) (by decide) rfl (fun ls hl => ?_)
                refine lv_goto (tgt := 21) cx.x cx.b d_Ln_copyName_133 (by decide) ?_
                rw [nI_1] at e_x103
                subst e_x103
                rw [cnF_some hcn] at hj
                exact ih _ (i + 1) _ _ _ hlo (by omega) ⟨by omega, by omega⟩ q1 (hch.tr q2) (q3.trans hsz) (by rw [show we - (i + 1) = n9 by omega]; exact hj) _ (lv_sub hl [0, 4, 5, 6, 7] rfl)
          · have c2 : (txt.getD i 0) = 37 := (nI_eq (a := (txt.getD i 0)) (b := 37) (by omega) (by omega)).mp c2
            refine lv_aload_n cx.x cx.b d_Ln_copyName_52 rfl (lv_at hl 3 rfl) ?_
            refine gf_Ln_9_Ln cx hln2.1 rfl d_Ln_copyName_53 ?_
            refine lv_iload cx.x cx.b d_Ln_copyName_56 (lv_at hl 1 rfl) ?_
            refine lv_iconst (v := 1) cx.x cx.b d_Ln_copyName_58 (by decide) ?_
            refine lv_iadd cx.x cx.b d_Ln_copyName_59 ?_
            refine lv_topi (fun x104 e_x104 => ?_)
            rw [nI_1] at e_x104
            subst e_x104
            refine hx_calli (iv_Ln_22_Rw cx (c_Rw_at l hE hr2 (nI (i + 1))) hr2.1 rfl hl.1 rfl (Nat.le_of_ble_eq_true rfl) d_Ln_copyName_60 ⟨Nat.le_of_ble_eq_true rfl, Nat.le_of_ble_eq_true rfl⟩ ⟨Nat.le_of_ble_eq_true rfl, Nat.le_of_ble_eq_true rfl⟩) hlo (fun _ h => h) (fun r107 H106 locs hp105 hlo => ?_)
            obtain ⟨hp105, hH9⟩ := hp105
            have hH9 := hH9.symm
            subst hH9
            subst hp105
            have hp9 := atI_36 (i := i + 1) (c := 36) hle hx (by omega) (by omega) (by omega)
            refine lv_bipush (v := 36) cx.x cx.b d_Ln_copyName_63 (by decide) ?_
            refine lv_icmp_ne (tgt := 72) cx.x cx.b d_Ln_copyName_65 (by decide) (fun c4 => ?_) (fun c4 => ?_)
            · refine lv_iconst (v := 0) cx.x cx.b d_Ln_copyName_72 (by decide) ?_
              refine lv_istore (lv' := [(6, .int 0), (5, .int (nI (txt.getD i 0))), (4, .int (nI i)), (3, .int 1), (0, .ref a), (1, .ref b), (2, .int (nI fm))]) cx.x cx.b d_Ln_copyName_73 hl (by decide) rfl (fun ls hl => ?_)
              refine lv_iload_n cx.x cx.b d_Ln_copyName_75 rfl (lv_at hl 3 rfl) ?_
              refine lv_if_eq (tgt := 106) cx.x cx.b d_Ln_copyName_76 (by decide) (fun c => absurd c (by decide)) (fun _ => ?_)
              refine lv_iload cx.x cx.b d_Ln_copyName_79 (lv_at hl 1 rfl) ?_
              refine lv_bipush (v := 36) cx.x cx.b d_Ln_copyName_81 (by decide) ?_
              refine lv_icmp_ne (tgt := 106) cx.x cx.b d_Ln_copyName_83 (by decide) (fun _ => ?_) (fun c => absurd ((nI_eq (a := txt.getD i 0) (b := 36) (by omega) (by omega)).mp c) (by omega))
              refine lv_iconst (v := 0) cx.x cx.b d_Ln_copyName_106 (by decide) ?_
              refine lv_istore (lv' := [(7, .int 0), (6, .int 0), (5, .int (nI (txt.getD i 0))), (4, .int (nI i)), (3, .int 1), (0, .ref a), (1, .ref b), (2, .int (nI fm))]) cx.x cx.b d_Ln_copyName_107 hl (by decide) rfl (fun ls hl => ?_)
              refine lv_iload cx.x cx.b d_Ln_copyName_109 (lv_at hl 1 rfl) ?_
              refine lv_if_ne (tgt := 130) cx.x cx.b d_Ln_copyName_111 (by decide) (fun c => absurd (by decide) c) (fun _ => ?_)
              refine lv_aload_n cx.x cx.b d_Ln_copyName_114 rfl (lv_at hl 6 rfl) ?_
              refine lv_iload cx.x cx.b d_Ln_copyName_115 (lv_at hl 0 rfl) ?_
              refine lv_if_eq (tgt := 125) cx.x cx.b d_Ln_copyName_117 (by decide) (fun _ => ?_) (fun c => absurd (by decide) c)
              refine lv_iload cx.x cx.b d_Ln_copyName_125 (lv_at hl 2 rfl) ?_
              have hcn : cn fm txt i = some (txt.getD i 0) := by unfold cn; rw [if_neg (fun z => c4 (hp9.mpr z.2.2)), if_neg (fun z => by omega)]
              refine hx_callv (iv_Ln_57_Rw cx (c_Rw_add l hE hr1 (x := txt.getD i 0) (by omega)) hr1.1 rfl hl.1 rfl (Nat.le_of_ble_eq_true rfl) d_Ln_copyName_127 ⟨Nat.le_of_ble_eq_true rfl, Nat.le_of_ble_eq_true rfl⟩ ⟨Nat.le_of_ble_eq_true rfl, Nat.le_of_ble_eq_true rfl⟩) hlo (fun _ h => h) (fun H109 locs hp108 hlo => ?_)
              obtain ⟨q1, q2, q3⟩ := hp108
              obtain ⟨x110, e_x110⟩ : ∃ y : Int32, y = nI i + 1 := ⟨_, rfl⟩
              refine lv_iinc (v := x110) (lv' := [(4, .int x110), (7, .int 0), (6, .int 0), (5, .int (nI (txt.getD i 0))), (3, .int 1), (0, .ref a), (1, .ref b), (2, .int (nI fm))]) cx.x cx.b d_Ln_copyName_130 hl (k := 3) rfl (by rw [e_x110]; rfl) (by decide) rfl (fun ls hl => ?_)
              refine lv_goto (tgt := 21) cx.x cx.b d_Ln_copyName_133 (by decide) ?_
              rw [nI_1] at e_x110
              subst e_x110
              rw [cnF_some hcn] at hj
              exact ih _ (i + 1) _ _ _ hlo (by omega) ⟨by omega, by omega⟩ q1 (hch.tr q2) (q3.trans hsz) (by rw [show we - (i + 1) = n9 by omega]; exact hj) _ (lv_sub hl [0, 4, 5, 6, 7] rfl)
            · refine lv_iconst (v := 1) cx.x cx.b d_Ln_copyName_68 (by decide) ?_
              refine lv_goto (tgt := 73) cx.x cx.b d_Ln_copyName_69 (by decide) ?_
              refine lv_istore (lv' := [(6, .int 1), (5, .int (nI (txt.getD i 0))), (4, .int (nI i)), (3, .int 1), (0, .ref a), (1, .ref b), (2, .int (nI fm))]) cx.x cx.b d_Ln_copyName_73 hl (by decide) rfl (fun ls hl => ?_)
              refine lv_iload_n cx.x cx.b d_Ln_copyName_75 rfl (lv_at hl 3 rfl) ?_
              refine lv_if_eq (tgt := 106) cx.x cx.b d_Ln_copyName_76 (by decide) (fun c => absurd c (by decide)) (fun _ => ?_)
              refine lv_iload cx.x cx.b d_Ln_copyName_79 (lv_at hl 1 rfl) ?_
              refine lv_bipush (v := 36) cx.x cx.b d_Ln_copyName_81 (by decide) ?_
              refine lv_icmp_ne (tgt := 106) cx.x cx.b d_Ln_copyName_83 (by decide) (fun _ => ?_) (fun c => absurd ((nI_eq (a := txt.getD i 0) (b := 36) (by omega) (by omega)).mp c) (by omega))
              refine lv_iconst (v := 0) cx.x cx.b d_Ln_copyName_106 (by decide) ?_
              refine lv_istore (lv' := [(7, .int 0), (6, .int 1), (5, .int (nI (txt.getD i 0))), (4, .int (nI i)), (3, .int 1), (0, .ref a), (1, .ref b), (2, .int (nI fm))]) cx.x cx.b d_Ln_copyName_107 hl (by decide) rfl (fun ls hl => ?_)
              refine lv_iload cx.x cx.b d_Ln_copyName_109 (lv_at hl 1 rfl) ?_
              refine lv_if_ne (tgt := 130) cx.x cx.b d_Ln_copyName_111 (by decide) (fun _ => ?_) (fun c => absurd c (by decide))
              have hcn : cn fm txt i = none := by unfold cn; rw [if_pos ⟨hf1, c2, hp9.mp c4⟩]
              obtain ⟨x111, e_x111⟩ : ∃ y : Int32, y = nI i + 1 := ⟨_, rfl⟩
              refine lv_iinc (v := x111) (lv' := [(4, .int x111), (7, .int 0), (6, .int 1), (5, .int (nI (txt.getD i 0))), (3, .int 1), (0, .ref a), (1, .ref b), (2, .int (nI fm))]) cx.x cx.b d_Ln_copyName_130 hl (k := 3) rfl (by rw [e_x111]; rfl) (by decide) rfl (fun ls hl => ?_)
              refine lv_goto (tgt := 21) cx.x cx.b d_Ln_copyName_133 (by decide) ?_
              rw [nI_1] at e_x111
              subst e_x111
              rw [cnF_none hcn] at hj
              exact ih _ (i + 1) _ _ _ hlo (by omega) ⟨by omega, by omega⟩ hr1 hch hsz (by rw [show we - (i + 1) = n9 by omega]; exact hj) _ (lv_sub hl [0, 4, 5, 6, 7] rfl)
    refine lv_iload_n cx.x cx.b d_Ln_copyName_0 rfl (lv_at hl 2 rfl) ?_
    refine lv_iconst (v := 1) cx.x cx.b d_Ln_copyName_1 (by decide) ?_
    refine lv_icmp_ne (tgt := 9) cx.x cx.b d_Ln_copyName_2 (by decide) (fun c => absurd (by rw [hf1]; rfl) c) (fun _ => ?_)
    refine lv_iconst (v := 1) cx.x cx.b d_Ln_copyName_5 (by decide) ?_
    refine lv_goto (tgt := 10) cx.x cx.b d_Ln_copyName_6 (by decide) ?_
    refine lv_istore_n (lv' := [(3, .int 1), (0, .ref a), (1, .ref b), (2, .int (nI fm))]) cx.x cx.b d_Ln_copyName_10 rfl hl (by decide) rfl (fun ls hl => ?_)
    refine lv_aload_n cx.x cx.b d_Ln_copyName_11 rfl (lv_at hl 2 rfl) ?_
    refine hx_callv (iv_Ln_54_Rw cx (c_Rw_empty l hE hb) hb.1 rfl hl.1 rfl (Nat.le_of_ble_eq_true rfl) d_Ln_copyName_12 ⟨Nat.le_of_ble_eq_true rfl, Nat.le_of_ble_eq_true rfl⟩ ⟨Nat.le_of_ble_eq_true rfl, Nat.le_of_ble_eq_true rfl⟩) hlo (fun _ h => h) (fun H113 locs hp112 hlo => ?_)
    obtain ⟨q1, q2, q3⟩ := hp112
    have hln2 : Ln E H113 a tr st en ws we := h.ch q2 (fun q => by rcases q with e | e; exact d1 e; exact d2 e)
    refine lv_aload_n cx.x cx.b d_Ln_copyName_15 rfl (lv_at hl 1 rfl) ?_
    refine gf_Ln_37_Ln cx hln2.1 rfl d_Ln_copyName_16 ?_
    refine lv_istore (lv' := [(4, .int (nI ws)), (3, .int 1), (0, .ref a), (1, .ref b), (2, .int (nI fm))]) cx.x cx.b d_Ln_copyName_19 hl (by decide) rfl (fun ls hl => ?_)
    exact LP (we + 1) _ ws _ _ _ hlo (by omega) ⟨Nat.le_refl _, h1⟩ q1 q2 q3 (by rw [hL9]) _ (lv_sub hl [0, 1, 2, 3, 4] rfl)
  · have LP : ∀ (k : Nat) (locs : List Loc) (i : Nat) (xs1 : List Nat) (o1 : Bool) (H2 : Heap), hLo (eB E) locs → (we - i < k) → (ws ≤ i ∧ i ≤ we) → (Rw E H2 b brr cap xs1 o1) → (hCh (rS b brr) H H2) → (H2.size = H.size) → ((cnF fm txt (we - i) i).foldl (addR cap) (xs1, o1) = L9.foldl (addR cap) ([], false)) → ∀ ls, lv_has ls 8 [(4, .int (nI i)), (3, .int 0), (0, .ref a), (1, .ref b), (2, .int (nI fm))] → W p l e (rmA 1 0 0) s m args below meth c H2 locs 0 0 Q (F0 m 21 ls []) := by
      intro k
      induction k with
      | zero => intro locs i xs1 o1 H2 hlo hk hi hr1 hch hsz hj; exact absurd hk (by omega)
      | succ k ih =>
        intro locs i xs1 o1 H2 hlo hk hi hr1 hch hsz hj ls hl
        have hln2 : Ln E H2 a tr st en ws we := h.ch hch (fun q => by rcases q with e | e; exact d1 e; exact d2 e)
        have hr2 : Rw E H2 tr tarr 480 txt o := hr.ch hch (fun q => by rcases q with e | e; exact d3 e; exact d4 e) (fun q => by rcases q with e | e; exact d5 e; exact d6 e)
        refine lv_iload cx.x cx.b d_Ln_copyName_21 (lv_at hl 0 rfl) ?_
        refine lv_aload_n cx.x cx.b d_Ln_copyName_23 rfl (lv_at hl 2 rfl) ?_
        refine gf_Ln_31_Ln cx hln2.1 rfl d_Ln_copyName_24 ?_
        refine lv_icmp_ge (tgt := 136) cx.x cx.b d_Ln_copyName_27 (by decide) (fun c1 => ?_) (fun c1 => ?_)
        · have c1 : we ≤ i := (nI_leI (a := we) (b := i) (by omega) (by omega)).mp c1
          rw [show we - i = 0 by omega] at hj
          rw [← hj] at hQ
          rw [← hQ]
          exact hx_retv cx.x cx.b cx.r cx.k hlo (fun _ h => h) (Nat.le_of_ble_eq_true rfl) (Nat.le_of_ble_eq_true rfl) d_Ln_copyName_136 (⟨hr1, hch, hsz⟩)
        · have c1 : i < we := Nat.not_le.mp (fun zz => c1 ((nI_leI (a := we) (b := i) (by omega) (by omega)).mpr zz))
          have b1 := hx _ (getD_mem (show i < txt.length by omega))
          obtain ⟨n9, hn9⟩ : ∃ n9, we - i = n9 + 1 := ⟨we - i - 1, by omega⟩
          rw [hn9] at hj
          refine lv_aload_n cx.x cx.b d_Ln_copyName_30 rfl (lv_at hl 2 rfl) ?_
          refine gf_Ln_9_Ln cx hln2.1 rfl d_Ln_copyName_31 ?_
          refine lv_iload cx.x cx.b d_Ln_copyName_34 (lv_at hl 0 rfl) ?_
          refine hx_calli (iv_Ln_22_Rw cx (c_Rw_at l hE hr2 (nI i)) hr2.1 rfl hl.1 rfl (Nat.le_of_ble_eq_true rfl) d_Ln_copyName_36 ⟨Nat.le_of_ble_eq_true rfl, Nat.le_of_ble_eq_true rfl⟩ ⟨Nat.le_of_ble_eq_true rfl, Nat.le_of_ble_eq_true rfl⟩) hlo (fun _ h => h) (fun r116 H115 locs hp114 hlo => ?_)
          obtain ⟨hp114, hH9⟩ := hp114
          have hH9 := hH9.symm
          subst hH9
          subst hp114
          rw [atI_n (by omega) (by omega)]
          refine lv_istore (lv' := [(5, .int (nI (txt.getD i 0))), (4, .int (nI i)), (3, .int 0), (0, .ref a), (1, .ref b), (2, .int (nI fm))]) cx.x cx.b d_Ln_copyName_39 hl (by decide) rfl (fun ls hl => ?_)
          refine lv_iload_n cx.x cx.b d_Ln_copyName_41 rfl (lv_at hl 2 rfl) ?_
          refine lv_if_eq (tgt := 72) cx.x cx.b d_Ln_copyName_42 (by decide) (fun _ => ?_) (fun c => absurd (by decide) c)
          refine lv_iconst (v := 0) cx.x cx.b d_Ln_copyName_72 (by decide) ?_
          refine lv_istore (lv' := [(6, .int 0), (5, .int (nI (txt.getD i 0))), (4, .int (nI i)), (3, .int 0), (0, .ref a), (1, .ref b), (2, .int (nI fm))]) cx.x cx.b d_Ln_copyName_73 hl (by decide) rfl (fun ls hl => ?_)
          refine lv_iload_n cx.x cx.b d_Ln_copyName_75 rfl (lv_at hl 3 rfl) ?_
          refine lv_if_eq (tgt := 106) cx.x cx.b d_Ln_copyName_76 (by decide) (fun _ => ?_) (fun c => absurd (by decide) c)
          refine lv_iconst (v := 0) cx.x cx.b d_Ln_copyName_106 (by decide) ?_
          refine lv_istore (lv' := [(7, .int 0), (6, .int 0), (5, .int (nI (txt.getD i 0))), (4, .int (nI i)), (3, .int 0), (0, .ref a), (1, .ref b), (2, .int (nI fm))]) cx.x cx.b d_Ln_copyName_107 hl (by decide) rfl (fun ls hl => ?_)
          refine lv_iload cx.x cx.b d_Ln_copyName_109 (lv_at hl 1 rfl) ?_
          refine lv_if_ne (tgt := 130) cx.x cx.b d_Ln_copyName_111 (by decide) (fun c => absurd (by decide) c) (fun _ => ?_)
          refine lv_aload_n cx.x cx.b d_Ln_copyName_114 rfl (lv_at hl 6 rfl) ?_
          refine lv_iload cx.x cx.b d_Ln_copyName_115 (lv_at hl 0 rfl) ?_
          refine lv_if_eq (tgt := 125) cx.x cx.b d_Ln_copyName_117 (by decide) (fun _ => ?_) (fun c => absurd (by decide) c)
          refine lv_iload cx.x cx.b d_Ln_copyName_125 (lv_at hl 2 rfl) ?_
          have hcn : cn fm txt i = some (txt.getD i 0) := by unfold cn; rw [if_neg (fun z => hf1 z.1), if_neg (fun z => hf1 z.1)]
          refine hx_callv (iv_Ln_57_Rw cx (c_Rw_add l hE hr1 (x := txt.getD i 0) (by omega)) hr1.1 rfl hl.1 rfl (Nat.le_of_ble_eq_true rfl) d_Ln_copyName_127 ⟨Nat.le_of_ble_eq_true rfl, Nat.le_of_ble_eq_true rfl⟩ ⟨Nat.le_of_ble_eq_true rfl, Nat.le_of_ble_eq_true rfl⟩) hlo (fun _ h => h) (fun H118 locs hp117 hlo => ?_)
          obtain ⟨q1, q2, q3⟩ := hp117
          obtain ⟨x119, e_x119⟩ : ∃ y : Int32, y = nI i + 1 := ⟨_, rfl⟩
          refine lv_iinc (v := x119) (lv' := [(4, .int x119), (7, .int 0), (6, .int 0), (5, .int (nI (txt.getD i 0))), (3, .int 0), (0, .ref a), (1, .ref b), (2, .int (nI fm))]) cx.x cx.b d_Ln_copyName_130 hl (k := 3) rfl (by rw [e_x119]; rfl) (by decide) rfl (fun ls hl => ?_)
          refine lv_goto (tgt := 21) cx.x cx.b d_Ln_copyName_133 (by decide) ?_
          rw [nI_1] at e_x119
          subst e_x119
          rw [cnF_some hcn] at hj
          exact ih _ (i + 1) _ _ _ hlo (by omega) ⟨by omega, by omega⟩ q1 (hch.tr q2) (q3.trans hsz) (by rw [show we - (i + 1) = n9 by omega]; exact hj) _ (lv_sub hl [0, 4, 5, 6, 7] rfl)
    refine lv_iload_n cx.x cx.b d_Ln_copyName_0 rfl (lv_at hl 2 rfl) ?_
    refine lv_iconst (v := 1) cx.x cx.b d_Ln_copyName_1 (by decide) ?_
    refine lv_icmp_ne (tgt := 9) cx.x cx.b d_Ln_copyName_2 (by decide) (fun _ => ?_) (fun c => absurd ((nI_eq (a := fm) (b := 1) (by omega) (by omega)).mp c) hf1)
    refine lv_iconst (v := 0) cx.x cx.b d_Ln_copyName_9 (by decide) ?_
    refine lv_istore_n (lv' := [(3, .int 0), (0, .ref a), (1, .ref b), (2, .int (nI fm))]) cx.x cx.b d_Ln_copyName_10 rfl hl (by decide) rfl (fun ls hl => ?_)
    refine lv_aload_n cx.x cx.b d_Ln_copyName_11 rfl (lv_at hl 2 rfl) ?_
    refine hx_callv (iv_Ln_54_Rw cx (c_Rw_empty l hE hb) hb.1 rfl hl.1 rfl (Nat.le_of_ble_eq_true rfl) d_Ln_copyName_12 ⟨Nat.le_of_ble_eq_true rfl, Nat.le_of_ble_eq_true rfl⟩ ⟨Nat.le_of_ble_eq_true rfl, Nat.le_of_ble_eq_true rfl⟩) hlo (fun _ h => h) (fun H121 locs hp120 hlo => ?_)
    obtain ⟨q1, q2, q3⟩ := hp120
    have hln2 : Ln E H121 a tr st en ws we := h.ch q2 (fun q => by rcases q with e | e; exact d1 e; exact d2 e)
    refine lv_aload_n cx.x cx.b d_Ln_copyName_15 rfl (lv_at hl 1 rfl) ?_
    refine gf_Ln_37_Ln cx hln2.1 rfl d_Ln_copyName_16 ?_
    refine lv_istore (lv' := [(4, .int (nI ws)), (3, .int 0), (0, .ref a), (1, .ref b), (2, .int (nI fm))]) cx.x cx.b d_Ln_copyName_19 hl (by decide) rfl (fun ls hl => ?_)
    exact LP (we + 1) _ ws _ _ _ hlo (by omega) ⟨Nat.le_refl _, h1⟩ q1 q2 q3 (by rw [hL9]) _ (lv_sub hl [0, 1, 2, 3, 4] rfl)
