/-- the lines of members, the whole canonical form -/
def memL (fm : Nat) (ms : List EL) : List Nat := ms.flatMap (fun d => lineD true fm d.2.2)
def typL (fm : Nat) (us : List TV) : List Nat := us.flatMap (fun t => lineD false fm t.1.2.2 ++ memL fm t.2.2.1)
def formL (fm : Nat) (us : List TV) : List Nat := strL 15 ++ ((48 + fm) :: 10 :: typL fm us)
/-- kinds as the document has them -/
def KOk (us : List TV) : Prop := ∀ t ∈ us, t.1.2.2.2.2.1 < 4 ∧ ∀ d ∈ t.2.2.1, d.2.2.2.2.1 < 2
def sameD (x y : DV) : Bool := decide (x.2.2.2 = y.2.2.2 ∧ cmpD x y = 0)
/-- how many members are the same, one by one -/
def smM : List EL → List EL → Nat
  | d :: r, e :: s => if sameD d.2.2 e.2.2 then smM r s + 1 else 0
  | _, _ => 0
def fdT : Nat → List TV → List TV → Nat
  | _, [], [] => 0
  | n, t :: r, u :: s => if sameD t.1.2.2 u.1.2.2 then (if smM t.2.2.1 u.2.2.1 < max t.2.2.1.length u.2.2.1.length then n + (1 + smM t.2.2.1 u.2.2.1) else fdT (n + (1 + smM t.2.2.1 u.2.2.1)) r s) else n
  | n, _, _ => n
def freeD (x : DV) : Bool := decide (36 ∉ x.1 ∧ 36 ∉ x.2.1)
/-- whether the line stands there -/
def slE (sf : Bool) (x : DV) (o : Option DV) : Bool := match o with
  | none => false
  | some y => sameD x y && (sf || freeD x)
def mmL (sf : Bool) (oms : List EL) (ms : List EL) : Nat := match ms with
  | [] => 0
  | d :: r => (if slE sf d.2.2 ((alk d.2.2 oms).map (·.2.2)) then 0 else 1) + mmL sf oms r
def lmT (sf : Bool) (os : List TV) (us : List TV) : Nat := match us with
  | [] => 0
  | t :: r => (if slE sf t.1.2.2 ((nmd t.1.2.2.1 os).map (·.1.2.2)) then 0 else 1) + (match nmd t.1.2.2.1 os with | none => t.2.2.1.length | some u => mmL sf u.2.2.1 t.2.2.1) + lmT sf os r
theorem smM_le : ∀ (xs ys : List EL), smM xs ys ≤ xs.length ∧ smM xs ys ≤ ys.length
  | [], ys => by unfold smM; exact ⟨Nat.le_refl _, Nat.zero_le _⟩
  | _ :: _, [] => by unfold smM; exact ⟨Nat.zero_le _, Nat.le_refl _⟩
  | d :: r, e :: s => by
    unfold smM
    by_cases c : sameD d.2.2 e.2.2 = true
    · rw [if_pos c, List.length_cons, List.length_cons]; have := smM_le r s; omega
    · rw [if_neg c]; exact ⟨Nat.zero_le _, Nat.zero_le _⟩
theorem mmL_le (sf : Bool) (oms : List EL) : ∀ ms : List EL, mmL sf oms ms ≤ ms.length
  | [] => Nat.le_refl _
  | d :: r => by
    unfold mmL
    have := mmL_le sf oms r
    rw [List.length_cons]
    by_cases c : slE sf d.2.2 ((alk d.2.2 oms).map (·.2.2)) = true
    · rw [if_pos c]; omega
    · rw [if_neg c]; omega
theorem alk_mem {x : DV} : ∀ {ds : List EL} {e : EL}, alk x ds = some e → e ∈ ds
  | [], e, h => by cases h
  | d :: r, e, h => by
    unfold alk at h
    by_cases c : cmpD d.2.2 x = 0
    · rw [if_pos c] at h; cases h; exact List.mem_cons_self
    · rw [if_neg c] at h; exact List.mem_cons_of_mem _ (alk_mem h)
theorem nmd_mem {x : List Nat} : ∀ {us : List TV} {t : TV}, nmd x us = some t → t ∈ us
  | [], e, h => by cases h
  | d :: r, e, h => by
    unfold nmd at h
    by_cases c : cmpL d.1.2.2.1 x = 0
    · rw [if_pos c] at h; cases h; exact List.mem_cons_self
    · rw [if_neg c] at h; exact List.mem_cons_of_mem _ (nmd_mem h)
theorem memL_drop {fm i : Nat} {ms : List EL} (h : i < ms.length) : memL fm (ms.drop i) = lineD true fm (ms.getD i default).2.2 ++ memL fm (ms.drop (i + 1)) := by rw [drop_consE h]; rfl
theorem typL_drop {fm i : Nat} {us : List TV} (h : i < us.length) : typL fm (us.drop i) = (lineD false fm (us.getD i default).1.2.2 ++ memL fm (us.getD i default).2.2.1) ++ typL fm (us.drop (i + 1)) := by rw [drop_consT h]; rfl
set_option maxHeartbeats 4000000 in
set_option maxRecDepth 100000 in
theorem c_Bl_addMemberLines (l : Launch) {E : hE} (hE : EnvOk E) (hS : EnvS E) {H : Heap} (hO : Old E H) {bl fm y : Nat} (hb : hOb (eD E) classes H bl 5 [.ref y, .int (nI fm)]) (hfm : fm < 10) {sa : SA} {us sp : List EL} (hm : MSh E H sa us sp) (hk : ∀ d ∈ us, d.2.2.2.2.1 < 2) {b brr cap : Nat} {xs : List Nat} {o : Bool} (hr0 : Rw E H b brr cap xs o) (hap : ∀ q, rS b brr q → q ≠ bl ∧ q ∉ fpM E sa us sp) : Ct l E y_Bl_addMemberLines b_Bl_addMemberLines 5 none (rmA 6 0 0) [.ref bl, .ref b, .ref sa.1] H (hQv (fun H1 => Rw E H1 b brr cap ((memL fm us).foldl (addR cap) (xs, o)).1 ((memL fm us).foldl (addR cap) (xs, o)).2 ∧ hCh (rS b brr) H H1 ∧ H1.size = H.size)) := by
  refine hx_enter hE (by decide) (Nat.le_of_ble_eq_true rfl) ?_
  intro p e s m args below meth c ls cx hnm hl
  have hl : lv_has ls 5 [(0, .ref bl), (1, .ref b), (2, .ref sa.1)] := hl
  have hlo : hLo (eB E) [] := hLo.nil
  generalize hQ : MQ below _ args s _ _ _ = Q
  have hlo0 := rS.lo hr0
  have hlen := hm.2.2.2
  have LP : ∀ (k : Nat) (locs : List Loc) (i : Nat) (xs1 : List Nat) (o1 : Bool) (H2 : Heap), hLo (eB E) locs → (us.length - i < k) → (i ≤ us.length) → (Rw E H2 b brr cap xs1 o1) → (hCh (rS b brr) H H2) → (H2.size = H.size) → ((memL fm (us.drop i)).foldl (addR cap) (xs1, o1) = (memL fm us).foldl (addR cap) (xs, o)) → ∀ ls, lv_has ls 5 [(3, .int (nI i)), (0, .ref bl), (1, .ref b), (2, .ref sa.1)] → W p l e (rmA 6 0 0) s m args below meth c H2 locs 0 0 Q (F0 m 2 ls []) := by
    intro k
    induction k with
    | zero => intro locs i xs1 o1 H2 hlo hk1 hi hr hch hsz hj; exact absurd hk1 (by omega)
    | succ k ih =>
      intro locs i xs1 o1 H2 hlo hk1 hi hr hch hsz hj ls hl
      have hO2 : Old E H2 := hO.ch hch hlo0
      have hb2 := hb.ch hch (fun q => (hap _ q).1 rfl)
      have hm2 := hm.ch hch (fun q hq h => (hap q h).2 hq)
      refine lv_iload_n cx.x cx.b d_Bl_addMemberLines_2 rfl (lv_at hl 0 rfl) ?_
      refine lv_aload_n cx.x cx.b d_Bl_addMemberLines_3 rfl (lv_at hl 3 rfl) ?_
      refine hx_calli (iv_Bl_27_Sf cx (c_Sf_count l hE hm2.1) hm2.1.1 rfl hl.1 rfl (Nat.le_of_ble_eq_true rfl) d_Bl_addMemberLines_4 ⟨Nat.le_of_ble_eq_true rfl, Nat.le_of_ble_eq_true rfl⟩ ⟨Nat.le_of_ble_eq_true rfl, Nat.le_of_ble_eq_true rfl⟩) hlo (fun _ h => h) (fun r68 H67 locs hp66 hlo => ?_)
      obtain ⟨hp66, hH9⟩ := hp66
      have hH9 := hH9.symm
      subst hH9
      subst hp66
      refine lv_icmp_ge (tgt := 39) cx.x cx.b d_Bl_addMemberLines_7 (by decide) (fun c1 => ?_) (fun c1 => ?_)
      · have c1 : us.length ≤ i := (nI_leI (a := us.length) (b := i) (by omega) (by omega)).mp c1
        rw [List.drop_eq_nil_of_le c1] at hj
        have hj : (xs1, o1) = (memL fm us).foldl (addR cap) (xs, o) := hj
        rw [← hj] at hQ
        rw [← hQ]
        exact hx_retv cx.x cx.b cx.r cx.k hlo (fun _ h => h) (Nat.le_of_ble_eq_true rfl) (Nat.le_of_ble_eq_true rfl) d_Bl_addMemberLines_39 (⟨hr, hch, hsz⟩)
      · have c1 : i < us.length := Nat.not_le.mp (fun zz => c1 ((nI_leI (a := us.length) (b := i) (by omega) (by omega)).mpr zz))
        rw [memL_drop c1, List.foldl_append] at hj
        refine lv_aload_n cx.x cx.b d_Bl_addMemberLines_10 rfl (lv_at hl 3 rfl) ?_
        refine lv_iload_n cx.x cx.b d_Bl_addMemberLines_11 rfl (lv_at hl 0 rfl) ?_
        refine hx_callr (iv_Bl_31_Sf cx (c_Sf_get l hE hm2.1 hm2.sfd (nI i)) hm2.1.1 rfl hl.1 rfl (Nat.le_of_ble_eq_true rfl) d_Bl_addMemberLines_12 ⟨Nat.le_of_ble_eq_true rfl, Nat.le_of_ble_eq_true rfl⟩ ⟨Nat.le_of_ble_eq_true rfl, Nat.le_of_ble_eq_true rfl⟩) hlo (fun _ h => h) (fun r71 H70 locs hp69 hlo => ?_)
        obtain ⟨hp69, hH9⟩ := hp69
        have hH9 := hH9.symm
        subst hH9
        rw [nI_toInt (by omega), if_pos ⟨by omega, by omega⟩, show (i : Int).toNat = i from rfl] at hp69
        subst hp69
        have hdeus := hm2.sfd.1 _ (getD_memE (ds := us) (i := i) (by omega))
        show W p l e _ s m args below meth c H2 locs _ _ _ (F0 m 15 ls [.ref (adr (us.getD i default))])
        refine lv_astore (lv' := [(4, .ref (adr (us.getD i default))), (3, .int (nI i)), (0, .ref bl), (1, .ref b), (2, .ref sa.1)]) cx.x cx.b d_Bl_addMemberLines_15 hl (by decide) rfl (fun ls hl => ?_)
        refine lv_aload cx.x cx.b d_Bl_addMemberLines_17 (lv_at hl 0 rfl) ?_
        refine lv_ifnull cx.x cx.b d_Bl_addMemberLines_19 ?_
        refine lv_aload cx.x cx.b d_Bl_addMemberLines_22 (lv_at hl 0 rfl) ?_
        refine lv_aload_n cx.x cx.b d_Bl_addMemberLines_24 rfl (lv_at hl 3 rfl) ?_
        refine lv_iconst (v := 1) cx.x cx.b d_Bl_addMemberLines_25 (by decide) ?_
        refine lv_aload_n cx.x cx.b d_Bl_addMemberLines_26 rfl (lv_at hl 2 rfl) ?_
        refine gf_Bl_20_Bl cx hb2 rfl d_Bl_addMemberLines_27 ?_
        refine hx_callv (ivd_Bl_79 cx (c_Dc_addLine l hE hS hO2 hdeus hr (fun q hq h => (hap q h).2 (List.mem_append_right _ (fpDs_mem.mpr ⟨_, List.mem_append_left _ (getD_memE c1), hq⟩))) true hfm (hk _ (getD_memE c1))) hdeus.1 rfl hl.1 rfl (Nat.le_of_ble_eq_true rfl) d_Bl_addMemberLines_30 ⟨Nat.le_of_ble_eq_true rfl, Nat.le_of_ble_eq_true rfl⟩ ⟨Nat.le_of_ble_eq_true rfl, Nat.le_of_ble_eq_true rfl⟩) hlo (fun _ h => h) (fun H73 locs hp72 hlo => ?_)
        obtain ⟨q1, q2, q3⟩ := hp72
        obtain ⟨x74, e_x74⟩ : ∃ y : Int32, y = nI i + 1 := ⟨_, rfl⟩
        refine lv_iinc (v := x74) (lv' := [(3, .int x74), (4, .ref (adr (us.getD i default))), (0, .ref bl), (1, .ref b), (2, .ref sa.1)]) cx.x cx.b d_Bl_addMemberLines_33 hl (k := 1) rfl (by rw [e_x74]; rfl) (by decide) rfl (fun ls hl => ?_)
        refine lv_goto (tgt := 2) cx.x cx.b d_Bl_addMemberLines_36 (by decide) ?_
        rw [nI_1] at e_x74
        subst e_x74
        exact ih _ (i + 1) _ _ _ hlo (by omega) (by omega) q1 (hch.tr q2) (q3.trans hsz) hj _ (lv_sub hl [0, 2, 3, 4] rfl)
  refine lv_iconst (v := 0) cx.x cx.b d_Bl_addMemberLines_0 (by decide) ?_
  refine lv_istore_n (lv' := [(3, .int 0), (0, .ref bl), (1, .ref b), (2, .ref sa.1)]) cx.x cx.b d_Bl_addMemberLines_1 rfl hl (by decide) rfl (fun ls hl => ?_)
  exact LP (us.length + 1) _ 0 _ _ _ hlo (by omega) (Nat.zero_le _) hr0 hCh.rf rfl (by rw [List.drop_zero]) _ hl

set_option maxHeartbeats 4000000 in
set_option maxRecDepth 100000 in
theorem c_Bl_addForm (l : Launch) {E : hE} (hE : EnvOk E) (hS : EnvS E) {H : Heap} {bl fm : Nat} {sa : SA} {us sp : List TV} (h : Bs E H bl fm sa us sp) (hO : Old E H) (hk : KOk us) {b brr cap : Nat} {xs : List Nat} {o : Bool} (hr0 : Rw E H b brr cap xs o) (hap : ∀ q, rS b brr q → q ∉ fpB E bl sa us sp) : Ct l E y_Bl_addForm b_Bl_addForm 4 none (rmA 7 0 0) [.ref bl, .ref b] H (hQv (fun H1 => Rw E H1 b brr cap ((formL fm us).foldl (addR cap) (xs, o)).1 ((formL fm us).foldl (addR cap) (xs, o)).2 ∧ hCh (rS b brr) H H1 ∧ H1.size = H.size)) := by
  refine hx_enter hE (by decide) (Nat.le_of_ble_eq_true rfl) ?_
  intro p e s m args below meth c ls cx hnm hl
  have hl : lv_has ls 4 [(0, .ref bl), (1, .ref b)] := hl
  have hlo : hLo (eB E) [] := hLo.nil
  generalize hQ : MQ below _ args s _ _ _ = Q
  have hlo0 := rS.lo hr0
  have hlen := h.2.2.2.1.2.2.2
  have hfm := h.2.2.1
  obtain ⟨G, hG⟩ : ∃ G, (formL fm us).foldl (addR cap) (xs, o) = G := ⟨_, rfl⟩
  rw [hG] at hQ
  have LP : ∀ (k : Nat) (locs : List Loc) (i : Nat) (xs1 : List Nat) (o1 : Bool) (H2 : Heap), hLo (eB E) locs → (us.length - i < k) → (i ≤ us.length) → (Rw E H2 b brr cap xs1 o1) → (hCh (rS b brr) H H2) → (H2.size = H.size) → ((typL fm (us.drop i)).foldl (addR cap) (xs1, o1) = G) → ∀ ls, lv_has ls 4 [(2, .int (nI i)), (0, .ref bl), (1, .ref b)] → W p l e (rmA 7 0 0) s m args below meth c H2 locs 0 0 Q (F0 m 25 ls []) := by
    intro k
    induction k with
    | zero => intro locs i xs1 o1 H2 hlo hk1 hi hr hch hsz hj; exact absurd hk1 (by omega)
    | succ k ih =>
      intro locs i xs1 o1 H2 hlo hk1 hi hr hch hsz hj ls hl
      have hO2 : Old E H2 := hO.ch hch hlo0
      have h2 := h.ch hch (fun q hq h => hap q h hq)
      have hT := h2.2.2.2.1
      refine lv_iload_n cx.x cx.b d_Bl_addForm_25 rfl (lv_at hl 0 rfl) ?_
      refine lv_aload_n cx.x cx.b d_Bl_addForm_26 rfl (lv_at hl 1 rfl) ?_
      refine gf_Bl_14_Bl cx h2.1 rfl d_Bl_addForm_27 ?_
      refine hx_calli (iv_Bl_27_Sf cx (c_Sf_count l hE hT.1) hT.1.1 rfl hl.1 rfl (Nat.le_of_ble_eq_true rfl) d_Bl_addForm_30 ⟨Nat.le_of_ble_eq_true rfl, Nat.le_of_ble_eq_true rfl⟩ ⟨Nat.le_of_ble_eq_true rfl, Nat.le_of_ble_eq_true rfl⟩) hlo (fun _ h => h) (fun r77 H76 locs hp75 hlo => ?_)
      obtain ⟨hp75, hH9⟩ := hp75
      have hH9 := hH9.symm
      subst hH9
      subst hp75
      rw [List.length_map]
      refine lv_icmp_ge (tgt := 77) cx.x cx.b d_Bl_addForm_33 (by decide) (fun c1 => ?_) (fun c1 => ?_)
      · have c1 : us.length ≤ i := (nI_leI (a := us.length) (b := i) (by omega) (by omega)).mp c1
        rw [List.drop_eq_nil_of_le c1] at hj
        have hj : (xs1, o1) = G := hj
        rw [← hj] at hQ
        rw [← hQ]
        exact hx_retv cx.x cx.b cx.r cx.k hlo (fun _ h => h) (Nat.le_of_ble_eq_true rfl) (Nat.le_of_ble_eq_true rfl) d_Bl_addForm_77 (⟨hr, hch, hsz⟩)
      · have c1 : i < us.length := Nat.not_le.mp (fun zz => c1 ((nI_leI (a := us.length) (b := i) (by omega) (by omega)).mpr zz))
        rw [typL_drop c1, List.foldl_append, List.foldl_append] at hj
        refine lv_aload_n cx.x cx.b d_Bl_addForm_36 rfl (lv_at hl 1 rfl) ?_
        refine gf_Bl_14_Bl cx h2.1 rfl d_Bl_addForm_37 ?_
        refine lv_iload_n cx.x cx.b d_Bl_addForm_40 rfl (lv_at hl 0 rfl) ?_
        refine hx_callr (iv_Bl_31_Sf cx (c_Sf_get l hE hT.1 hT.sfd (nI i)) hT.1.1 rfl hl.1 rfl (Nat.le_of_ble_eq_true rfl) d_Bl_addForm_41 ⟨Nat.le_of_ble_eq_true rfl, Nat.le_of_ble_eq_true rfl⟩ ⟨Nat.le_of_ble_eq_true rfl, Nat.le_of_ble_eq_true rfl⟩) hlo (fun _ h => h) (fun r80 H79 locs hp78 hlo => ?_)
        obtain ⟨hp78, hH9⟩ := hp78
        have hH9 := hH9.symm
        subst hH9
        rw [nI_toInt (by omega), if_pos ⟨by omega, by rw [List.length_map]; omega⟩, show (i : Int).toNat = i from rfl, getD_mapT (by omega)] at hp78
        subst hp78
        have htyus := hT.2.1 _ (List.mem_append_left _ (getD_memT (us := us) (i := i) (by omega)))
        refine hx_castT cx tw_630 (htyus.ob) d_Bl_addForm_44 ?_
        show W p l e _ s m args below meth c H2 locs _ _ _ (F0 m 47 ls [.ref ((us.getD i default).1.1.1)])
        have hmu := getD_memT c1
        have hkt := hk _ hmu
        have hsub : ∀ q ∈ fpT E (us.getD i default), q ∈ fpB E bl sa us sp := fun q hq => List.mem_cons_of_mem _ (List.mem_append_right _ (fpTs_mem.mpr ⟨_, List.mem_append_left _ hmu, hq⟩))
        refine lv_astore_n (lv' := [(3, .ref ((us.getD i default).1.1.1)), (2, .int (nI i)), (0, .ref bl), (1, .ref b)]) cx.x cx.b d_Bl_addForm_47 rfl hl (by decide) rfl (fun ls hl => ?_)
        refine lv_aload_n cx.x cx.b d_Bl_addForm_48 rfl (lv_at hl 0 rfl) ?_
        refine lv_ifnull cx.x cx.b d_Bl_addForm_49 ?_
        refine lv_aload_n cx.x cx.b d_Bl_addForm_52 rfl (lv_at hl 0 rfl) ?_
        refine lv_aload_n cx.x cx.b d_Bl_addForm_53 rfl (lv_at hl 3 rfl) ?_
        refine lv_iconst (v := 0) cx.x cx.b d_Bl_addForm_54 (by decide) ?_
        refine lv_aload_n cx.x cx.b d_Bl_addForm_55 rfl (lv_at hl 2 rfl) ?_
        refine gf_Bl_20_Bl cx h2.1 rfl d_Bl_addForm_56 ?_
        refine hx_callv (iv_Bl_71_Tp cx (c_Dc_addLine l hE hS hO2 htyus.1 hr (fun q hq h => hap q h (hsub q (List.mem_append_left _ (fpD_dc.mpr hq)))) false (by omega) hkt.1) htyus.ob rfl hl.1 rfl (Nat.le_of_ble_eq_true rfl) d_Bl_addForm_59 ⟨Nat.le_of_ble_eq_true rfl, Nat.le_of_ble_eq_true rfl⟩ ⟨Nat.le_of_ble_eq_true rfl, Nat.le_of_ble_eq_true rfl⟩) hlo (fun _ h => h) (fun H82 locs hp81 hlo => ?_)
        obtain ⟨q1, q2, q3⟩ := hp81
        have hr := q1
        have hch := hch.tr q2
        have hsz := q3.trans hsz
        have hO2 : Old E H82 := hO.ch hch hlo0
        have h2 := h.ch hch (fun q hq h => hap q h hq)
        have hT := h2.2.2.2.1
        have hty9 := hT.2.1 _ (List.mem_append_left _ hmu)
        refine lv_aload_n cx.x cx.b d_Bl_addForm_62 rfl (lv_at hl 2 rfl) ?_
        refine lv_aload_n cx.x cx.b d_Bl_addForm_63 rfl (lv_at hl 3 rfl) ?_
        refine lv_aload_n cx.x cx.b d_Bl_addForm_64 rfl (lv_at hl 0 rfl) ?_
        refine gf_Bl_56_Tp cx hty9.ob rfl d_Bl_addForm_65 ?_
        refine hx_callv (iv_Bl_75_Bl cx (c_Bl_addMemberLines l hE hS hO2 h2.1 (by omega) hty9.2.2.1 hkt.2 hr (fun q hq => ⟨fun e => hap q hq (by rw [e]; exact List.mem_cons_self), fun e => hap q hq (hsub q (List.mem_append_right _ e))⟩)) h2.1 rfl hl.1 rfl (Nat.le_of_ble_eq_true rfl) d_Bl_addForm_68 ⟨Nat.le_of_ble_eq_true rfl, Nat.le_of_ble_eq_true rfl⟩ ⟨Nat.le_of_ble_eq_true rfl, Nat.le_of_ble_eq_true rfl⟩) hlo (fun _ h => h) (fun H84 locs hp83 hlo => ?_)
        obtain ⟨q1, q2, q3⟩ := hp83
        obtain ⟨x85, e_x85⟩ : ∃ y : Int32, y = nI i + 1 := ⟨_, rfl⟩
        refine lv_iinc (v := x85) (lv' := [(2, .int x85), (3, .ref ((us.getD i default).1.1.1)), (0, .ref bl), (1, .ref b)]) cx.x cx.b d_Bl_addForm_71 hl (k := 1) rfl (by rw [e_x85]; rfl) (by decide) rfl (fun ls hl => ?_)
        refine lv_goto (tgt := 25) cx.x cx.b d_Bl_addForm_74 (by decide) ?_
        rw [nI_1] at e_x85
        subst e_x85
        exact ih _ (i + 1) _ _ _ hlo (by omega) (by omega) q1 (hch.tr q2) (q3.trans hsz) hj _ (lv_sub hl [0, 2, 3] rfl)
  have hr := hr0
  have hch : hCh (rS b brr) H H := hCh.rf
  have hsz : H.size = H.size := rfl
  have hO2 : Old E H := hO.ch hch hlo0
  have h2 := h.ch hch (fun q hq h => hap q h hq)
  have hT := h2.2.2.2.1
  unfold formL at hG
  rw [List.foldl_append, List.foldl_cons, List.foldl_cons] at hG
  refine lv_aload_n cx.x cx.b d_Bl_addForm_0 rfl (lv_at hl 1 rfl) ?_
  refine va_ldcS cx.x cx.b cx.o (cx.X.2.2.2.2.2.1 ("BaselineText$Baseline", 62, "#sig ", 15) (List.mem_of_getElem? (i := 15) rfl)) d_Bl_addForm_1 ?_
  refine hx_callv (iv_Bl_64_Rw cx (c_Rw_addWord l hE hS hO2 (i := 15) (by omega) hr) hr.1 rfl hl.1 rfl (Nat.le_of_ble_eq_true rfl) d_Bl_addForm_3 ⟨Nat.le_of_ble_eq_true rfl, Nat.le_of_ble_eq_true rfl⟩ ⟨Nat.le_of_ble_eq_true rfl, Nat.le_of_ble_eq_true rfl⟩) hlo (fun _ h => h) (fun H87 locs hp86 hlo => ?_)
  obtain ⟨q1, q2, q3⟩ := hp86
  have hr := q1
  have hch := hch.tr q2
  have hsz := q3.trans hsz
  have hO2 : Old E H87 := hO.ch hch hlo0
  have h2 := h.ch hch (fun q hq h => hap q h hq)
  have hT := h2.2.2.2.1
  refine lv_aload_n cx.x cx.b d_Bl_addForm_6 rfl (lv_at hl 1 rfl) ?_
  refine lv_bipush (v := 48) cx.x cx.b d_Bl_addForm_7 (by decide) ?_
  refine lv_aload_n cx.x cx.b d_Bl_addForm_9 rfl (lv_at hl 0 rfl) ?_
  refine gf_Bl_20_Bl cx h2.1 rfl d_Bl_addForm_10 ?_
  refine lv_iadd cx.x cx.b d_Bl_addForm_13 ?_
  refine lv_topi (fun x88 e_x88 => ?_)
  have e_x88 : x88 = nI (48 + fm) := e_x88.trans (by rw [show (48 : Int32) = nI 48 from rfl, nI_add])
  subst e_x88
  refine hx_callv (iv_Bl_68_Rw cx (c_Rw_add l hE hr (x := 48 + fm) (by omega)) hr.1 rfl hl.1 rfl (Nat.le_of_ble_eq_true rfl) d_Bl_addForm_14 ⟨Nat.le_of_ble_eq_true rfl, Nat.le_of_ble_eq_true rfl⟩ ⟨Nat.le_of_ble_eq_true rfl, Nat.le_of_ble_eq_true rfl⟩) hlo (fun _ h => h) (fun H90 locs hp89 hlo => ?_)
  obtain ⟨q1, q2, q3⟩ := hp89
  have hr := q1
  have hch := hch.tr q2
  have hsz := q3.trans hsz
  have hO2 : Old E H90 := hO.ch hch hlo0
  have h2 := h.ch hch (fun q hq h => hap q h hq)
  have hT := h2.2.2.2.1
  refine lv_aload_n cx.x cx.b d_Bl_addForm_17 rfl (lv_at hl 1 rfl) ?_
  refine lv_bipush (v := 10) cx.x cx.b d_Bl_addForm_18 (by decide) ?_
  refine hx_callv (iv_Bl_68_Rw cx (c_Rw_add l hE hr (x := 10) (by omega)) hr.1 rfl hl.1 rfl (Nat.le_of_ble_eq_true rfl) d_Bl_addForm_20 ⟨Nat.le_of_ble_eq_true rfl, Nat.le_of_ble_eq_true rfl⟩ ⟨Nat.le_of_ble_eq_true rfl, Nat.le_of_ble_eq_true rfl⟩) hlo (fun _ h => h) (fun H92 locs hp91 hlo => ?_)
  obtain ⟨q1, q2, q3⟩ := hp91
  have hr := q1
  have hch := hch.tr q2
  have hsz := q3.trans hsz
  have hO2 : Old E H92 := hO.ch hch hlo0
  have h2 := h.ch hch (fun q hq h => hap q h hq)
  have hT := h2.2.2.2.1
  refine lv_iconst (v := 0) cx.x cx.b d_Bl_addForm_23 (by decide) ?_
  refine lv_istore_n (lv' := [(2, .int 0), (0, .ref bl), (1, .ref b)]) cx.x cx.b d_Bl_addForm_24 rfl hl (by decide) rfl (fun ls hl => ?_)
  exact LP (us.length + 1) _ 0 _ _ _ hlo (by omega) (Nat.zero_le _) hr hch hsz (by rw [List.drop_zero]; exact hG) _ hl

set_option maxHeartbeats 4000000 in
set_option maxRecDepth 100000 in
theorem c_Bl_sameMembers (l : Launch) {E : hE} (hE : EnvOk E) {H : Heap} {sa : SA} {us sp : List EL} (hm : MSh E H sa us sp) {sb : SA} {vs sq : List EL} (hn : MSh E H sb vs sq) : Ct l E y_Bl_sameMembers b_Bl_sameMembers 6 (some .int) (rmA 4 0 0) [.ref sa.1, .ref sb.1] H (hQi (fun r H1 => r = nI (smM us vs) ∧ H1 = H)) := by
  refine hx_enter hE (by decide) (Nat.le_of_ble_eq_true rfl) ?_
  intro p e s m args below meth c ls cx hnm hl
  have hl : lv_has ls 6 [(0, .ref sa.1), (1, .ref sb.1)] := hl
  have hlo : hLo (eB E) [] := hLo.nil
  generalize hQ : MQ below _ args s _ _ _ = Q
  have l1 := hm.2.2.2
  have l2 := hn.2.2.2
  have LP : ∀ (k : Nat) (locs : List Loc) (i : Nat), hLo (eB E) locs → (us.length - i < k) → (i ≤ us.length ∧ i ≤ vs.length) → (smM us vs = i + smM (us.drop i) (vs.drop i)) → ∀ ls, lv_has ls 6 [(3, .int (nI i)), (2, .int (nI (min us.length vs.length))), (0, .ref sa.1), (1, .ref sb.1)] → W p l e (rmA 4 0 0) s m args below meth c H locs 0 0 Q (F0 m 14 ls []) := by
    intro k
    induction k with
    | zero => intro locs i hlo hk hi hj; exact absurd hk (by omega)
    | succ k ih =>
      intro locs i hlo hk hi hj ls hl
      refine lv_iload_n cx.x cx.b d_Bl_sameMembers_14 rfl (lv_at hl 0 rfl) ?_
      refine lv_iload_n cx.x cx.b d_Bl_sameMembers_15 rfl (lv_at hl 1 rfl) ?_
      refine lv_icmp_ge (tgt := 61) cx.x cx.b d_Bl_sameMembers_16 (by decide) (fun c1 => ?_) (fun c1 => ?_)
      · have c1 : (min us.length vs.length) ≤ i := (nI_leI (a := (min us.length vs.length)) (b := i) (by omega) (by omega)).mp c1
        have h0 : smM (us.drop i) (vs.drop i) = 0 := by have := smM_le (us.drop i) (vs.drop i); rw [List.length_drop, List.length_drop] at this; omega
        refine lv_iload_n cx.x cx.b d_Bl_sameMembers_61 rfl (lv_at hl 1 rfl) ?_
        rw [← hQ]
        exact hx_reti cx.x cx.b cx.r cx.k rfl hlo (fun _ h => h) (Nat.le_of_ble_eq_true rfl) (Nat.le_of_ble_eq_true rfl) d_Bl_sameMembers_62 (⟨by rw [hj, h0]; congr 1; omega, rfl⟩)
      · have c1 : i < (min us.length vs.length) := Nat.not_le.mp (fun zz => c1 ((nI_leI (a := (min us.length vs.length)) (b := i) (by omega) (by omega)).mpr zz))
        have c1a : i < us.length := by omega
        have c1b : i < vs.length := by omega
        rw [drop_consE c1a, drop_consE c1b] at hj
        refine lv_aload_n cx.x cx.b d_Bl_sameMembers_19 rfl (lv_at hl 2 rfl) ?_
        refine lv_iload_n cx.x cx.b d_Bl_sameMembers_20 rfl (lv_at hl 0 rfl) ?_
        refine hx_callr (iv_Bl_31_Sf cx (c_Sf_get l hE hm.1 hm.sfd (nI i)) hm.1.1 rfl hl.1 rfl (Nat.le_of_ble_eq_true rfl) d_Bl_sameMembers_21 ⟨Nat.le_of_ble_eq_true rfl, Nat.le_of_ble_eq_true rfl⟩ ⟨Nat.le_of_ble_eq_true rfl, Nat.le_of_ble_eq_true rfl⟩) hlo (fun _ h => h) (fun r95 H94 locs hp93 hlo => ?_)
        obtain ⟨hp93, hH9⟩ := hp93
        have hH9 := hH9.symm
        subst hH9
        rw [nI_toInt (by omega), if_pos ⟨by omega, by omega⟩, show (i : Int).toNat = i from rfl] at hp93
        subst hp93
        have hdeus := hm.sfd.1 _ (getD_memE (ds := us) (i := i) (by omega))
        show W p l e _ s m args below meth c H locs _ _ _ (F0 m 24 ls [.ref (adr (us.getD i default))])
        refine lv_astore (lv' := [(4, .ref (adr (us.getD i default))), (3, .int (nI i)), (2, .int (nI (min us.length vs.length))), (0, .ref sa.1), (1, .ref sb.1)]) cx.x cx.b d_Bl_sameMembers_24 hl (by decide) rfl (fun ls hl => ?_)
        refine lv_aload_n cx.x cx.b d_Bl_sameMembers_26 rfl (lv_at hl 4 rfl) ?_
        refine lv_iload_n cx.x cx.b d_Bl_sameMembers_27 rfl (lv_at hl 1 rfl) ?_
        refine hx_callr (iv_Bl_31_Sf cx (c_Sf_get l hE hn.1 hn.sfd (nI i)) hn.1.1 rfl hl.1 rfl (Nat.le_of_ble_eq_true rfl) d_Bl_sameMembers_28 ⟨Nat.le_of_ble_eq_true rfl, Nat.le_of_ble_eq_true rfl⟩ ⟨Nat.le_of_ble_eq_true rfl, Nat.le_of_ble_eq_true rfl⟩) hlo (fun _ h => h) (fun r98 H97 locs hp96 hlo => ?_)
        obtain ⟨hp96, hH9⟩ := hp96
        have hH9 := hH9.symm
        subst hH9
        rw [nI_toInt (by omega), if_pos ⟨by omega, by omega⟩, show (i : Int).toNat = i from rfl] at hp96
        subst hp96
        have hdevs := hn.sfd.1 _ (getD_memE (ds := vs) (i := i) (by omega))
        show W p l e _ s m args below meth c H locs _ _ _ (F0 m 31 ls [.ref (adr (vs.getD i default))])
        have hj : smM us vs = i + (if sameD (us.getD i default).2.2 (vs.getD i default).2.2 then smM (us.drop (i + 1)) (vs.drop (i + 1)) + 1 else 0) := hj
        refine lv_astore (lv' := [(5, .ref (adr (vs.getD i default))), (4, .ref (adr (us.getD i default))), (3, .int (nI i)), (2, .int (nI (min us.length vs.length))), (0, .ref sa.1), (1, .ref sb.1)]) cx.x cx.b d_Bl_sameMembers_31 hl (by decide) rfl (fun ls hl => ?_)
        refine lv_aload cx.x cx.b d_Bl_sameMembers_33 (lv_at hl 1 rfl) ?_
        refine lv_ifnull cx.x cx.b d_Bl_sameMembers_35 ?_
        refine lv_aload cx.x cx.b d_Bl_sameMembers_38 (lv_at hl 0 rfl) ?_
        refine lv_ifnull cx.x cx.b d_Bl_sameMembers_40 ?_
        refine lv_aload cx.x cx.b d_Bl_sameMembers_43 (lv_at hl 1 rfl) ?_
        refine lv_aload cx.x cx.b d_Bl_sameMembers_45 (lv_at hl 0 rfl) ?_
        refine hx_calli (ivd_Bl_99 cx (c_Dc_isSame l hE hdeus hdevs) hdeus.1 rfl hl.1 rfl (Nat.le_of_ble_eq_true rfl) d_Bl_sameMembers_47 ⟨Nat.le_of_ble_eq_true rfl, Nat.le_of_ble_eq_true rfl⟩ ⟨Nat.le_of_ble_eq_true rfl, Nat.le_of_ble_eq_true rfl⟩) hlo (fun _ h => h) (fun r101 H100 locs hp99 hlo => ?_)
        obtain ⟨hp99, hH9⟩ := hp99
        have hH9 := hH9.symm
        subst hH9
        have hp99 : r101 = bI (sameD (us.getD i default).2.2 (vs.getD i default).2.2) := hp99
        subst hp99
        cases hsd : sameD (us.getD i default).2.2 (vs.getD i default).2.2
        · rw [hsd, if_neg (by decide)] at hj
          refine lv_if_ne (tgt := 55) cx.x cx.b d_Bl_sameMembers_50 (by decide) (fun c => absurd (by decide) c) (fun _ => ?_)
          refine lv_iload_n cx.x cx.b d_Bl_sameMembers_53 rfl (lv_at hl 2 rfl) ?_
          rw [← hQ]
          exact hx_reti cx.x cx.b cx.r cx.k rfl hlo (fun _ h => h) (Nat.le_of_ble_eq_true rfl) (Nat.le_of_ble_eq_true rfl) d_Bl_sameMembers_54 (⟨by rw [hj, Nat.add_zero], rfl⟩)
        · rw [hsd, if_pos rfl] at hj
          refine lv_if_ne (tgt := 55) cx.x cx.b d_Bl_sameMembers_50 (by decide) (fun _ => ?_) (fun c => absurd c (by decide))
          obtain ⟨x102, e_x102⟩ : ∃ y : Int32, y = nI i + 1 := ⟨_, rfl⟩
          refine lv_iinc (v := x102) (lv' := [(3, .int x102), (5, .ref (adr (vs.getD i default))), (4, .ref (adr (us.getD i default))), (2, .int (nI (min us.length vs.length))), (0, .ref sa.1), (1, .ref sb.1)]) cx.x cx.b d_Bl_sameMembers_55 hl (k := 2) rfl (by rw [e_x102]; rfl) (by decide) rfl (fun ls hl => ?_)
          refine lv_goto (tgt := 14) cx.x cx.b d_Bl_sameMembers_58 (by decide) ?_
          rw [nI_1] at e_x102
          subst e_x102
          exact ih _ (i + 1) hlo (by omega) ⟨by omega, by omega⟩ (by omega) _ (lv_sub hl [0, 3, 4, 5] rfl)
  refine lv_aload_n cx.x cx.b d_Bl_sameMembers_0 rfl (lv_at hl 0 rfl) ?_
  refine hx_calli (iv_Bl_27_Sf cx (c_Sf_count l hE hm.1) hm.1.1 rfl hl.1 rfl (Nat.le_of_ble_eq_true rfl) d_Bl_sameMembers_1 ⟨Nat.le_of_ble_eq_true rfl, Nat.le_of_ble_eq_true rfl⟩ ⟨Nat.le_of_ble_eq_true rfl, Nat.le_of_ble_eq_true rfl⟩) hlo (fun _ h => h) (fun r105 H104 locs hp103 hlo => ?_)
  obtain ⟨hp103, hH9⟩ := hp103
  have hH9 := hH9.symm
  subst hH9
  subst hp103
  refine lv_aload_n cx.x cx.b d_Bl_sameMembers_4 rfl (lv_at hl 1 rfl) ?_
  refine hx_calli (iv_Bl_27_Sf cx (c_Sf_count l hE hn.1) hn.1.1 rfl hl.1 rfl (Nat.le_of_ble_eq_true rfl) d_Bl_sameMembers_5 ⟨Nat.le_of_ble_eq_true rfl, Nat.le_of_ble_eq_true rfl⟩ ⟨Nat.le_of_ble_eq_true rfl, Nat.le_of_ble_eq_true rfl⟩) hlo (fun _ h => h) (fun r108 H107 locs hp106 hlo => ?_)
  obtain ⟨hp106, hH9⟩ := hp106
  have hH9 := hH9.symm
  subst hH9
  subst hp106
  refine va_mmin cx.x cx.b (cx.ml.trans hl.1.symm) cx.o (cx.ts _ tw_763) (cx.ts _ tw_612) (cx.ts _ tw_22) (cx.ts _ tw_613) (Nat.le_of_ble_eq_true rfl) (Nat.le_of_ble_eq_true rfl) (Nat.le_of_ble_eq_true rfl) (Nat.le_of_ble_eq_true rfl) d_Bl_sameMembers_8 ?_
  refine lv_topi (fun x109 e_x109 => ?_)
  have e_x109 : x109 = nI (min us.length vs.length) := e_x109.trans (by by_cases c : vs.length < us.length; rw [if_pos ((nI_ltI (by omega) (by omega)).mpr c), Nat.min_eq_right (by omega)]; rw [if_neg (fun q => c ((nI_ltI (by omega) (by omega)).mp q)), Nat.min_eq_left (by omega)])
  subst e_x109
  refine lv_istore_n (lv' := [(2, .int (nI (min us.length vs.length))), (0, .ref sa.1), (1, .ref sb.1)]) cx.x cx.b d_Bl_sameMembers_11 rfl hl (by decide) rfl (fun ls hl => ?_)
  refine lv_iconst (v := 0) cx.x cx.b d_Bl_sameMembers_12 (by decide) ?_
  refine lv_istore_n (lv' := [(3, .int 0), (2, .int (nI (min us.length vs.length))), (0, .ref sa.1), (1, .ref sb.1)]) cx.x cx.b d_Bl_sameMembers_13 rfl hl (by decide) rfl (fun ls hl => ?_)
  exact LP (us.length + 1) _ 0 hlo (by omega) ⟨Nat.zero_le _, Nat.zero_le _⟩ (by rw [List.drop_zero, List.drop_zero, Nat.zero_add]) _ hl

set_option maxHeartbeats 4000000 in
set_option maxRecDepth 100000 in
theorem c_Bl_isSameLine0 (l : Launch) {E : hE} (hE : EnvOk E) {H : Heap} {ad : DA} {v : Option Nat} {dv : DV} {o1 o2 : Bool} (h : Dc E H ad v dv o1 o2) (sf : Bool) : Ct l E y_Bl_isSameLine b_Bl_isSameLine 3 (some .boolean) (rmA 3 0 0) [.ref ad.1, .null, .int (bI sf)] H (hQi (fun r H1 => r = bI (slE sf dv none) ∧ H1 = H)) := by
  refine hx_enter hE (by decide) (Nat.le_of_ble_eq_true rfl) ?_
  intro p e s m args below meth c ls cx hnm hl
  have hl : lv_has ls 3 [(0, .ref ad.1), (1, .null), (2, .int (bI sf))] := hl
  have hlo : hLo (eB E) [] := hLo.nil
  refine lv_aload_nN cx.x cx.b d_Bl_isSameLine_0 rfl (lv_at hl 1 rfl) ?_
  refine lv_ifnullN (tgt := 27) cx.x cx.b d_Bl_isSameLine_1 (by decide) ?_
  refine lv_iconst (v := 0) cx.x cx.b d_Bl_isSameLine_27 (by decide) ?_
  exact hx_reti cx.x cx.b cx.r cx.k rfl hlo (fun _ h => h) (Nat.le_of_ble_eq_true rfl) (Nat.le_of_ble_eq_true rfl) d_Bl_isSameLine_28 (⟨rfl, rfl⟩)

set_option maxHeartbeats 4000000 in
set_option maxRecDepth 100000 in
theorem c_Bl_isSameLine1 (l : Launch) {E : hE} (hE : EnvOk E) {H : Heap} {ad : DA} {v : Option Nat} {dv : DV} {o1 o2 : Bool} (h : Dc E H ad v dv o1 o2) {bd : DA} {bw : Option Nat} {dw : DV} {p1 p2 : Bool} (g : Dc E H bd bw dw p1 p2) (sf : Bool) : Ct l E y_Bl_isSameLine b_Bl_isSameLine 3 (some .boolean) (rmA 3 0 0) [.ref ad.1, .ref bd.1, .int (bI sf)] H (hQi (fun r H1 => r = bI (slE sf dv (some dw)) ∧ H1 = H)) := by
  refine hx_enter hE (by decide) (Nat.le_of_ble_eq_true rfl) ?_
  intro p e s m args below meth c ls cx hnm hl
  have hl : lv_has ls 3 [(0, .ref ad.1), (1, .ref bd.1), (2, .int (bI sf))] := hl
  have hlo : hLo (eB E) [] := hLo.nil
  refine lv_aload_n cx.x cx.b d_Bl_isSameLine_0 rfl (lv_at hl 1 rfl) ?_
  refine lv_ifnull cx.x cx.b d_Bl_isSameLine_1 ?_
  refine lv_aload_n cx.x cx.b d_Bl_isSameLine_4 rfl (lv_at hl 0 rfl) ?_
  refine lv_aload_n cx.x cx.b d_Bl_isSameLine_5 rfl (lv_at hl 1 rfl) ?_
  refine hx_calli (ivd_Bl_99 cx (c_Dc_isSame l hE h g) h.1 rfl hl.1 rfl (Nat.le_of_ble_eq_true rfl) d_Bl_isSameLine_6 ⟨Nat.le_of_ble_eq_true rfl, Nat.le_of_ble_eq_true rfl⟩ ⟨Nat.le_of_ble_eq_true rfl, Nat.le_of_ble_eq_true rfl⟩) hlo (fun _ h => h) (fun r112 H111 locs hp110 hlo => ?_)
  obtain ⟨hp110, hH9⟩ := hp110
  have hH9 := hH9.symm
  subst hH9
  have hp110 : r112 = bI (sameD dv dw) := hp110
  subst hp110
  have hsl : slE sf dv (some dw) = (sameD dv dw && (sf || freeD dv)) := rfl
  rw [hsl]
  cases sameD dv dw
  · refine lv_if_eq (tgt := 27) cx.x cx.b d_Bl_isSameLine_9 (by decide) (fun _ => ?_) (fun c => absurd (by decide) c)
    refine lv_iconst (v := 0) cx.x cx.b d_Bl_isSameLine_27 (by decide) ?_
    exact hx_reti cx.x cx.b cx.r cx.k rfl hlo (fun _ h => h) (Nat.le_of_ble_eq_true rfl) (Nat.le_of_ble_eq_true rfl) d_Bl_isSameLine_28 (⟨rfl, rfl⟩)
  · refine lv_if_eq (tgt := 27) cx.x cx.b d_Bl_isSameLine_9 (by decide) (fun c => absurd c (by decide)) (fun _ => ?_)
    cases sf
    · refine lv_iload_n cx.x cx.b d_Bl_isSameLine_12 rfl (lv_at hl 2 rfl) ?_
      refine lv_if_ne (tgt := 23) cx.x cx.b d_Bl_isSameLine_13 (by decide) (fun c => absurd (by decide) c) (fun _ => ?_)
      refine lv_aload_n cx.x cx.b d_Bl_isSameLine_16 rfl (lv_at hl 0 rfl) ?_
      refine hx_calli (ivd_Bl_116 cx (c_Dc_isFormatFree l hE h) h.1 rfl hl.1 rfl (Nat.le_of_ble_eq_true rfl) d_Bl_isSameLine_17 ⟨Nat.le_of_ble_eq_true rfl, Nat.le_of_ble_eq_true rfl⟩ ⟨Nat.le_of_ble_eq_true rfl, Nat.le_of_ble_eq_true rfl⟩) hlo (fun _ h => h) (fun r115 H114 locs hp113 hlo => ?_)
      obtain ⟨hp113, hH9⟩ := hp113
      have hH9 := hH9.symm
      subst hH9
      have hp113 : r115 = bI (freeD dv) := hp113
      subst hp113
      cases freeD dv
      · refine lv_if_eq (tgt := 27) cx.x cx.b d_Bl_isSameLine_20 (by decide) (fun _ => ?_) (fun c => absurd (by decide) c)
        refine lv_iconst (v := 0) cx.x cx.b d_Bl_isSameLine_27 (by decide) ?_
        exact hx_reti cx.x cx.b cx.r cx.k rfl hlo (fun _ h => h) (Nat.le_of_ble_eq_true rfl) (Nat.le_of_ble_eq_true rfl) d_Bl_isSameLine_28 (⟨rfl, rfl⟩)
      · refine lv_if_eq (tgt := 27) cx.x cx.b d_Bl_isSameLine_20 (by decide) (fun c => absurd c (by decide)) (fun _ => ?_)
        refine lv_iconst (v := 1) cx.x cx.b d_Bl_isSameLine_23 (by decide) ?_
        refine lv_goto (tgt := 28) cx.x cx.b d_Bl_isSameLine_24 (by decide) ?_
        exact hx_reti cx.x cx.b cx.r cx.k rfl hlo (fun _ h => h) (Nat.le_of_ble_eq_true rfl) (Nat.le_of_ble_eq_true rfl) d_Bl_isSameLine_28 (⟨rfl, rfl⟩)
    · refine lv_iload_n cx.x cx.b d_Bl_isSameLine_12 rfl (lv_at hl 2 rfl) ?_
      refine lv_if_ne (tgt := 23) cx.x cx.b d_Bl_isSameLine_13 (by decide) (fun _ => ?_) (fun c => absurd c (by decide))
      refine lv_iconst (v := 1) cx.x cx.b d_Bl_isSameLine_23 (by decide) ?_
      refine lv_goto (tgt := 28) cx.x cx.b d_Bl_isSameLine_24 (by decide) ?_
      exact hx_reti cx.x cx.b cx.r cx.k rfl hlo (fun _ h => h) (Nat.le_of_ble_eq_true rfl) (Nat.le_of_ble_eq_true rfl) d_Bl_isSameLine_28 (⟨rfl, rfl⟩)

set_option maxHeartbeats 4000000 in
set_option maxRecDepth 100000 in
theorem c_Bl_membersMissingIn0 (l : Launch) {E : hE} (hE : EnvOk E) {H : Heap} {sa : SA} {us sp : List EL} (hm : MSh E H sa us sp) (sf : Bool) : Ct l E y_Bl_membersMissingIn b_Bl_membersMissingIn 6 (some .int) (rmA 5 0 0) [.null, .ref sa.1, .int (bI sf)] H (hQi (fun r H1 => r = nI us.length ∧ H1 = H)) := by
  refine hx_enter hE (by decide) (Nat.le_of_ble_eq_true rfl) ?_
  intro p e s m args below meth c ls cx hnm hl
  have hl : lv_has ls 6 [(0, .null), (1, .ref sa.1), (2, .int (bI sf))] := hl
  have hlo : hLo (eB E) [] := hLo.nil
  refine lv_aload_nN cx.x cx.b d_Bl_membersMissingIn_0 rfl (lv_at hl 0 rfl) ?_
  refine lv_ifnonnullN cx.x cx.b d_Bl_membersMissingIn_1 ?_
  refine lv_aload_n cx.x cx.b d_Bl_membersMissingIn_4 rfl (lv_at hl 1 rfl) ?_
  refine hx_calli (iv_Bl_27_Sf cx (c_Sf_count l hE hm.1) hm.1.1 rfl hl.1 rfl (Nat.le_of_ble_eq_true rfl) d_Bl_membersMissingIn_5 ⟨Nat.le_of_ble_eq_true rfl, Nat.le_of_ble_eq_true rfl⟩ ⟨Nat.le_of_ble_eq_true rfl, Nat.le_of_ble_eq_true rfl⟩) hlo (fun _ h => h) (fun r118 H117 locs hp116 hlo => ?_)
  obtain ⟨hp116, hH9⟩ := hp116
  have hH9 := hH9.symm
  subst hH9
  subst hp116
  exact hx_reti cx.x cx.b cx.r cx.k rfl hlo (fun _ h => h) (Nat.le_of_ble_eq_true rfl) (Nat.le_of_ble_eq_true rfl) d_Bl_membersMissingIn_8 (⟨rfl, rfl⟩)

set_option maxHeartbeats 4000000 in
set_option maxRecDepth 100000 in
theorem c_Bl_membersMissingIn1 (l : Launch) {E : hE} (hE : EnvOk E) {H : Heap} {sa : SA} {us sp : List EL} (hm : MSh E H sa us sp) {t : TV} (ht : Ty E H t) (sf : Bool) : Ct l E y_Bl_membersMissingIn b_Bl_membersMissingIn 6 (some .int) (rmA 5 0 0) [.ref ((t).1.1.1), .ref sa.1, .int (bI sf)] H (hQi (fun r H1 => r = nI (mmL sf t.2.2.1 us) ∧ H1 = H)) := by
  refine hx_enter hE (by decide) (Nat.le_of_ble_eq_true rfl) ?_
  intro p e s m args below meth c ls cx hnm hl
  have hl : lv_has ls 6 [(0, .ref ((t).1.1.1)), (1, .ref sa.1), (2, .int (bI sf))] := hl
  have hlo : hLo (eB E) [] := hLo.nil
  generalize hQ : MQ below _ args s _ _ _ = Q
  have l1 := hm.2.2.2
  have LP : ∀ (k : Nat) (locs : List Loc) (i n9 : Nat), hLo (eB E) locs → (us.length - i < k) → (i ≤ us.length ∧ n9 ≤ i) → (mmL sf t.2.2.1 us = n9 + mmL sf t.2.2.1 (us.drop i)) → ∀ ls, lv_has ls 6 [(4, .int (nI i)), (3, .int (nI n9)), (0, .ref ((t).1.1.1)), (1, .ref sa.1), (2, .int (bI sf))] → W p l e (rmA 5 0 0) s m args below meth c H locs 0 0 Q (F0 m 14 ls []) := by
    intro k
    induction k with
    | zero => intro locs i n9 hlo hk hi hj; exact absurd hk (by omega)
    | succ k ih =>
      intro locs i n9 hlo hk hi hj ls hl
      refine lv_iload cx.x cx.b d_Bl_membersMissingIn_14 (lv_at hl 0 rfl) ?_
      refine lv_aload_n cx.x cx.b d_Bl_membersMissingIn_16 rfl (lv_at hl 3 rfl) ?_
      refine hx_calli (iv_Bl_27_Sf cx (c_Sf_count l hE hm.1) hm.1.1 rfl hl.1 rfl (Nat.le_of_ble_eq_true rfl) d_Bl_membersMissingIn_17 ⟨Nat.le_of_ble_eq_true rfl, Nat.le_of_ble_eq_true rfl⟩ ⟨Nat.le_of_ble_eq_true rfl, Nat.le_of_ble_eq_true rfl⟩) hlo (fun _ h => h) (fun r121 H120 locs hp119 hlo => ?_)
      obtain ⟨hp119, hH9⟩ := hp119
      have hH9 := hH9.symm
      subst hH9
      subst hp119
      refine lv_icmp_ge (tgt := 63) cx.x cx.b d_Bl_membersMissingIn_20 (by decide) (fun c1 => ?_) (fun c1 => ?_)
      · have c1 : us.length ≤ i := (nI_leI (a := us.length) (b := i) (by omega) (by omega)).mp c1
        rw [List.drop_eq_nil_of_le c1] at hj
        refine lv_iload_n cx.x cx.b d_Bl_membersMissingIn_63 rfl (lv_at hl 1 rfl) ?_
        rw [← hQ]
        exact hx_reti cx.x cx.b cx.r cx.k rfl hlo (fun _ h => h) (Nat.le_of_ble_eq_true rfl) (Nat.le_of_ble_eq_true rfl) d_Bl_membersMissingIn_64 (⟨by rw [hj]; rfl, rfl⟩)
      · have c1 : i < us.length := Nat.not_le.mp (fun zz => c1 ((nI_leI (a := us.length) (b := i) (by omega) (by omega)).mpr zz))
        rw [drop_consE c1] at hj
        refine lv_aload_n cx.x cx.b d_Bl_membersMissingIn_23 rfl (lv_at hl 3 rfl) ?_
        refine lv_iload cx.x cx.b d_Bl_membersMissingIn_24 (lv_at hl 0 rfl) ?_
        refine hx_callr (iv_Bl_31_Sf cx (c_Sf_get l hE hm.1 hm.sfd (nI i)) hm.1.1 rfl hl.1 rfl (Nat.le_of_ble_eq_true rfl) d_Bl_membersMissingIn_26 ⟨Nat.le_of_ble_eq_true rfl, Nat.le_of_ble_eq_true rfl⟩ ⟨Nat.le_of_ble_eq_true rfl, Nat.le_of_ble_eq_true rfl⟩) hlo (fun _ h => h) (fun r124 H123 locs hp122 hlo => ?_)
        obtain ⟨hp122, hH9⟩ := hp122
        have hH9 := hH9.symm
        subst hH9
        rw [nI_toInt (by omega), if_pos ⟨by omega, by omega⟩, show (i : Int).toNat = i from rfl] at hp122
        subst hp122
        have hdeus := hm.sfd.1 _ (getD_memE (ds := us) (i := i) (by omega))
        show W p l e _ s m args below meth c H locs _ _ _ (F0 m 29 ls [.ref (adr (us.getD i default))])
        have hj : mmL sf t.2.2.1 us = n9 + ((if slE sf (us.getD i default).2.2 ((alk (us.getD i default).2.2 t.2.2.1).map (·.2.2)) then 0 else 1) + mmL sf t.2.2.1 (us.drop (i + 1))) := hj
        refine lv_astore (lv' := [(5, .ref (adr (us.getD i default))), (4, .int (nI i)), (3, .int (nI n9)), (0, .ref ((t).1.1.1)), (1, .ref sa.1), (2, .int (bI sf))]) cx.x cx.b d_Bl_membersMissingIn_29 hl (by decide) rfl (fun ls hl => ?_)
        refine lv_aload cx.x cx.b d_Bl_membersMissingIn_31 (lv_at hl 0 rfl) ?_
        refine lv_ifnull cx.x cx.b d_Bl_membersMissingIn_33 ?_
        refine lv_aload cx.x cx.b d_Bl_membersMissingIn_36 (lv_at hl 0 rfl) ?_
        refine lv_aload_n cx.x cx.b d_Bl_membersMissingIn_38 rfl (lv_at hl 3 rfl) ?_
        refine gf_Bl_56_Tp cx ht.ob rfl d_Bl_membersMissingIn_39 ?_
        refine lv_aload cx.x cx.b d_Bl_membersMissingIn_42 (lv_at hl 0 rfl) ?_
        refine hx_callr (iv_Bl_112_Sf cx (c_Sf_alike l hE ht.2.2.1.1 ht.2.2.1.sfd hdeus) ht.2.2.1.1.1 rfl hl.1 rfl (Nat.le_of_ble_eq_true rfl) d_Bl_membersMissingIn_44 ⟨Nat.le_of_ble_eq_true rfl, Nat.le_of_ble_eq_true rfl⟩ ⟨Nat.le_of_ble_eq_true rfl, Nat.le_of_ble_eq_true rfl⟩) hlo (fun _ h => h) (fun r127 H126 locs hp125 hlo => ?_)
        obtain ⟨hp125, hH9⟩ := hp125
        have hH9 := hH9.symm
        subst hH9
        subst hp125
        cases hal : alk (us.getD i default).2.2 t.2.2.1
        · rw [hal] at hj
          show W p l e _ s m args below meth c H locs _ _ _ (F0 m 47 ls [.null, .ref (adr (us.getD i default))])
          refine lv_iload_n cx.x cx.b d_Bl_membersMissingIn_47 rfl (lv_at hl 5 rfl) ?_
          refine hx_calli (iv_Bl_104 cx (c_Bl_isSameLine0 l hE hdeus sf) rfl hl.1 rfl (Nat.le_of_ble_eq_true rfl) d_Bl_membersMissingIn_48 ⟨Nat.le_of_ble_eq_true rfl, Nat.le_of_ble_eq_true rfl⟩ ⟨Nat.le_of_ble_eq_true rfl, Nat.le_of_ble_eq_true rfl⟩) hlo (fun _ h => h) (fun r130 H129 locs hp128 hlo => ?_)
          obtain ⟨hp128, hH9⟩ := hp128
          have hH9 := hH9.symm
          subst hH9
          subst hp128
          have hj : mmL sf t.2.2.1 us = n9 + ((if slE sf (us.getD i default).2.2 none then 0 else 1) + mmL sf t.2.2.1 (us.drop (i + 1))) := hj
          cases hsl : slE sf (us.getD i default).2.2 none
          · rw [hsl, if_neg (by decide)] at hj
            refine lv_if_ne (tgt := 57) cx.x cx.b d_Bl_membersMissingIn_51 (by decide) (fun c => absurd (by decide) c) (fun _ => ?_)
            obtain ⟨x131, e_x131⟩ : ∃ y : Int32, y = nI n9 + 1 := ⟨_, rfl⟩
            refine lv_iinc (v := x131) (lv' := [(3, .int x131), (5, .ref (adr (us.getD i default))), (4, .int (nI i)), (0, .ref ((t).1.1.1)), (1, .ref sa.1), (2, .int (bI sf))]) cx.x cx.b d_Bl_membersMissingIn_54 hl (k := 2) rfl (by rw [e_x131]; rfl) (by decide) rfl (fun ls hl => ?_)
            rw [nI_1] at e_x131
            subst e_x131
            obtain ⟨x132, e_x132⟩ : ∃ y : Int32, y = nI i + 1 := ⟨_, rfl⟩
            refine lv_iinc (v := x132) (lv' := [(4, .int x132), (3, .int (nI (n9 + 1))), (5, .ref (adr (us.getD i default))), (0, .ref ((t).1.1.1)), (1, .ref sa.1), (2, .int (bI sf))]) cx.x cx.b d_Bl_membersMissingIn_57 hl (k := 2) rfl (by rw [e_x132]; rfl) (by decide) rfl (fun ls hl => ?_)
            refine lv_goto (tgt := 14) cx.x cx.b d_Bl_membersMissingIn_60 (by decide) ?_
            rw [nI_1] at e_x132
            subst e_x132
            exact ih _ (i + 1) (n9 + 1) hlo (by omega) ⟨by omega, by omega⟩ (by omega) _ (lv_sub hl [0, 1, 3, 4, 5] rfl)
          · rw [hsl, if_pos rfl] at hj
            refine lv_if_ne (tgt := 57) cx.x cx.b d_Bl_membersMissingIn_51 (by decide) (fun _ => ?_) (fun c => absurd c (by decide))
            obtain ⟨x133, e_x133⟩ : ∃ y : Int32, y = nI i + 1 := ⟨_, rfl⟩
            refine lv_iinc (v := x133) (lv' := [(4, .int x133), (5, .ref (adr (us.getD i default))), (3, .int (nI n9)), (0, .ref ((t).1.1.1)), (1, .ref sa.1), (2, .int (bI sf))]) cx.x cx.b d_Bl_membersMissingIn_57 hl (k := 1) rfl (by rw [e_x133]; rfl) (by decide) rfl (fun ls hl => ?_)
            refine lv_goto (tgt := 14) cx.x cx.b d_Bl_membersMissingIn_60 (by decide) ?_
            rw [nI_1] at e_x133
            subst e_x133
            exact ih _ (i + 1) n9 hlo (by omega) ⟨by omega, by omega⟩ (by omega) _ (lv_sub hl [0, 2, 3, 4, 5] rfl)
        · rename_i e9
          rw [hal] at hj
          have hde9 := ht.2.2.1.sfd.1 _ (alk_mem hal)
          show W p l e _ s m args below meth c H locs _ _ _ (F0 m 47 ls [.ref ((e9).1.1), .ref (adr (us.getD i default))])
          refine lv_iload_n cx.x cx.b d_Bl_membersMissingIn_47 rfl (lv_at hl 5 rfl) ?_
          refine hx_calli (iv_Bl_104 cx (c_Bl_isSameLine1 l hE hdeus hde9 sf) rfl hl.1 rfl (Nat.le_of_ble_eq_true rfl) d_Bl_membersMissingIn_48 ⟨Nat.le_of_ble_eq_true rfl, Nat.le_of_ble_eq_true rfl⟩ ⟨Nat.le_of_ble_eq_true rfl, Nat.le_of_ble_eq_true rfl⟩) hlo (fun _ h => h) (fun r136 H135 locs hp134 hlo => ?_)
          obtain ⟨hp134, hH9⟩ := hp134
          have hH9 := hH9.symm
          subst hH9
          subst hp134
          have hj : mmL sf t.2.2.1 us = n9 + ((if slE sf (us.getD i default).2.2 (some e9.2.2) then 0 else 1) + mmL sf t.2.2.1 (us.drop (i + 1))) := hj
          cases hsl : slE sf (us.getD i default).2.2 (some e9.2.2)
          · rw [hsl, if_neg (by decide)] at hj
            refine lv_if_ne (tgt := 57) cx.x cx.b d_Bl_membersMissingIn_51 (by decide) (fun c => absurd (by decide) c) (fun _ => ?_)
            obtain ⟨x137, e_x137⟩ : ∃ y : Int32, y = nI n9 + 1 := ⟨_, rfl⟩
            refine lv_iinc (v := x137) (lv' := [(3, .int x137), (5, .ref (adr (us.getD i default))), (4, .int (nI i)), (0, .ref ((t).1.1.1)), (1, .ref sa.1), (2, .int (bI sf))]) cx.x cx.b d_Bl_membersMissingIn_54 hl (k := 2) rfl (by rw [e_x137]; rfl) (by decide) rfl (fun ls hl => ?_)
            rw [nI_1] at e_x137
            subst e_x137
            obtain ⟨x138, e_x138⟩ : ∃ y : Int32, y = nI i + 1 := ⟨_, rfl⟩
            refine lv_iinc (v := x138) (lv' := [(4, .int x138), (3, .int (nI (n9 + 1))), (5, .ref (adr (us.getD i default))), (0, .ref ((t).1.1.1)), (1, .ref sa.1), (2, .int (bI sf))]) cx.x cx.b d_Bl_membersMissingIn_57 hl (k := 2) rfl (by rw [e_x138]; rfl) (by decide) rfl (fun ls hl => ?_)
            refine lv_goto (tgt := 14) cx.x cx.b d_Bl_membersMissingIn_60 (by decide) ?_
            rw [nI_1] at e_x138
            subst e_x138
            exact ih _ (i + 1) (n9 + 1) hlo (by omega) ⟨by omega, by omega⟩ (by omega) _ (lv_sub hl [0, 1, 3, 4, 5] rfl)
          · rw [hsl, if_pos rfl] at hj
            refine lv_if_ne (tgt := 57) cx.x cx.b d_Bl_membersMissingIn_51 (by decide) (fun _ => ?_) (fun c => absurd c (by decide))
            obtain ⟨x139, e_x139⟩ : ∃ y : Int32, y = nI i + 1 := ⟨_, rfl⟩
            refine lv_iinc (v := x139) (lv' := [(4, .int x139), (5, .ref (adr (us.getD i default))), (3, .int (nI n9)), (0, .ref ((t).1.1.1)), (1, .ref sa.1), (2, .int (bI sf))]) cx.x cx.b d_Bl_membersMissingIn_57 hl (k := 1) rfl (by rw [e_x139]; rfl) (by decide) rfl (fun ls hl => ?_)
            refine lv_goto (tgt := 14) cx.x cx.b d_Bl_membersMissingIn_60 (by decide) ?_
            rw [nI_1] at e_x139
            subst e_x139
            exact ih _ (i + 1) n9 hlo (by omega) ⟨by omega, by omega⟩ (by omega) _ (lv_sub hl [0, 2, 3, 4, 5] rfl)
  refine lv_aload_n cx.x cx.b d_Bl_membersMissingIn_0 rfl (lv_at hl 0 rfl) ?_
  refine lv_ifnonnull (tgt := 9) cx.x cx.b d_Bl_membersMissingIn_1 (by decide) ?_
  refine lv_iconst (v := 0) cx.x cx.b d_Bl_membersMissingIn_9 (by decide) ?_
  refine lv_istore_n (lv' := [(3, .int 0), (0, .ref ((t).1.1.1)), (1, .ref sa.1), (2, .int (bI sf))]) cx.x cx.b d_Bl_membersMissingIn_10 rfl hl (by decide) rfl (fun ls hl => ?_)
  refine lv_iconst (v := 0) cx.x cx.b d_Bl_membersMissingIn_11 (by decide) ?_
  refine lv_istore (lv' := [(4, .int 0), (3, .int 0), (0, .ref ((t).1.1.1)), (1, .ref sa.1), (2, .int (bI sf))]) cx.x cx.b d_Bl_membersMissingIn_12 hl (by decide) rfl (fun ls hl => ?_)
  exact LP (us.length + 1) _ 0 0 hlo (by omega) ⟨Nat.zero_le _, Nat.le_refl _⟩ (by rw [List.drop_zero, Nat.zero_add]) _ hl
