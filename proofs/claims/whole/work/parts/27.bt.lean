/-! THE CLASS ITSELF -/
def grB (E : hE) (a tr tarr fr farr dg n1 n2 n3 bl bm : Nat) (sa sb : SA) (us sp vs sq : List TV) : List (List Nat) := [[a], [tr, tarr], [fr, farr], [dg, n1, n2, n3], fpB E bl sa us sp, fpB E bm sb vs sq]
def BTx (E : hE) (H : Heap) (a tr tarr fr farr dg n1 n2 n3 bl bm : Nat) (sa sb : SA) (us sp vs sq : List TV) (txt : List Nat) (ot : Bool) (fx : List Nat) (fo : Bool) (ds : List (Nat × Nat × Nat)) (fm fn : Nat) : Prop := hOb (eD E) classes H a 9 [.ref tr, .ref fr, .ref dg, .ref bl, .ref bm] ∧ eB E ≤ a ∧ Rw E H tr tarr 480 txt ot ∧ Rw E H fr farr 480 fx fo ∧ Dg E H dg n1 n2 n3 ds ∧ Bs E H bl fm sa us sp ∧ Bs E H bm fn sb vs sq ∧ (grB E a tr tarr fr farr dg n1 n2 n3 bl bm sa sb us sp vs sq).flatten.Nodup
/-- the k-th byte of a value -/
def byt (v : Int64) (k : Nat) : Nat := v.toBitVec.toNat / 2 ^ (8 * k) % 256
def okC (x : Nat) : Bool := decide (x = 10 ∨ (32 ≤ x ∧ x ≤ 126))
theorem shl8 : ∀ k, k < 8 → ((8 * nI k).toInt64.toUInt64 &&& Int64.toUInt64 63).toBitVec.toNat % 64 = 8 * k := by decide +kernel
theorem byt_cls (v : Int64) {k : Nat} (hk : k < 8) : (v.toUInt64 >>> ((8 * nI k).toInt64.toUInt64 &&& Int64.toUInt64 63)).toInt64.toInt32 &&& 255 = nI (byt v k) := by
  rw [pk_and _ 8 (by decide)]
  unfold byt
  congr 1
  have h := shl8 k hk
  generalize (8 * nI k).toInt64.toUInt64 &&& Int64.toUInt64 63 = z at h
  have e1 : (v.toUInt64 >>> z).toInt64.toInt32.toBitVec.toNat = (v.toUInt64 >>> z).toNat % 2 ^ 32 := by rw [Int64.toBitVec_toInt32, BitVec.signExtend_eq_setWidth_of_le _ (by decide), BitVec.toNat_setWidth]; rfl
  have e2 : (v.toUInt64 >>> z).toNat = v.toBitVec.toNat / 2 ^ (8 * k) := by
    rw [UInt64.toNat_shiftRight, Nat.shiftRight_eq_div_pow]
    rw [show z.toNat % 64 = 8 * k from h]
    rfl
  rw [e1, e2]
  omega
def selC {α : Type} (b : Int32) (x y : α) : Option α := if b = 0 then some x else if b = 1 then some y else none
def tyV (us : List TV) (t : Int32) : Option TV := if 0 ≤ t.toInt ∧ t.toInt < us.length then some (us.getD t.toInt.toNat default) else none
def tySel (b : Int32) (us vs : List TV) (t : Int32) : Option TV := (selC b us vs).bind (fun w => tyV w t)
def mbV (o : Option TV) (m : Int32) : Option EL := o.bind (fun t => if 0 ≤ m.toInt ∧ m.toInt < t.2.2.1.length then some (t.2.2.1.getD m.toInt.toNat default) else none)
theorem tyV_mem {us : List TV} {t : Int32} {x : TV} (h : tyV us t = some x) : x ∈ us := by
  unfold tyV at h
  by_cases c : 0 ≤ t.toInt ∧ t.toInt < us.length
  · rw [if_pos c] at h; cases h; exact getD_memT (by omega)
  · rw [if_neg c] at h; cases h
theorem tySel_mem {us vs : List TV} {b t : Int32} {x : TV} (h : tySel b us vs t = some x) : x ∈ us ∨ x ∈ vs := by
  unfold tySel selC at h
  by_cases c : b = 0
  · rw [if_pos c] at h; exact Or.inl (tyV_mem h)
  · rw [if_neg c] at h
    by_cases c1 : b = 1
    · rw [if_pos c1] at h; exact Or.inr (tyV_mem h)
    · rw [if_neg c1] at h; cases h
theorem mbV_mem {t : TV} {m : Int32} {d : EL} (h : mbV (some t) m = some d) : d ∈ t.2.2.1 := by
  have h : (if 0 ≤ m.toInt ∧ m.toInt < t.2.2.1.length then some (t.2.2.1.getD m.toInt.toNat default) else none) = some d := h
  by_cases c : 0 ≤ m.toInt ∧ m.toInt < t.2.2.1.length
  · rw [if_pos c] at h; cases h; exact getD_memE (by omega)
  · rw [if_neg c] at h; cases h
def abV (o : Option TV) (what : Int32) : Int32 := match o with
  | none => -1
  | some t => if what = 0 then nI t.1.2.2.2.2.1 else if what = 1 then nI t.1.2.2.2.2.2 else if what = 2 then nI t.2.2.1.length else if what = 3 then nI t.1.2.2.1.length else -1
def meV (o : Option EL) (what : Int32) : Int32 := match o with
  | none => -1
  | some d => if what = 0 then nI d.2.2.2.2.1 else if what = 1 then nI d.2.2.2.2.2 else if what = 2 then nI d.2.2.1.length else if what = 3 then nI d.2.2.2.1.length else -1
def chV (o : Option EL) (which i : Int32) : Int32 := match o with
  | none => -1
  | some d => if which = -1 then atI d.2.2.1 i else if which = 0 then atI d.2.2.1 i else if which = 1 then atI d.2.2.2.1 i else -1
def dgV (ds : List (Nat × Nat × Nat)) (i what : Int32) : Int32 := if i < 0 then -1 else if nI (min ds.length 20) ≤ i then -1 else if what = 0 then nI (ds.getD i.toNatClampNeg (0, 0, 0)).1 else if what = 1 then nI (ds.getD i.toNatClampNeg (0, 0, 0)).2.1 else if what = 2 then nI (ds.getD i.toNatClampNeg (0, 0, 0)).2.2 else -1
set_option maxHeartbeats 4000000 in
set_option maxRecDepth 100000 in
theorem c_B_byteOf (l : Launch) {E : hE} (hE : EnvOk E) {H : Heap} (v : Int64) {k : Nat} (hk : k < 8) : Ct l E y_B_byteOf b_B_byteOf 3 (some .int) (rmA 0 0 0) [.long v, .int (nI k)] H (hQi (fun r H1 => r = nI (byt v k) ∧ H1 = H)) := by
  refine hx_enter hE (by decide) (Nat.le_of_ble_eq_true rfl) ?_
  intro p e s m args below meth c ls cx hnm hl
  have hl : lv_has ls 3 [(0, .long v), (2, .int (nI k))] := hl
  have hlo : hLo (eB E) [] := hLo.nil
  refine lv_lload_n cx.x cx.b d_B_byteOf_0 rfl (lv_at hl 0 rfl) ?_
  refine lv_bipush (v := 8) cx.x cx.b d_B_byteOf_1 (by decide) ?_
  refine lv_iload_n cx.x cx.b d_B_byteOf_3 rfl (lv_at hl 1 rfl) ?_
  refine lv_imul cx.x cx.b d_B_byteOf_4 ?_
  refine lv_topi (fun x66 e_x66 => ?_)
  refine lv_lushr cx.x cx.b d_B_byteOf_5 rfl ?_
  refine lv_topl (fun x67 e_x67 => ?_)
  refine lv_l2i cx.x cx.b d_B_byteOf_6 rfl ?_
  refine lv_topi (fun x68 e_x68 => ?_)
  refine lv_sipush (v := 255) cx.x cx.b d_B_byteOf_7 (by decide) ?_
  refine lv_iand cx.x cx.b d_B_byteOf_10 ?_
  refine lv_topi (fun x69 e_x69 => ?_)
  exact hx_reti cx.x cx.b cx.r cx.k rfl hlo (fun _ h => h) (Nat.le_of_ble_eq_true rfl) (Nat.le_of_ble_eq_true rfl) d_B_byteOf_11 (⟨by rw [e_x69, e_x68, e_x67, e_x66]; exact byt_cls v hk, rfl⟩)

set_option maxHeartbeats 4000000 in
set_option maxRecDepth 100000 in
theorem c_B_isTextCode (l : Launch) {E : hE} (hE : EnvOk E) {H : Heap} {x : Nat} (hx : x < 256) : Ct l E y_B_isTextCode b_B_isTextCode 1 (some .boolean) (rmA 0 0 0) [.int (nI x)] H (hQi (fun r H1 => r = bI (okC x) ∧ H1 = H)) := by
  refine hx_enter hE (by decide) (Nat.le_of_ble_eq_true rfl) ?_
  intro p e s m args below meth c ls cx hnm hl
  have hl : lv_has ls 1 [(0, .int (nI x))] := hl
  have hlo : hLo (eB E) [] := hLo.nil
  generalize hQ : MQ below _ args s _ _ _ = Q
  unfold okC at hQ
  refine lv_iload_n cx.x cx.b d_B_isTextCode_0 rfl (lv_at hl 0 rfl) ?_
  refine lv_bipush (v := 10) cx.x cx.b d_B_isTextCode_1 (by decide) ?_
  refine lv_icmp_eq (tgt := 18) cx.x cx.b d_B_isTextCode_3 (by decide) (fun c1 => ?_) (fun c1 => ?_)
  · have c1 : x = 10 := (nI_eq (a := x) (b := 10) (by omega) (by omega)).mp c1
    rw [decide_eq_true (Or.inl c1)] at hQ
    refine lv_iconst (v := 1) cx.x cx.b d_B_isTextCode_18 (by decide) ?_
    refine lv_goto (tgt := 23) cx.x cx.b d_B_isTextCode_19 (by decide) ?_
    rw [← hQ]
    exact hx_reti cx.x cx.b cx.r cx.k rfl hlo (fun _ h => h) (Nat.le_of_ble_eq_true rfl) (Nat.le_of_ble_eq_true rfl) d_B_isTextCode_23 (⟨rfl, rfl⟩)
  · have c1 : x ≠ 10 := fun zz => c1 ((nI_eq (a := x) (b := 10) (by omega) (by omega)).mpr zz)
    refine lv_iload_n cx.x cx.b d_B_isTextCode_6 rfl (lv_at hl 0 rfl) ?_
    refine lv_bipush (v := 32) cx.x cx.b d_B_isTextCode_7 (by decide) ?_
    refine lv_icmp_lt (tgt := 22) cx.x cx.b d_B_isTextCode_9 (by decide) (fun c2 => ?_) (fun c2 => ?_)
    · have c2 : x < 32 := (nI_ltI (a := x) (b := 32) (by omega) (by omega)).mp c2
      rw [decide_eq_false (by omega)] at hQ
      refine lv_iconst (v := 0) cx.x cx.b d_B_isTextCode_22 (by decide) ?_
      rw [← hQ]
      exact hx_reti cx.x cx.b cx.r cx.k rfl hlo (fun _ h => h) (Nat.le_of_ble_eq_true rfl) (Nat.le_of_ble_eq_true rfl) d_B_isTextCode_23 (⟨rfl, rfl⟩)
    · have c2 : 32 ≤ x := Nat.not_lt.mp (fun zz => c2 ((nI_ltI (a := x) (b := 32) (by omega) (by omega)).mpr zz))
      refine lv_iload_n cx.x cx.b d_B_isTextCode_12 rfl (lv_at hl 0 rfl) ?_
      refine lv_bipush (v := 126) cx.x cx.b d_B_isTextCode_13 (by decide) ?_
      refine lv_icmp_gt (tgt := 22) cx.x cx.b d_B_isTextCode_15 (by decide) (fun c3 => ?_) (fun c3 => ?_)
      · have c3 : 126 < x := (nI_ltI (a := 126) (b := x) (by omega) (by omega)).mp c3
        rw [decide_eq_false (by omega)] at hQ
        refine lv_iconst (v := 0) cx.x cx.b d_B_isTextCode_22 (by decide) ?_
        rw [← hQ]
        exact hx_reti cx.x cx.b cx.r cx.k rfl hlo (fun _ h => h) (Nat.le_of_ble_eq_true rfl) (Nat.le_of_ble_eq_true rfl) d_B_isTextCode_23 (⟨rfl, rfl⟩)
      · have c3 : x ≤ 126 := Nat.not_lt.mp (fun zz => c3 ((nI_ltI (a := 126) (b := x) (by omega) (by omega)).mpr zz))
        rw [decide_eq_true (Or.inr ⟨c2, c3⟩)] at hQ
        refine lv_iconst (v := 1) cx.x cx.b d_B_isTextCode_18 (by decide) ?_
        refine lv_goto (tgt := 23) cx.x cx.b d_B_isTextCode_19 (by decide) ?_
        rw [← hQ]
        exact hx_reti cx.x cx.b cx.r cx.k rfl hlo (fun _ h => h) (Nat.le_of_ble_eq_true rfl) (Nat.le_of_ble_eq_true rfl) d_B_isTextCode_23 (⟨rfl, rfl⟩)

set_option maxHeartbeats 4000000 in
set_option maxRecDepth 100000 in
theorem c_B_chosen (l : Launch) {E : hE} (hE : EnvOk E) {H : Heap} {a tr tarr fr farr dg n1 n2 n3 bl bm fm fn : Nat} {sa sb : SA} {us sp vs sq : List TV} {txt fx : List Nat} {ot fo : Bool} {ds : List (Nat × Nat × Nat)} (h : BTx E H a tr tarr fr farr dg n1 n2 n3 bl bm sa sb us sp vs sq txt ot fx fo ds fm fn) (b : Int32) : Ct l E y_B_chosen b_B_chosen 2 (some (.object "BaselineText$Baseline")) (rmA 0 0 0) [.ref a, .int b] H (hQr (fun r H1 => r = selC b bl bm ∧ H1 = H)) := by
  refine hx_enter hE (by decide) (Nat.le_of_ble_eq_true rfl) ?_
  intro p e s m args below meth c ls cx hnm hl
  have hl : lv_has ls 2 [(0, .ref a), (1, .int b)] := hl
  have hlo : hLo (eB E) [] := hLo.nil
  generalize hQ : MQ below _ args s _ _ _ = Q
  obtain ⟨h1, hBa, h3, h4, h5, h6, h7, hN⟩ := h
  refine lv_iload_n cx.x cx.b d_B_chosen_0 rfl (lv_at hl 1 rfl) ?_
  by_cases k_0 : b = 0
  · subst k_0
    refine lv_lookup (tgt := 28) (off := 27) cx.x cx.b d_B_chosen_1 (by decide) (by decide) (by decide) ?_
    refine lv_aload_n cx.x cx.b d_B_chosen_28 rfl (lv_at hl 0 rfl) ?_
    refine gf_B_31_B cx h1 rfl d_B_chosen_29 ?_
    rw [← hQ]
    exact hx_reta (v := some bl) cx.x cx.b cx.r cx.k (Or.inl ⟨_, rfl⟩) hlo (fun _ h => h) (Nat.le_of_ble_eq_true rfl) (Nat.le_of_ble_eq_true rfl) d_B_chosen_32 (⟨rfl, rfl⟩)
  · by_cases k_1 : b = 1
    · subst k_1
      refine lv_lookup (tgt := 33) (off := 32) cx.x cx.b d_B_chosen_1 (by decide) (by decide) (by decide) ?_
      refine lv_aload_n cx.x cx.b d_B_chosen_33 rfl (lv_at hl 0 rfl) ?_
      refine gf_B_35_B cx h1 rfl d_B_chosen_34 ?_
      rw [← hQ]
      exact hx_reta (v := some bm) cx.x cx.b cx.r cx.k (Or.inl ⟨_, rfl⟩) hlo (fun _ h => h) (Nat.le_of_ble_eq_true rfl) (Nat.le_of_ble_eq_true rfl) d_B_chosen_37 (⟨rfl, rfl⟩)
    · refine lv_lookup (tgt := 38) (off := 37) cx.x cx.b d_B_chosen_1 (by decide) (by show Op.lookupswitch.offset [(0, 27), (1, 32)] 37 _ = _; rw [lv_osw (a := 0) k_0 rfl, lv_osw (a := 1) k_1 rfl]; rfl) (by decide) ?_
      refine lv_null cx.x cx.b d_B_chosen_38 ?_
      rw [← hQ]
      exact hx_reta (v := none) cx.x cx.b cx.r cx.k (Or.inl ⟨_, rfl⟩) hlo (fun _ h => h) (Nat.le_of_ble_eq_true rfl) (Nat.le_of_ble_eq_true rfl) d_B_chosen_39 (⟨by unfold selC; rw [if_neg k_0, if_neg k_1], rfl⟩)

set_option maxHeartbeats 4000000 in
set_option maxRecDepth 100000 in
theorem c_B_text (l : Launch) {E : hE} (hE : EnvOk E) {H : Heap} {a tr tarr fr farr dg n1 n2 n3 bl bm fm fn : Nat} {sa sb : SA} {us sp vs sq : List TV} {txt fx : List Nat} {ot fo : Bool} {ds : List (Nat × Nat × Nat)} (h : BTx E H a tr tarr fr farr dg n1 n2 n3 bl bm sa sb us sp vs sq txt ot fx fo ds fm fn) (i : Int32) : Ct l E y_B_text b_B_text 2 (some .int) (rmA 1 0 0) [.ref a, .int i] H (hQi (fun r H1 => r = atI txt i ∧ H1 = H)) := by
  refine hx_enter hE (by decide) (Nat.le_of_ble_eq_true rfl) ?_
  intro p e s m args below meth c ls cx hnm hl
  have hl : lv_has ls 2 [(0, .ref a), (1, .int i)] := hl
  have hlo : hLo (eB E) [] := hLo.nil
  generalize hQ : MQ below _ args s _ _ _ = Q
  obtain ⟨h1, hBa, h3, h4, h5, h6, h7, hN⟩ := h
  refine lv_aload_n cx.x cx.b d_B_text_0 rfl (lv_at hl 0 rfl) ?_
  refine gf_B_14_B cx h1 rfl d_B_text_1 ?_
  refine lv_iload_n cx.x cx.b d_B_text_4 rfl (lv_at hl 1 rfl) ?_
  refine hx_calli (iv_B_67_Rw cx (c_Rw_at l hE h3 i) h3.1 rfl hl.1 rfl (Nat.le_of_ble_eq_true rfl) d_B_text_5 ⟨Nat.le_of_ble_eq_true rfl, Nat.le_of_ble_eq_true rfl⟩ ⟨Nat.le_of_ble_eq_true rfl, Nat.le_of_ble_eq_true rfl⟩) hlo (fun _ h => h) (fun r72 H71 locs hp70 hlo => ?_)
  obtain ⟨hp70, hH9⟩ := hp70
  have hH9 := hH9.symm
  subst hH9
  rw [← hQ]
  exact hx_reti cx.x cx.b cx.r cx.k rfl hlo (fun _ h => h) (Nat.le_of_ble_eq_true rfl) (Nat.le_of_ble_eq_true rfl) d_B_text_8 (⟨hp70, rfl⟩)

set_option maxHeartbeats 4000000 in
set_option maxRecDepth 100000 in
theorem c_B_types (l : Launch) {E : hE} (hE : EnvOk E) {H : Heap} {a tr tarr fr farr dg n1 n2 n3 bl bm fm fn : Nat} {sa sb : SA} {us sp vs sq : List TV} {txt fx : List Nat} {ot fo : Bool} {ds : List (Nat × Nat × Nat)} (h : BTx E H a tr tarr fr farr dg n1 n2 n3 bl bm sa sb us sp vs sq txt ot fx fo ds fm fn) (b : Int32) : Ct l E y_B_types b_B_types 3 (some .int) (rmA 1 0 0) [.ref a, .int b] H (hQi (fun r H1 => r = (match selC b us vs with | none => -1 | some w => nI w.length) ∧ H1 = H)) := by
  refine hx_enter hE (by decide) (Nat.le_of_ble_eq_true rfl) ?_
  intro p e s m args below meth c ls cx hnm hl
  have hl : lv_has ls 3 [(0, .ref a), (1, .int b)] := hl
  have hlo : hLo (eB E) [] := hLo.nil
  generalize hQ : MQ below _ args s _ _ _ = Q
  obtain ⟨h1, hBa, h3, h4, h5, h6, h7, hN⟩ := h
  refine lv_aload_n cx.x cx.b d_B_types_0 rfl (lv_at hl 0 rfl) ?_
  refine lv_iload_n cx.x cx.b d_B_types_1 rfl (lv_at hl 1 rfl) ?_
  refine hx_callr (iv_B_56_B cx (c_B_chosen l hE ⟨h1, hBa, h3, h4, h5, h6, h7, hN⟩ b) h1 rfl hl.1 rfl (Nat.le_of_ble_eq_true rfl) d_B_types_2 ⟨Nat.le_of_ble_eq_true rfl, Nat.le_of_ble_eq_true rfl⟩ ⟨Nat.le_of_ble_eq_true rfl, Nat.le_of_ble_eq_true rfl⟩) hlo (fun _ h => h) (fun r75 H74 locs hp73 hlo => ?_)
  obtain ⟨hp73, hH9⟩ := hp73
  have hH9 := hH9.symm
  subst hH9
  unfold selC at hp73 hQ
  by_cases k_0 : b = 0
  · rw [if_pos k_0] at hp73 hQ
    subst hp73
    show W p l e _ s m args below meth c H locs _ _ _ (F0 m 5 ls [.ref bl])
    refine lv_astore_n (lv' := [(2, .ref bl), (0, .ref a), (1, .int b)]) cx.x cx.b d_B_types_5 rfl hl (by decide) rfl (fun ls hl => ?_)
    refine lv_aload_n cx.x cx.b d_B_types_6 rfl (lv_at hl 0 rfl) ?_
    refine lv_ifnonnull (tgt := 14) cx.x cx.b d_B_types_7 (by decide) ?_
    refine lv_aload_n cx.x cx.b d_B_types_14 rfl (lv_at hl 0 rfl) ?_
    refine gf_B_106_Bl cx h6.1 rfl d_B_types_15 ?_
    refine hx_calli (iv_B_110_Sf cx (c_Sf_count l hE h6.2.2.2.1.1) h6.2.2.2.1.1.1 rfl hl.1 rfl (Nat.le_of_ble_eq_true rfl) d_B_types_18 ⟨Nat.le_of_ble_eq_true rfl, Nat.le_of_ble_eq_true rfl⟩ ⟨Nat.le_of_ble_eq_true rfl, Nat.le_of_ble_eq_true rfl⟩) hlo (fun _ h => h) (fun r78 H77 locs hp76 hlo => ?_)
    obtain ⟨hp76, hH9⟩ := hp76
    have hH9 := hH9.symm
    subst hH9
    rw [List.length_map] at hp76
    rw [← hQ]
    exact hx_reti cx.x cx.b cx.r cx.k rfl hlo (fun _ h => h) (Nat.le_of_ble_eq_true rfl) (Nat.le_of_ble_eq_true rfl) d_B_types_21 (⟨hp76, rfl⟩)
  · by_cases k_1 : b = 1
    · rw [if_neg k_0, if_pos k_1] at hp73 hQ
      subst hp73
      show W p l e _ s m args below meth c H locs _ _ _ (F0 m 5 ls [.ref bm])
      refine lv_astore_n (lv' := [(2, .ref bm), (0, .ref a), (1, .int b)]) cx.x cx.b d_B_types_5 rfl hl (by decide) rfl (fun ls hl => ?_)
      refine lv_aload_n cx.x cx.b d_B_types_6 rfl (lv_at hl 0 rfl) ?_
      refine lv_ifnonnull (tgt := 14) cx.x cx.b d_B_types_7 (by decide) ?_
      refine lv_aload_n cx.x cx.b d_B_types_14 rfl (lv_at hl 0 rfl) ?_
      refine gf_B_106_Bl cx h7.1 rfl d_B_types_15 ?_
      refine hx_calli (iv_B_110_Sf cx (c_Sf_count l hE h7.2.2.2.1.1) h7.2.2.2.1.1.1 rfl hl.1 rfl (Nat.le_of_ble_eq_true rfl) d_B_types_18 ⟨Nat.le_of_ble_eq_true rfl, Nat.le_of_ble_eq_true rfl⟩ ⟨Nat.le_of_ble_eq_true rfl, Nat.le_of_ble_eq_true rfl⟩) hlo (fun _ h => h) (fun r81 H80 locs hp79 hlo => ?_)
      obtain ⟨hp79, hH9⟩ := hp79
      have hH9 := hH9.symm
      subst hH9
      rw [List.length_map] at hp79
      rw [← hQ]
      exact hx_reti cx.x cx.b cx.r cx.k rfl hlo (fun _ h => h) (Nat.le_of_ble_eq_true rfl) (Nat.le_of_ble_eq_true rfl) d_B_types_21 (⟨hp79, rfl⟩)
    · rw [if_neg k_0, if_neg k_1] at hp73 hQ
      subst hp73
      show W p l e _ s m args below meth c H locs _ _ _ (F0 m 5 ls [.null])
      refine lv_astore_nN (lv' := [(2, .null), (0, .ref a), (1, .int b)]) cx.x cx.b d_B_types_5 rfl hl (by decide) rfl (fun ls hl => ?_)
      refine lv_aload_nN cx.x cx.b d_B_types_6 rfl (lv_at hl 0 rfl) ?_
      refine lv_ifnonnullN cx.x cx.b d_B_types_7 ?_
      refine lv_iconst (v := (-1)) cx.x cx.b d_B_types_10 (by decide) ?_
      refine lv_goto (tgt := 21) cx.x cx.b d_B_types_11 (by decide) ?_
      rw [← hQ]
      exact hx_reti cx.x cx.b cx.r cx.k rfl hlo (fun _ h => h) (Nat.le_of_ble_eq_true rfl) (Nat.le_of_ble_eq_true rfl) d_B_types_21 (⟨rfl, rfl⟩)

set_option maxHeartbeats 4000000 in
set_option maxRecDepth 100000 in
theorem c_B_typeAt (l : Launch) {E : hE} (hE : EnvOk E) {H : Heap} {a tr tarr fr farr dg n1 n2 n3 bl bm fm fn : Nat} {sa sb : SA} {us sp vs sq : List TV} {txt fx : List Nat} {ot fo : Bool} {ds : List (Nat × Nat × Nat)} (h : BTx E H a tr tarr fr farr dg n1 n2 n3 bl bm sa sb us sp vs sq txt ot fx fo ds fm fn) (b t : Int32) : Ct l E y_B_typeAt b_B_typeAt 4 (some (.object "BaselineText$Type")) (rmA 4 0 0) [.ref a, .int b, .int t] H (hQr (fun r H1 => r = (tySel b us vs t).map tad ∧ H1 = H)) := by
  refine hx_enter hE (by decide) (Nat.le_of_ble_eq_true rfl) ?_
  intro p e s m args below meth c ls cx hnm hl
  have hl : lv_has ls 4 [(0, .ref a), (1, .int b), (2, .int t)] := hl
  have hlo : hLo (eB E) [] := hLo.nil
  generalize hQ : MQ below _ args s _ _ _ = Q
  obtain ⟨h1, hBa, h3, h4, h5, h6, h7, hN⟩ := h
  refine lv_aload_n cx.x cx.b d_B_typeAt_0 rfl (lv_at hl 0 rfl) ?_
  refine lv_iload_n cx.x cx.b d_B_typeAt_1 rfl (lv_at hl 1 rfl) ?_
  refine hx_callr (iv_B_56_B cx (c_B_chosen l hE ⟨h1, hBa, h3, h4, h5, h6, h7, hN⟩ b) h1 rfl hl.1 rfl (Nat.le_of_ble_eq_true rfl) d_B_typeAt_2 ⟨Nat.le_of_ble_eq_true rfl, Nat.le_of_ble_eq_true rfl⟩ ⟨Nat.le_of_ble_eq_true rfl, Nat.le_of_ble_eq_true rfl⟩) hlo (fun _ h => h) (fun r84 H83 locs hp82 hlo => ?_)
  obtain ⟨hp82, hH9⟩ := hp82
  have hH9 := hH9.symm
  subst hH9
  unfold selC at hp82
  unfold tySel selC at hQ
  by_cases k_0 : b = 0
  · rw [if_pos k_0] at hp82 hQ
    subst hp82
    show W p l e _ s m args below meth c H locs _ _ _ (F0 m 5 ls [.ref bl])
    have hT := h6.2.2.2.1
    skip
    refine lv_astore_n (lv' := [(3, .ref bl), (0, .ref a), (1, .int b), (2, .int t)]) cx.x cx.b d_B_typeAt_5 rfl hl (by decide) rfl (fun ls hl => ?_)
    refine lv_aload_n cx.x cx.b d_B_typeAt_6 rfl (lv_at hl 0 rfl) ?_
    refine lv_ifnonnull (tgt := 14) cx.x cx.b d_B_typeAt_7 (by decide) ?_
    refine lv_aload_n cx.x cx.b d_B_typeAt_14 rfl (lv_at hl 0 rfl) ?_
    refine gf_B_106_Bl cx h6.1 rfl d_B_typeAt_15 ?_
    refine lv_iload_n cx.x cx.b d_B_typeAt_18 rfl (lv_at hl 3 rfl) ?_
    refine hx_callr (iv_B_150_Sf cx (c_Sf_get l hE hT.1 hT.sfd t) h6.2.2.2.1.1.1 rfl hl.1 rfl (Nat.le_of_ble_eq_true rfl) d_B_typeAt_19 ⟨Nat.le_of_ble_eq_true rfl, Nat.le_of_ble_eq_true rfl⟩ ⟨Nat.le_of_ble_eq_true rfl, Nat.le_of_ble_eq_true rfl⟩) hlo (fun _ h => h) (fun r87 H86 locs hp85 hlo => ?_)
    obtain ⟨hp85, hH9⟩ := hp85
    have hH9 := hH9.symm
    subst hH9
    rw [List.length_map] at hp85
    by_cases c1 : 0 ≤ t.toInt ∧ t.toInt < us.length
    · rw [if_pos c1, getD_mapT (by omega)] at hp85
      subst hp85
      have hty := hT.2.1 _ (List.mem_append_left _ (getD_memT (us := us) (i := t.toInt.toNat) (by omega)))
      refine hx_castT cx tw_732 (hty.ob) d_B_typeAt_22 ?_
      rw [← hQ]
      exact hx_reta (v := some ((us.getD t.toInt.toNat default).1.1.1)) cx.x cx.b cx.r cx.k (Or.inl ⟨_, rfl⟩) hlo (fun _ h => h) (Nat.le_of_ble_eq_true rfl) (Nat.le_of_ble_eq_true rfl) d_B_typeAt_25 (⟨by show _ = Option.map tad (tyV us t); unfold tyV; rw [if_pos c1]; rfl, rfl⟩)
    · rw [if_neg c1] at hp85
      subst hp85
      refine lv_castN cx.x cx.b d_B_typeAt_22 ?_
      rw [← hQ]
      exact hx_reta (v := none) cx.x cx.b cx.r cx.k (Or.inl ⟨_, rfl⟩) hlo (fun _ h => h) (Nat.le_of_ble_eq_true rfl) (Nat.le_of_ble_eq_true rfl) d_B_typeAt_25 (⟨by show _ = Option.map tad (tyV us t); unfold tyV; rw [if_neg c1]; rfl, rfl⟩)
  · by_cases k_1 : b = 1
    · rw [if_neg k_0, if_pos k_1] at hp82 hQ
      subst hp82
      show W p l e _ s m args below meth c H locs _ _ _ (F0 m 5 ls [.ref bm])
      have hT := h7.2.2.2.1
      skip
      refine lv_astore_n (lv' := [(3, .ref bm), (0, .ref a), (1, .int b), (2, .int t)]) cx.x cx.b d_B_typeAt_5 rfl hl (by decide) rfl (fun ls hl => ?_)
      refine lv_aload_n cx.x cx.b d_B_typeAt_6 rfl (lv_at hl 0 rfl) ?_
      refine lv_ifnonnull (tgt := 14) cx.x cx.b d_B_typeAt_7 (by decide) ?_
      refine lv_aload_n cx.x cx.b d_B_typeAt_14 rfl (lv_at hl 0 rfl) ?_
      refine gf_B_106_Bl cx h7.1 rfl d_B_typeAt_15 ?_
      refine lv_iload_n cx.x cx.b d_B_typeAt_18 rfl (lv_at hl 3 rfl) ?_
      refine hx_callr (iv_B_150_Sf cx (c_Sf_get l hE hT.1 hT.sfd t) h7.2.2.2.1.1.1 rfl hl.1 rfl (Nat.le_of_ble_eq_true rfl) d_B_typeAt_19 ⟨Nat.le_of_ble_eq_true rfl, Nat.le_of_ble_eq_true rfl⟩ ⟨Nat.le_of_ble_eq_true rfl, Nat.le_of_ble_eq_true rfl⟩) hlo (fun _ h => h) (fun r90 H89 locs hp88 hlo => ?_)
      obtain ⟨hp88, hH9⟩ := hp88
      have hH9 := hH9.symm
      subst hH9
      rw [List.length_map] at hp88
      by_cases c1 : 0 ≤ t.toInt ∧ t.toInt < vs.length
      · rw [if_pos c1, getD_mapT (by omega)] at hp88
        subst hp88
        have hty := hT.2.1 _ (List.mem_append_left _ (getD_memT (us := vs) (i := t.toInt.toNat) (by omega)))
        refine hx_castT cx tw_732 (hty.ob) d_B_typeAt_22 ?_
        rw [← hQ]
        exact hx_reta (v := some ((vs.getD t.toInt.toNat default).1.1.1)) cx.x cx.b cx.r cx.k (Or.inl ⟨_, rfl⟩) hlo (fun _ h => h) (Nat.le_of_ble_eq_true rfl) (Nat.le_of_ble_eq_true rfl) d_B_typeAt_25 (⟨by show _ = Option.map tad (tyV vs t); unfold tyV; rw [if_pos c1]; rfl, rfl⟩)
      · rw [if_neg c1] at hp88
        subst hp88
        refine lv_castN cx.x cx.b d_B_typeAt_22 ?_
        rw [← hQ]
        exact hx_reta (v := none) cx.x cx.b cx.r cx.k (Or.inl ⟨_, rfl⟩) hlo (fun _ h => h) (Nat.le_of_ble_eq_true rfl) (Nat.le_of_ble_eq_true rfl) d_B_typeAt_25 (⟨by show _ = Option.map tad (tyV vs t); unfold tyV; rw [if_neg c1]; rfl, rfl⟩)
    · rw [if_neg k_0, if_neg k_1] at hp82 hQ
      subst hp82
      show W p l e _ s m args below meth c H locs _ _ _ (F0 m 5 ls [.null])
      refine lv_astore_nN (lv' := [(3, .null), (0, .ref a), (1, .int b), (2, .int t)]) cx.x cx.b d_B_typeAt_5 rfl hl (by decide) rfl (fun ls hl => ?_)
      refine lv_aload_nN cx.x cx.b d_B_typeAt_6 rfl (lv_at hl 0 rfl) ?_
      refine lv_ifnonnullN cx.x cx.b d_B_typeAt_7 ?_
      refine lv_null cx.x cx.b d_B_typeAt_10 ?_
      refine lv_goto (tgt := 25) cx.x cx.b d_B_typeAt_11 (by decide) ?_
      rw [← hQ]
      exact hx_reta (v := none) cx.x cx.b cx.r cx.k (Or.inl ⟨_, rfl⟩) hlo (fun _ h => h) (Nat.le_of_ble_eq_true rfl) (Nat.le_of_ble_eq_true rfl) d_B_typeAt_25 (⟨rfl, rfl⟩)

set_option maxHeartbeats 4000000 in
set_option maxRecDepth 100000 in
theorem c_B_memberAt (l : Launch) {E : hE} (hE : EnvOk E) {H : Heap} {a tr tarr fr farr dg n1 n2 n3 bl bm fm fn : Nat} {sa sb : SA} {us sp vs sq : List TV} {txt fx : List Nat} {ot fo : Bool} {ds : List (Nat × Nat × Nat)} (h : BTx E H a tr tarr fr farr dg n1 n2 n3 bl bm sa sb us sp vs sq txt ot fx fo ds fm fn) (b t k : Int32) : Ct l E y_B_memberAt b_B_memberAt 5 (some (.object "BaselineText$Declaration")) (rmA 5 0 0) [.ref a, .int b, .int t, .int k] H (hQr (fun r H1 => r = (mbV (tySel b us vs t) k).map adr ∧ H1 = H)) := by
  refine hx_enter hE (by decide) (Nat.le_of_ble_eq_true rfl) ?_
  intro p e s m args below meth c ls cx hnm hl
  have hl : lv_has ls 5 [(0, .ref a), (1, .int b), (2, .int t), (3, .int k)] := hl
  have hlo : hLo (eB E) [] := hLo.nil
  generalize hQ : MQ below _ args s _ _ _ = Q
  obtain ⟨h1, hBa, h3, h4, h5, h6, h7, hN⟩ := h
  refine lv_aload_n cx.x cx.b d_B_memberAt_0 rfl (lv_at hl 0 rfl) ?_
  refine lv_iload_n cx.x cx.b d_B_memberAt_1 rfl (lv_at hl 1 rfl) ?_
  refine lv_iload_n cx.x cx.b d_B_memberAt_2 rfl (lv_at hl 2 rfl) ?_
  have htyA : ∀ x, tySel b us vs t = some x → Ty E H x := fun x hx => by rcases tySel_mem hx with e | e; exact h6.2.2.2.1.2.1 x (List.mem_append_left _ e); exact h7.2.2.2.1.2.1 x (List.mem_append_left _ e)
  refine hx_callr (iv_B_113_B cx (c_B_typeAt l hE ⟨h1, hBa, h3, h4, h5, h6, h7, hN⟩ b t) h1 rfl hl.1 rfl (Nat.le_of_ble_eq_true rfl) d_B_memberAt_3 ⟨Nat.le_of_ble_eq_true rfl, Nat.le_of_ble_eq_true rfl⟩ ⟨Nat.le_of_ble_eq_true rfl, Nat.le_of_ble_eq_true rfl⟩) hlo (fun _ h => h) (fun r93 H92 locs hp91 hlo => ?_)
  obtain ⟨hp91, hH9⟩ := hp91
  have hH9 := hH9.symm
  subst hH9
  generalize hto : tySel b us vs t = o9 at hp91 htyA hQ
  cases o9
  · subst hp91
    show W p l e _ s m args below meth c H locs _ _ _ (F0 m 6 ls [.null])
    refine lv_astoreN (lv' := [(4, .null), (0, .ref a), (1, .int b), (2, .int t), (3, .int k)]) cx.x cx.b d_B_memberAt_6 hl (by decide) rfl (fun ls hl => ?_)
    refine lv_aloadN cx.x cx.b d_B_memberAt_8 (lv_at hl 0 rfl) ?_
    refine lv_ifnonnullN cx.x cx.b d_B_memberAt_10 ?_
    refine lv_null cx.x cx.b d_B_memberAt_13 ?_
    refine lv_goto (tgt := 26) cx.x cx.b d_B_memberAt_14 (by decide) ?_
    rw [← hQ]
    exact hx_reta (v := none) cx.x cx.b cx.r cx.k (Or.inl ⟨_, rfl⟩) hlo (fun _ h => h) (Nat.le_of_ble_eq_true rfl) (Nat.le_of_ble_eq_true rfl) d_B_memberAt_26 (⟨rfl, rfl⟩)
  · rename_i x9
    subst hp91
    have hty := htyA x9 rfl
    show W p l e _ s m args below meth c H locs _ _ _ (F0 m 6 ls [.ref (x9).1.1.1])
    refine lv_astore (lv' := [(4, .ref ((x9).1.1.1)), (0, .ref a), (1, .int b), (2, .int t), (3, .int k)]) cx.x cx.b d_B_memberAt_6 hl (by decide) rfl (fun ls hl => ?_)
    refine lv_aload cx.x cx.b d_B_memberAt_8 (lv_at hl 0 rfl) ?_
    refine lv_ifnonnull (tgt := 17) cx.x cx.b d_B_memberAt_10 (by decide) ?_
    refine lv_aload cx.x cx.b d_B_memberAt_17 (lv_at hl 0 rfl) ?_
    refine gf_B_125_Tp cx hty.ob rfl d_B_memberAt_19 ?_
    refine lv_iload_n cx.x cx.b d_B_memberAt_22 rfl (lv_at hl 4 rfl) ?_
    refine hx_callr (iv_B_150_Sf cx (c_Sf_get l hE hty.2.2.1.1 hty.2.2.1.sfd k) hty.2.2.1.1.1 rfl hl.1 rfl (Nat.le_of_ble_eq_true rfl) d_B_memberAt_23 ⟨Nat.le_of_ble_eq_true rfl, Nat.le_of_ble_eq_true rfl⟩ ⟨Nat.le_of_ble_eq_true rfl, Nat.le_of_ble_eq_true rfl⟩) hlo (fun _ h => h) (fun r96 H95 locs hp94 hlo => ?_)
    obtain ⟨hp94, hH9⟩ := hp94
    have hH9 := hH9.symm
    subst hH9
    subst hp94
    rw [← hQ]
    exact hx_reta (v := (if 0 ≤ k.toInt ∧ k.toInt < x9.2.2.1.length then some (adr (x9.2.2.1.getD k.toInt.toNat default)) else none)) cx.x cx.b cx.r cx.k (Or.inl ⟨_, rfl⟩) hlo (fun _ h => h) (Nat.le_of_ble_eq_true rfl) (Nat.le_of_ble_eq_true rfl) d_B_memberAt_26 (⟨by show _ = Option.map adr (if 0 ≤ k.toInt ∧ k.toInt < x9.2.2.1.length then some (x9.2.2.1.getD k.toInt.toNat default) else none); by_cases c : 0 ≤ k.toInt ∧ k.toInt < x9.2.2.1.length; rw [if_pos c, if_pos c]; rfl; rw [if_neg c, if_neg c]; rfl, rfl⟩)

set_option maxHeartbeats 4000000 in
set_option maxRecDepth 100000 in
theorem c_B_about (l : Launch) {E : hE} (hE : EnvOk E) {H : Heap} {a tr tarr fr farr dg n1 n2 n3 bl bm fm fn : Nat} {sa sb : SA} {us sp vs sq : List TV} {txt fx : List Nat} {ot fo : Bool} {ds : List (Nat × Nat × Nat)} (h : BTx E H a tr tarr fr farr dg n1 n2 n3 bl bm sa sb us sp vs sq txt ot fx fo ds fm fn) (b t q : Int32) : Ct l E y_B_about b_B_about 5 (some .int) (rmA 5 0 0) [.ref a, .int b, .int t, .int q] H (hQi (fun r H1 => r = abV (tySel b us vs t) q ∧ H1 = H)) := by
  refine hx_enter hE (by decide) (Nat.le_of_ble_eq_true rfl) ?_
  intro p e s m args below meth c ls cx hnm hl
  have hl : lv_has ls 5 [(0, .ref a), (1, .int b), (2, .int t), (3, .int q)] := hl
  have hlo : hLo (eB E) [] := hLo.nil
  generalize hQ : MQ below _ args s _ _ _ = Q
  obtain ⟨h1, hBa, h3, h4, h5, h6, h7, hN⟩ := h
  refine lv_aload_n cx.x cx.b d_B_about_0 rfl (lv_at hl 0 rfl) ?_
  refine lv_iload_n cx.x cx.b d_B_about_1 rfl (lv_at hl 1 rfl) ?_
  refine lv_iload_n cx.x cx.b d_B_about_2 rfl (lv_at hl 2 rfl) ?_
  have htyA : ∀ x, tySel b us vs t = some x → Ty E H x := fun x hx => by rcases tySel_mem hx with e | e; exact h6.2.2.2.1.2.1 x (List.mem_append_left _ e); exact h7.2.2.2.1.2.1 x (List.mem_append_left _ e)
  refine hx_callr (iv_B_113_B cx (c_B_typeAt l hE ⟨h1, hBa, h3, h4, h5, h6, h7, hN⟩ b t) h1 rfl hl.1 rfl (Nat.le_of_ble_eq_true rfl) d_B_about_3 ⟨Nat.le_of_ble_eq_true rfl, Nat.le_of_ble_eq_true rfl⟩ ⟨Nat.le_of_ble_eq_true rfl, Nat.le_of_ble_eq_true rfl⟩) hlo (fun _ h => h) (fun r99 H98 locs hp97 hlo => ?_)
  obtain ⟨hp97, hH9⟩ := hp97
  have hH9 := hH9.symm
  subst hH9
  generalize hto : tySel b us vs t = o9 at hp97 htyA hQ
  cases o9
  · subst hp97
    show W p l e _ s m args below meth c H locs _ _ _ (F0 m 6 ls [.null])
    refine lv_astoreN (lv' := [(4, .null), (0, .ref a), (1, .int b), (2, .int t), (3, .int q)]) cx.x cx.b d_B_about_6 hl (by decide) rfl (fun ls hl => ?_)
    refine lv_aloadN cx.x cx.b d_B_about_8 (lv_at hl 0 rfl) ?_
    refine lv_ifnonnullN cx.x cx.b d_B_about_10 ?_
    refine lv_iconst (v := (-1)) cx.x cx.b d_B_about_13 (by decide) ?_
    rw [← hQ]
    exact hx_reti cx.x cx.b cx.r cx.k rfl hlo (fun _ h => h) (Nat.le_of_ble_eq_true rfl) (Nat.le_of_ble_eq_true rfl) d_B_about_14 (⟨rfl, rfl⟩)
  · rename_i x9
    subst hp97
    have hty := htyA x9 rfl
    show W p l e _ s m args below meth c H locs _ _ _ (F0 m 6 ls [.ref (x9).1.1.1])
    refine lv_astore (lv' := [(4, .ref ((x9).1.1.1)), (0, .ref a), (1, .int b), (2, .int t), (3, .int q)]) cx.x cx.b d_B_about_6 hl (by decide) rfl (fun ls hl => ?_)
    refine lv_aload cx.x cx.b d_B_about_8 (lv_at hl 0 rfl) ?_
    refine lv_ifnonnull (tgt := 15) cx.x cx.b d_B_about_10 (by decide) ?_
    refine lv_iload_n cx.x cx.b d_B_about_15 rfl (lv_at hl 4 rfl) ?_
    by_cases k_0 : q = 0
    · subst k_0
      refine lv_tableIn (tgt := 48) (off := 32) cx.x cx.b d_B_about_16 (by decide) (by decide) (by decide) (by decide) ?_
      refine lv_aload cx.x cx.b d_B_about_48 (lv_at hl 0 rfl) ?_
      refine gf_B_117_Tp cx hty.ob rfl d_B_about_50 ?_
      rw [← hQ]
      exact hx_reti cx.x cx.b cx.r cx.k rfl hlo (fun _ h => h) (Nat.le_of_ble_eq_true rfl) (Nat.le_of_ble_eq_true rfl) d_B_about_53 (⟨rfl, rfl⟩)
    · by_cases k_1 : q = 1
      · subst k_1
        refine lv_tableIn (tgt := 54) (off := 38) cx.x cx.b d_B_about_16 (by decide) (by decide) (by decide) (by decide) ?_
        refine lv_aload cx.x cx.b d_B_about_54 (lv_at hl 0 rfl) ?_
        refine gf_B_122_Tp cx hty.ob rfl d_B_about_56 ?_
        rw [← hQ]
        exact hx_reti cx.x cx.b cx.r cx.k rfl hlo (fun _ h => h) (Nat.le_of_ble_eq_true rfl) (Nat.le_of_ble_eq_true rfl) d_B_about_59 (⟨rfl, rfl⟩)
      · by_cases k_2 : q = 2
        · subst k_2
          refine lv_tableIn (tgt := 60) (off := 44) cx.x cx.b d_B_about_16 (by decide) (by decide) (by decide) (by decide) ?_
          refine lv_aload cx.x cx.b d_B_about_60 (lv_at hl 0 rfl) ?_
          refine gf_B_125_Tp cx hty.ob rfl d_B_about_62 ?_
          refine hx_calli (iv_B_110_Sf cx (c_Sf_count l hE hty.2.2.1.1) hty.2.2.1.1.1 rfl hl.1 rfl (Nat.le_of_ble_eq_true rfl) d_B_about_65 ⟨Nat.le_of_ble_eq_true rfl, Nat.le_of_ble_eq_true rfl⟩ ⟨Nat.le_of_ble_eq_true rfl, Nat.le_of_ble_eq_true rfl⟩) hlo (fun _ h => h) (fun r102 H101 locs hp100 hlo => ?_)
          obtain ⟨hp100, hH9⟩ := hp100
          have hH9 := hH9.symm
          subst hH9
          rw [← hQ]
          exact hx_reti cx.x cx.b cx.r cx.k rfl hlo (fun _ h => h) (Nat.le_of_ble_eq_true rfl) (Nat.le_of_ble_eq_true rfl) d_B_about_68 (⟨hp100, rfl⟩)
        · by_cases k_3 : q = 3
          · subst k_3
            refine lv_tableIn (tgt := 69) (off := 53) cx.x cx.b d_B_about_16 (by decide) (by decide) (by decide) (by decide) ?_
            refine lv_aload cx.x cx.b d_B_about_69 (lv_at hl 0 rfl) ?_
            refine gf_B_128_Tp cx hty.ob rfl d_B_about_71 ?_
            refine hx_calli (iv_B_38_Rw cx (c_Rw_length l hE hty.1.2.1) hty.1.2.1.1 rfl hl.1 rfl (Nat.le_of_ble_eq_true rfl) d_B_about_74 ⟨Nat.le_of_ble_eq_true rfl, Nat.le_of_ble_eq_true rfl⟩ ⟨Nat.le_of_ble_eq_true rfl, Nat.le_of_ble_eq_true rfl⟩) hlo (fun _ h => h) (fun r105 H104 locs hp103 hlo => ?_)
            obtain ⟨hp103, hH9⟩ := hp103
            have hH9 := hH9.symm
            subst hH9
            rw [← hQ]
            exact hx_reti cx.x cx.b cx.r cx.k rfl hlo (fun _ h => h) (Nat.le_of_ble_eq_true rfl) (Nat.le_of_ble_eq_true rfl) d_B_about_77 (⟨hp103, rfl⟩)
          · have nk_0 := lv_neT k_0 (show (0 : Int32).toInt = 0 from rfl)
            have nk_1 := lv_neT k_1 (show (1 : Int32).toInt = 1 from rfl)
            have nk_2 := lv_neT k_2 (show (2 : Int32).toInt = 2 from rfl)
            have nk_3 := lv_neT k_3 (show (3 : Int32).toInt = 3 from rfl)
            refine lv_tableOut (tgt := 78) cx.x cx.b d_B_about_16 (by omega) (by decide) ?_
            refine lv_iconst (v := (-1)) cx.x cx.b d_B_about_78 (by decide) ?_
            rw [← hQ]
            exact hx_reti cx.x cx.b cx.r cx.k rfl hlo (fun _ h => h) (Nat.le_of_ble_eq_true rfl) (Nat.le_of_ble_eq_true rfl) d_B_about_79 (⟨by unfold abV; simp only [if_neg k_0, if_neg k_1, if_neg k_2, if_neg k_3], rfl⟩)

set_option maxHeartbeats 4000000 in
set_option maxRecDepth 100000 in
theorem c_B_member (l : Launch) {E : hE} (hE : EnvOk E) {H : Heap} {a tr tarr fr farr dg n1 n2 n3 bl bm fm fn : Nat} {sa sb : SA} {us sp vs sq : List TV} {txt fx : List Nat} {ot fo : Bool} {ds : List (Nat × Nat × Nat)} (h : BTx E H a tr tarr fr farr dg n1 n2 n3 bl bm sa sb us sp vs sq txt ot fx fo ds fm fn) (b t k q : Int32) : Ct l E y_B_member b_B_member 6 (some .int) (rmA 6 0 0) [.ref a, .int b, .int t, .int k, .int q] H (hQi (fun r H1 => r = meV (mbV (tySel b us vs t) k) q ∧ H1 = H)) := by
  refine hx_enter hE (by decide) (Nat.le_of_ble_eq_true rfl) ?_
  intro p e s m args below meth c ls cx hnm hl
  have hl : lv_has ls 6 [(0, .ref a), (1, .int b), (2, .int t), (3, .int k), (4, .int q)] := hl
  have hlo : hLo (eB E) [] := hLo.nil
  generalize hQ : MQ below _ args s _ _ _ = Q
  obtain ⟨h1, hBa, h3, h4, h5, h6, h7, hN⟩ := h
  refine lv_aload_n cx.x cx.b d_B_member_0 rfl (lv_at hl 0 rfl) ?_
  refine lv_iload_n cx.x cx.b d_B_member_1 rfl (lv_at hl 1 rfl) ?_
  refine lv_iload_n cx.x cx.b d_B_member_2 rfl (lv_at hl 2 rfl) ?_
  refine lv_iload_n cx.x cx.b d_B_member_3 rfl (lv_at hl 3 rfl) ?_
  have htyA : ∀ x, tySel b us vs t = some x → Ty E H x := fun x hx => by rcases tySel_mem hx with e | e; exact h6.2.2.2.1.2.1 x (List.mem_append_left _ e); exact h7.2.2.2.1.2.1 x (List.mem_append_left _ e)
  have hdA : ∀ d, mbV (tySel b us vs t) k = some d → Dc E H d.1 none d.2.2 false false := fun d hd => by cases ho : tySel b us vs t with | none => rw [ho] at hd; cases hd | some x => rw [ho] at hd; exact ((htyA x ho).2.2.1.2.1 d (List.mem_append_left _ (mbV_mem hd))).1
  refine hx_callr (iv_B_131_B cx (c_B_memberAt l hE ⟨h1, hBa, h3, h4, h5, h6, h7, hN⟩ b t k) h1 rfl hl.1 rfl (Nat.le_of_ble_eq_true rfl) d_B_member_4 ⟨Nat.le_of_ble_eq_true rfl, Nat.le_of_ble_eq_true rfl⟩ ⟨Nat.le_of_ble_eq_true rfl, Nat.le_of_ble_eq_true rfl⟩) hlo (fun _ h => h) (fun r108 H107 locs hp106 hlo => ?_)
  obtain ⟨hp106, hH9⟩ := hp106
  have hH9 := hH9.symm
  subst hH9
  generalize hto : mbV (tySel b us vs t) k = o9 at hp106 hdA hQ
  cases o9
  · subst hp106
    show W p l e _ s m args below meth c H locs _ _ _ (F0 m 7 ls [.null])
    refine lv_astoreN (lv' := [(5, .null), (0, .ref a), (1, .int b), (2, .int t), (3, .int k), (4, .int q)]) cx.x cx.b d_B_member_7 hl (by decide) rfl (fun ls hl => ?_)
    refine lv_aloadN cx.x cx.b d_B_member_9 (lv_at hl 0 rfl) ?_
    refine lv_ifnonnullN cx.x cx.b d_B_member_11 ?_
    refine lv_iconst (v := (-1)) cx.x cx.b d_B_member_14 (by decide) ?_
    rw [← hQ]
    exact hx_reti cx.x cx.b cx.r cx.k rfl hlo (fun _ h => h) (Nat.le_of_ble_eq_true rfl) (Nat.le_of_ble_eq_true rfl) d_B_member_15 (⟨rfl, rfl⟩)
  · rename_i x9
    subst hp106
    have hde := hdA x9 rfl
    show W p l e _ s m args below meth c H locs _ _ _ (F0 m 7 ls [.ref (x9).1.1])
    refine lv_astore (lv' := [(5, .ref ((x9).1.1)), (0, .ref a), (1, .int b), (2, .int t), (3, .int k), (4, .int q)]) cx.x cx.b d_B_member_7 hl (by decide) rfl (fun ls hl => ?_)
    refine lv_aload cx.x cx.b d_B_member_9 (lv_at hl 0 rfl) ?_
    refine lv_ifnonnull (tgt := 16) cx.x cx.b d_B_member_11 (by decide) ?_
    refine lv_iload cx.x cx.b d_B_member_16 (lv_at hl 5 rfl) ?_
    by_cases k_0 : q = 0
    · subst k_0
      refine lv_tableIn (tgt := 48) (off := 30) cx.x cx.b d_B_member_18 (by decide) (by decide) (by decide) (by decide) ?_
      refine lv_aload cx.x cx.b d_B_member_48 (lv_at hl 0 rfl) ?_
      refine gf_B_135_Dc cx hde.1 rfl d_B_member_50 ?_
      rw [← hQ]
      exact hx_reti cx.x cx.b cx.r cx.k rfl hlo (fun _ h => h) (Nat.le_of_ble_eq_true rfl) (Nat.le_of_ble_eq_true rfl) d_B_member_53 (⟨rfl, rfl⟩)
    · by_cases k_1 : q = 1
      · subst k_1
        refine lv_tableIn (tgt := 54) (off := 36) cx.x cx.b d_B_member_18 (by decide) (by decide) (by decide) (by decide) ?_
        refine lv_aload cx.x cx.b d_B_member_54 (lv_at hl 0 rfl) ?_
        refine gf_B_138_Dc cx hde.1 rfl d_B_member_56 ?_
        rw [← hQ]
        exact hx_reti cx.x cx.b cx.r cx.k rfl hlo (fun _ h => h) (Nat.le_of_ble_eq_true rfl) (Nat.le_of_ble_eq_true rfl) d_B_member_59 (⟨rfl, rfl⟩)
      · by_cases k_2 : q = 2
        · subst k_2
          refine lv_tableIn (tgt := 60) (off := 42) cx.x cx.b d_B_member_18 (by decide) (by decide) (by decide) (by decide) ?_
          refine lv_aload cx.x cx.b d_B_member_60 (lv_at hl 0 rfl) ?_
          refine gf_B_139_Dc cx hde.1 rfl d_B_member_62 ?_
          refine hx_calli (iv_B_38_Rw cx (c_Rw_length l hE hde.2.1) hde.2.1.1 rfl hl.1 rfl (Nat.le_of_ble_eq_true rfl) d_B_member_65 ⟨Nat.le_of_ble_eq_true rfl, Nat.le_of_ble_eq_true rfl⟩ ⟨Nat.le_of_ble_eq_true rfl, Nat.le_of_ble_eq_true rfl⟩) hlo (fun _ h => h) (fun r111 H110 locs hp109 hlo => ?_)
          obtain ⟨hp109, hH9⟩ := hp109
          have hH9 := hH9.symm
          subst hH9
          rw [← hQ]
          exact hx_reti cx.x cx.b cx.r cx.k rfl hlo (fun _ h => h) (Nat.le_of_ble_eq_true rfl) (Nat.le_of_ble_eq_true rfl) d_B_member_68 (⟨hp109, rfl⟩)
        · by_cases k_3 : q = 3
          · subst k_3
            refine lv_tableIn (tgt := 69) (off := 51) cx.x cx.b d_B_member_18 (by decide) (by decide) (by decide) (by decide) ?_
            refine lv_aload cx.x cx.b d_B_member_69 (lv_at hl 0 rfl) ?_
            refine gf_B_140_Dc cx hde.1 rfl d_B_member_71 ?_
            refine hx_calli (iv_B_38_Rw cx (c_Rw_length l hE hde.2.2.1) hde.2.2.1.1 rfl hl.1 rfl (Nat.le_of_ble_eq_true rfl) d_B_member_74 ⟨Nat.le_of_ble_eq_true rfl, Nat.le_of_ble_eq_true rfl⟩ ⟨Nat.le_of_ble_eq_true rfl, Nat.le_of_ble_eq_true rfl⟩) hlo (fun _ h => h) (fun r114 H113 locs hp112 hlo => ?_)
            obtain ⟨hp112, hH9⟩ := hp112
            have hH9 := hH9.symm
            subst hH9
            rw [← hQ]
            exact hx_reti cx.x cx.b cx.r cx.k rfl hlo (fun _ h => h) (Nat.le_of_ble_eq_true rfl) (Nat.le_of_ble_eq_true rfl) d_B_member_77 (⟨hp112, rfl⟩)
          · have nk_0 := lv_neT k_0 (show (0 : Int32).toInt = 0 from rfl)
            have nk_1 := lv_neT k_1 (show (1 : Int32).toInt = 1 from rfl)
            have nk_2 := lv_neT k_2 (show (2 : Int32).toInt = 2 from rfl)
            have nk_3 := lv_neT k_3 (show (3 : Int32).toInt = 3 from rfl)
            refine lv_tableOut (tgt := 78) cx.x cx.b d_B_member_18 (by omega) (by decide) ?_
            refine lv_iconst (v := (-1)) cx.x cx.b d_B_member_78 (by decide) ?_
            rw [← hQ]
            exact hx_reti cx.x cx.b cx.r cx.k rfl hlo (fun _ h => h) (Nat.le_of_ble_eq_true rfl) (Nat.le_of_ble_eq_true rfl) d_B_member_79 (⟨by unfold meV; simp only [if_neg k_0, if_neg k_1, if_neg k_2, if_neg k_3], rfl⟩)

set_option maxHeartbeats 4000000 in
set_option maxRecDepth 100000 in
theorem c_B_character (l : Launch) {E : hE} (hE : EnvOk E) {H : Heap} {a tr tarr fr farr dg n1 n2 n3 bl bm fm fn : Nat} {sa sb : SA} {us sp vs sq : List TV} {txt fx : List Nat} {ot fo : Bool} {ds : List (Nat × Nat × Nat)} (h : BTx E H a tr tarr fr farr dg n1 n2 n3 bl bm sa sb us sp vs sq txt ot fx fo ds fm fn) (b t k q i : Int32) : Ct l E y_B_character b_B_character 7 (some .int) (rmA 6 0 0) [.ref a, .int b, .int t, .int k, .int q, .int i] H (hQi (fun r H1 => r = chV (if q = -1 then (tySel b us vs t).map (·.1) else mbV (tySel b us vs t) k) q i ∧ H1 = H)) := by
  refine hx_enter hE (by decide) (Nat.le_of_ble_eq_true rfl) ?_
  intro p e s m args below meth c ls cx hnm hl
  have hl : lv_has ls 7 [(0, .ref a), (1, .int b), (2, .int t), (3, .int k), (4, .int q), (5, .int i)] := hl
  have hlo : hLo (eB E) [] := hLo.nil
  generalize hQ : MQ below _ args s _ _ _ = Q
  obtain ⟨h1, hBa, h3, h4, h5, h6, h7, hN⟩ := h
  refine lv_iload cx.x cx.b d_B_character_0 (lv_at hl 4 rfl) ?_
  refine lv_iconst (v := (-1)) cx.x cx.b d_B_character_2 (by decide) ?_
  refine lv_icmp_ne (tgt := 15) cx.x cx.b d_B_character_3 (by decide) (fun c1 => ?_) (fun c1 => ?_)
  · rw [if_neg c1] at hQ
    refine lv_aload_n cx.x cx.b d_B_character_15 rfl (lv_at hl 0 rfl) ?_
    refine lv_iload_n cx.x cx.b d_B_character_16 rfl (lv_at hl 1 rfl) ?_
    refine lv_iload_n cx.x cx.b d_B_character_17 rfl (lv_at hl 2 rfl) ?_
    refine lv_iload_n cx.x cx.b d_B_character_18 rfl (lv_at hl 3 rfl) ?_
    have htyA : ∀ x, tySel b us vs t = some x → Ty E H x := fun x hx => by rcases tySel_mem hx with e | e; exact h6.2.2.2.1.2.1 x (List.mem_append_left _ e); exact h7.2.2.2.1.2.1 x (List.mem_append_left _ e)
    have hdA : ∀ d, mbV (tySel b us vs t) k = some d → Dc E H d.1 none d.2.2 false false := fun d hd => by cases ho : tySel b us vs t with | none => rw [ho] at hd; cases hd | some x => rw [ho] at hd; exact ((htyA x ho).2.2.1.2.1 d (List.mem_append_left _ (mbV_mem hd))).1
    refine hx_callr (iv_B_131_B cx (c_B_memberAt l hE ⟨h1, hBa, h3, h4, h5, h6, h7, hN⟩ b t k) h1 rfl hl.1 rfl (Nat.le_of_ble_eq_true rfl) d_B_character_19 ⟨Nat.le_of_ble_eq_true rfl, Nat.le_of_ble_eq_true rfl⟩ ⟨Nat.le_of_ble_eq_true rfl, Nat.le_of_ble_eq_true rfl⟩) hlo (fun _ h => h) (fun r117 H116 locs hp115 hlo => ?_)
    obtain ⟨hp115, hH9⟩ := hp115
    have hH9 := hH9.symm
    subst hH9
    generalize hto : mbV (tySel b us vs t) k = o9 at hp115 hdA hQ
    cases o9
    · subst hp115
      show W p l e _ s m args below meth c H locs _ _ _ (F0 m 22 ls [.null])
      refine lv_astoreN (lv' := [(6, .null), (0, .ref a), (1, .int b), (2, .int t), (3, .int k), (4, .int q), (5, .int i)]) cx.x cx.b d_B_character_22 hl (by decide) rfl (fun ls hl => ?_)
      refine lv_aloadN cx.x cx.b d_B_character_24 (lv_at hl 0 rfl) ?_
      refine lv_ifnonnullN cx.x cx.b d_B_character_26 ?_
      refine lv_iconst (v := (-1)) cx.x cx.b d_B_character_29 (by decide) ?_
      rw [← hQ]
      exact hx_reti cx.x cx.b cx.r cx.k rfl hlo (fun _ h => h) (Nat.le_of_ble_eq_true rfl) (Nat.le_of_ble_eq_true rfl) d_B_character_30 (⟨rfl, rfl⟩)
    · rename_i x9
      subst hp115
      have hde := hdA x9 rfl
      show W p l e _ s m args below meth c H locs _ _ _ (F0 m 22 ls [.ref (x9).1.1])
      refine lv_astore (lv' := [(6, .ref ((x9).1.1)), (0, .ref a), (1, .int b), (2, .int t), (3, .int k), (4, .int q), (5, .int i)]) cx.x cx.b d_B_character_22 hl (by decide) rfl (fun ls hl => ?_)
      refine lv_aload cx.x cx.b d_B_character_24 (lv_at hl 0 rfl) ?_
      refine lv_ifnonnull (tgt := 31) cx.x cx.b d_B_character_26 (by decide) ?_
      refine lv_iload cx.x cx.b d_B_character_31 (lv_at hl 5 rfl) ?_
      by_cases k_m1 : q = (-1)
      · subst k_m1
        refine lv_tableIn (tgt := 60) (off := 27) cx.x cx.b d_B_character_33 (by decide) (by decide) (by decide) (by decide) ?_
        exact absurd rfl c1
      · by_cases k_0 : q = 0
        · subst k_0
          refine lv_tableIn (tgt := 60) (off := 27) cx.x cx.b d_B_character_33 (by decide) (by decide) (by decide) (by decide) ?_
          refine lv_aload cx.x cx.b d_B_character_60 (lv_at hl 0 rfl) ?_
          refine gf_B_139_Dc cx hde.1 rfl d_B_character_62 ?_
          refine lv_iload cx.x cx.b d_B_character_65 (lv_at hl 6 rfl) ?_
          refine hx_calli (iv_B_67_Rw cx (c_Rw_at l hE hde.2.1 i) hde.2.1.1 rfl hl.1 rfl (Nat.le_of_ble_eq_true rfl) d_B_character_67 ⟨Nat.le_of_ble_eq_true rfl, Nat.le_of_ble_eq_true rfl⟩ ⟨Nat.le_of_ble_eq_true rfl, Nat.le_of_ble_eq_true rfl⟩) hlo (fun _ h => h) (fun r120 H119 locs hp118 hlo => ?_)
          obtain ⟨hp118, hH9⟩ := hp118
          have hH9 := hH9.symm
          subst hH9
          rw [← hQ]
          exact hx_reti cx.x cx.b cx.r cx.k rfl hlo (fun _ h => h) (Nat.le_of_ble_eq_true rfl) (Nat.le_of_ble_eq_true rfl) d_B_character_70 (⟨hp118, rfl⟩)
        · by_cases k_1 : q = 1
          · subst k_1
            refine lv_tableIn (tgt := 71) (off := 38) cx.x cx.b d_B_character_33 (by decide) (by decide) (by decide) (by decide) ?_
            refine lv_aload cx.x cx.b d_B_character_71 (lv_at hl 0 rfl) ?_
            refine gf_B_140_Dc cx hde.1 rfl d_B_character_73 ?_
            refine lv_iload cx.x cx.b d_B_character_76 (lv_at hl 6 rfl) ?_
            refine hx_calli (iv_B_67_Rw cx (c_Rw_at l hE hde.2.2.1 i) hde.2.2.1.1 rfl hl.1 rfl (Nat.le_of_ble_eq_true rfl) d_B_character_78 ⟨Nat.le_of_ble_eq_true rfl, Nat.le_of_ble_eq_true rfl⟩ ⟨Nat.le_of_ble_eq_true rfl, Nat.le_of_ble_eq_true rfl⟩) hlo (fun _ h => h) (fun r123 H122 locs hp121 hlo => ?_)
            obtain ⟨hp121, hH9⟩ := hp121
            have hH9 := hH9.symm
            subst hH9
            rw [← hQ]
            exact hx_reti cx.x cx.b cx.r cx.k rfl hlo (fun _ h => h) (Nat.le_of_ble_eq_true rfl) (Nat.le_of_ble_eq_true rfl) d_B_character_81 (⟨hp121, rfl⟩)
          · have nk_m1 := lv_neT k_m1 (show ((-1) : Int32).toInt = (-1) from rfl)
            have nk_0 := lv_neT k_0 (show (0 : Int32).toInt = 0 from rfl)
            have nk_1 := lv_neT k_1 (show (1 : Int32).toInt = 1 from rfl)
            refine lv_tableOut (tgt := 82) cx.x cx.b d_B_character_33 (by omega) (by decide) ?_
            refine lv_iconst (v := (-1)) cx.x cx.b d_B_character_82 (by decide) ?_
            rw [← hQ]
            exact hx_reti cx.x cx.b cx.r cx.k rfl hlo (fun _ h => h) (Nat.le_of_ble_eq_true rfl) (Nat.le_of_ble_eq_true rfl) d_B_character_83 (⟨by unfold chV; simp only [if_neg k_m1, if_neg k_0, if_neg k_1], rfl⟩)
  · subst c1
    rw [if_pos rfl] at hQ
    refine lv_aload_n cx.x cx.b d_B_character_6 rfl (lv_at hl 0 rfl) ?_
    refine lv_iload_n cx.x cx.b d_B_character_7 rfl (lv_at hl 1 rfl) ?_
    refine lv_iload_n cx.x cx.b d_B_character_8 rfl (lv_at hl 2 rfl) ?_
    have htyA : ∀ x, tySel b us vs t = some x → Ty E H x := fun x hx => by rcases tySel_mem hx with e | e; exact h6.2.2.2.1.2.1 x (List.mem_append_left _ e); exact h7.2.2.2.1.2.1 x (List.mem_append_left _ e)
    refine hx_callr (iv_B_113_B cx (c_B_typeAt l hE ⟨h1, hBa, h3, h4, h5, h6, h7, hN⟩ b t) h1 rfl hl.1 rfl (Nat.le_of_ble_eq_true rfl) d_B_character_9 ⟨Nat.le_of_ble_eq_true rfl, Nat.le_of_ble_eq_true rfl⟩ ⟨Nat.le_of_ble_eq_true rfl, Nat.le_of_ble_eq_true rfl⟩) hlo (fun _ h => h) (fun r126 H125 locs hp124 hlo => ?_)
    obtain ⟨hp124, hH9⟩ := hp124
    have hH9 := hH9.symm
    subst hH9
    generalize hto : tySel b us vs t = o9 at hp124 htyA hQ
    cases o9
    · subst hp124
      show W p l e _ s m args below meth c H locs _ _ _ (F0 m 12 ls [.null])
      refine lv_goto (tgt := 22) cx.x cx.b d_B_character_12 (by decide) ?_
      refine lv_astoreN (lv' := [(6, .null), (0, .ref a), (1, .int b), (2, .int t), (3, .int k), (4, .int (-1)), (5, .int i)]) cx.x cx.b d_B_character_22 hl (by decide) rfl (fun ls hl => ?_)
      refine lv_aloadN cx.x cx.b d_B_character_24 (lv_at hl 0 rfl) ?_
      refine lv_ifnonnullN cx.x cx.b d_B_character_26 ?_
      refine lv_iconst (v := (-1)) cx.x cx.b d_B_character_29 (by decide) ?_
      rw [← hQ]
      exact hx_reti cx.x cx.b cx.r cx.k rfl hlo (fun _ h => h) (Nat.le_of_ble_eq_true rfl) (Nat.le_of_ble_eq_true rfl) d_B_character_30 (⟨rfl, rfl⟩)
    · rename_i x9
      subst hp124
      have hty := htyA x9 rfl
      show W p l e _ s m args below meth c H locs _ _ _ (F0 m 12 ls [.ref (x9).1.1.1])
      refine lv_goto (tgt := 22) cx.x cx.b d_B_character_12 (by decide) ?_
      refine lv_astore (lv' := [(6, .ref ((x9).1.1.1)), (0, .ref a), (1, .int b), (2, .int t), (3, .int k), (4, .int (-1)), (5, .int i)]) cx.x cx.b d_B_character_22 hl (by decide) rfl (fun ls hl => ?_)
      refine lv_aload cx.x cx.b d_B_character_24 (lv_at hl 0 rfl) ?_
      refine lv_ifnonnull (tgt := 31) cx.x cx.b d_B_character_26 (by decide) ?_
      refine lv_iload cx.x cx.b d_B_character_31 (lv_at hl 5 rfl) ?_
      refine lv_tableIn (tgt := 60) (off := 27) cx.x cx.b d_B_character_33 (by decide) (by decide) (by decide) (by decide) ?_
      refine lv_aload cx.x cx.b d_B_character_60 (lv_at hl 0 rfl) ?_
      refine gf_B_139_Tp cx hty.ob rfl d_B_character_62 ?_
      refine lv_iload cx.x cx.b d_B_character_65 (lv_at hl 6 rfl) ?_
      refine hx_calli (iv_B_67_Rw cx (c_Rw_at l hE hty.1.2.1 i) hty.1.2.1.1 rfl hl.1 rfl (Nat.le_of_ble_eq_true rfl) d_B_character_67 ⟨Nat.le_of_ble_eq_true rfl, Nat.le_of_ble_eq_true rfl⟩ ⟨Nat.le_of_ble_eq_true rfl, Nat.le_of_ble_eq_true rfl⟩) hlo (fun _ h => h) (fun r129 H128 locs hp127 hlo => ?_)
      obtain ⟨hp127, hH9⟩ := hp127
      have hH9 := hH9.symm
      subst hH9
      rw [← hQ]
      exact hx_reti cx.x cx.b cx.r cx.k rfl hlo (fun _ h => h) (Nat.le_of_ble_eq_true rfl) (Nat.le_of_ble_eq_true rfl) d_B_character_70 (⟨hp127, rfl⟩)

set_option maxHeartbeats 4000000 in
set_option maxRecDepth 100000 in
theorem c_B_diagnostic (l : Launch) {E : hE} (hE : EnvOk E) {H : Heap} {a tr tarr fr farr dg n1 n2 n3 bl bm fm fn : Nat} {sa sb : SA} {us sp vs sq : List TV} {txt fx : List Nat} {ot fo : Bool} {ds : List (Nat × Nat × Nat)} (h : BTx E H a tr tarr fr farr dg n1 n2 n3 bl bm sa sb us sp vs sq txt ot fx fo ds fm fn) (hd : ds.length < 1000) (i q : Int32) : Ct l E y_B_diagnostic b_B_diagnostic 3 (some .int) (rmA 2 0 0) [.ref a, .int i, .int q] H (hQi (fun r H1 => r = dgV ds i q ∧ H1 = H)) := by
  refine hx_enter hE (by decide) (Nat.le_of_ble_eq_true rfl) ?_
  intro p e s m args below meth c ls cx hnm hl
  have hl : lv_has ls 3 [(0, .ref a), (1, .int i), (2, .int q)] := hl
  have hlo : hLo (eB E) [] := hLo.nil
  generalize hQ : MQ below _ args s _ _ _ = Q
  obtain ⟨h1, hBa, h3, h4, h5, h6, h7, hN⟩ := h
  have h5o := h5
  obtain ⟨ho5, ⟨f1, f2, f3, a1, a2, a3, hf⟩, -, -⟩ := h5o
  unfold dgV at hQ
  refine lv_iload_n cx.x cx.b d_B_diagnostic_0 rfl (lv_at hl 1 rfl) ?_
  refine lv_if_lt (tgt := 15) cx.x cx.b d_B_diagnostic_1 (by decide) (fun c1 => ?_) (fun c1 => ?_)
  · rw [if_pos c1] at hQ
    refine lv_iconst (v := (-1)) cx.x cx.b d_B_diagnostic_15 (by decide) ?_
    rw [← hQ]
    exact hx_reti cx.x cx.b cx.r cx.k rfl hlo (fun _ h => h) (Nat.le_of_ble_eq_true rfl) (Nat.le_of_ble_eq_true rfl) d_B_diagnostic_16 (⟨rfl, rfl⟩)
  · rw [if_neg c1] at hQ
    refine lv_iload_n cx.x cx.b d_B_diagnostic_4 rfl (lv_at hl 1 rfl) ?_
    refine lv_aload_n cx.x cx.b d_B_diagnostic_5 rfl (lv_at hl 0 rfl) ?_
    refine gf_B_24_B cx h1 rfl d_B_diagnostic_6 ?_
    refine hx_calli (iv_B_93_Dg cx (c_Dg_kept l hE h5 hd) h5.1 rfl hl.1 rfl (Nat.le_of_ble_eq_true rfl) d_B_diagnostic_9 ⟨Nat.le_of_ble_eq_true rfl, Nat.le_of_ble_eq_true rfl⟩ ⟨Nat.le_of_ble_eq_true rfl, Nat.le_of_ble_eq_true rfl⟩) hlo (fun _ h => h) (fun r132 H131 locs hp130 hlo => ?_)
    obtain ⟨hp130, hH9⟩ := hp130
    have hH9 := hH9.symm
    subst hH9
    subst hp130
    have hmn : min ds.length 20 ≤ 20 ∧ min ds.length 20 ≤ ds.length := ⟨Nat.min_le_right _ _, Nat.min_le_left _ _⟩
    refine lv_icmp_lt (tgt := 17) cx.x cx.b d_B_diagnostic_12 (by decide) (fun c2 => ?_) (fun c2 => ?_)
    · rw [if_neg (Int32.not_le.mpr c2)] at hQ
      rcases pk_ix i (n := min ds.length 20) (by omega) with z | z | ⟨j, hj, z⟩
      · exact absurd z c1
      · exact absurd c2 (Int32.not_lt.mpr z)
      subst z
      rw [nI_clamp (by omega)] at hQ
      have hfj := hf j (by omega) (by omega)
      refine lv_iload_n cx.x cx.b d_B_diagnostic_17 rfl (lv_at hl 2 rfl) ?_
      by_cases k_0 : q = 0
      · subst k_0
        refine lv_tableIn (tgt := 44) (off := 26) cx.x cx.b d_B_diagnostic_18 (by decide) (by decide) (by decide) (by decide) ?_
        refine lv_aload_n cx.x cx.b d_B_diagnostic_44 rfl (lv_at hl 0 rfl) ?_
        refine gf_B_24_B cx h1 rfl d_B_diagnostic_45 ?_
        refine gf_B_96_Dg cx h5.1 rfl d_B_diagnostic_48 ?_
        refine lv_iload_n cx.x cx.b d_B_diagnostic_51 rfl (lv_at hl 1 rfl) ?_
        refine hx_iald cx.x cx.b cx.K 0 a1 rfl (vp_in_nI (show j < 20 by omega) (by omega)) d_B_diagnostic_52 ?_
        refine lv_topi (fun x133 e_x133 => ?_)
        rw [nI_clamp (by omega)] at e_x133
        rw [← hQ]
        exact hx_reti cx.x cx.b cx.r cx.k rfl hlo (fun _ h => h) (Nat.le_of_ble_eq_true rfl) (Nat.le_of_ble_eq_true rfl) d_B_diagnostic_53 (⟨by rw [e_x133]; exact hfj.1, rfl⟩)
      · by_cases k_1 : q = 1
        · subst k_1
          refine lv_tableIn (tgt := 54) (off := 36) cx.x cx.b d_B_diagnostic_18 (by decide) (by decide) (by decide) (by decide) ?_
          refine lv_aload_n cx.x cx.b d_B_diagnostic_54 rfl (lv_at hl 0 rfl) ?_
          refine gf_B_24_B cx h1 rfl d_B_diagnostic_55 ?_
          refine gf_B_100_Dg cx h5.1 rfl d_B_diagnostic_58 ?_
          refine lv_iload_n cx.x cx.b d_B_diagnostic_61 rfl (lv_at hl 1 rfl) ?_
          refine hx_iald cx.x cx.b cx.K 0 a2 rfl (vp_in_nI (show j < 20 by omega) (by omega)) d_B_diagnostic_62 ?_
          refine lv_topi (fun x134 e_x134 => ?_)
          rw [nI_clamp (by omega)] at e_x134
          rw [← hQ]
          exact hx_reti cx.x cx.b cx.r cx.k rfl hlo (fun _ h => h) (Nat.le_of_ble_eq_true rfl) (Nat.le_of_ble_eq_true rfl) d_B_diagnostic_63 (⟨by rw [e_x134]; exact hfj.2.1, rfl⟩)
        · by_cases k_2 : q = 2
          · subst k_2
            refine lv_tableIn (tgt := 64) (off := 46) cx.x cx.b d_B_diagnostic_18 (by decide) (by decide) (by decide) (by decide) ?_
            refine lv_aload_n cx.x cx.b d_B_diagnostic_64 rfl (lv_at hl 0 rfl) ?_
            refine gf_B_24_B cx h1 rfl d_B_diagnostic_65 ?_
            refine gf_B_103_Dg cx h5.1 rfl d_B_diagnostic_68 ?_
            refine lv_iload_n cx.x cx.b d_B_diagnostic_71 rfl (lv_at hl 1 rfl) ?_
            refine hx_iald cx.x cx.b cx.K 0 a3 rfl (vp_in_nI (show j < 20 by omega) (by omega)) d_B_diagnostic_72 ?_
            refine lv_topi (fun x135 e_x135 => ?_)
            rw [nI_clamp (by omega)] at e_x135
            rw [← hQ]
            exact hx_reti cx.x cx.b cx.r cx.k rfl hlo (fun _ h => h) (Nat.le_of_ble_eq_true rfl) (Nat.le_of_ble_eq_true rfl) d_B_diagnostic_73 (⟨by rw [e_x135]; exact hfj.2.2, rfl⟩)
          · have nk_0 := lv_neT k_0 (show (0 : Int32).toInt = 0 from rfl)
            have nk_1 := lv_neT k_1 (show (1 : Int32).toInt = 1 from rfl)
            have nk_2 := lv_neT k_2 (show (2 : Int32).toInt = 2 from rfl)
            refine lv_tableOut (tgt := 74) cx.x cx.b d_B_diagnostic_18 (by omega) (by decide) ?_
            rw [if_neg k_0, if_neg k_1, if_neg k_2] at hQ
            refine lv_iconst (v := (-1)) cx.x cx.b d_B_diagnostic_74 (by decide) ?_
            rw [← hQ]
            exact hx_reti cx.x cx.b cx.r cx.k rfl hlo (fun _ h => h) (Nat.le_of_ble_eq_true rfl) (Nat.le_of_ble_eq_true rfl) d_B_diagnostic_75 (⟨rfl, rfl⟩)
    · rw [if_pos (Int32.not_lt.mp c2)] at hQ
      refine lv_iconst (v := (-1)) cx.x cx.b d_B_diagnostic_15 (by decide) ?_
      rw [← hQ]
      exact hx_reti cx.x cx.b cx.r cx.k rfl hlo (fun _ h => h) (Nat.le_of_ble_eq_true rfl) (Nat.le_of_ble_eq_true rfl) d_B_diagnostic_16 (⟨rfl, rfl⟩)

set_option maxHeartbeats 4000000 in
set_option maxRecDepth 100000 in
theorem c_B_differ (l : Launch) {E : hE} (hE : EnvOk E) {H : Heap} {a tr tarr fr farr dg n1 n2 n3 bl bm fm fn : Nat} {sa sb : SA} {us sp vs sq : List TV} {txt fx : List Nat} {ot fo : Bool} {ds : List (Nat × Nat × Nat)} (h : BTx E H a tr tarr fr farr dg n1 n2 n3 bl bm sa sb us sp vs sq txt ot fx fo ds fm fn) : Ct l E y_B_differ b_B_differ 1 (some .int) (rmA 6 0 0) [.ref a] H (hQi (fun r H1 => r = nI (if fm = fn then fdT 2 us vs else 1) ∧ H1 = H)) := by
  refine hx_enter hE (by decide) (Nat.le_of_ble_eq_true rfl) ?_
  intro p e s m args below meth c ls cx hnm hl
  have hl : lv_has ls 1 [(0, .ref a)] := hl
  have hlo : hLo (eB E) [] := hLo.nil
  generalize hQ : MQ below _ args s _ _ _ = Q
  obtain ⟨h1, hBa, h3, h4, h5, h6, h7, hN⟩ := h
  refine lv_aload_n cx.x cx.b d_B_differ_0 rfl (lv_at hl 0 rfl) ?_
  refine gf_B_31_B cx h1 rfl d_B_differ_1 ?_
  refine lv_aload_n cx.x cx.b d_B_differ_4 rfl (lv_at hl 0 rfl) ?_
  refine gf_B_35_B cx h1 rfl d_B_differ_5 ?_
  refine hx_calli (iv_B_143_Bl cx (c_Bl_firstDifference l hE h6 h7) h6.1 rfl hl.1 rfl (Nat.le_of_ble_eq_true rfl) d_B_differ_8 ⟨Nat.le_of_ble_eq_true rfl, Nat.le_of_ble_eq_true rfl⟩ ⟨Nat.le_of_ble_eq_true rfl, Nat.le_of_ble_eq_true rfl⟩) hlo (fun _ h => h) (fun r138 H137 locs hp136 hlo => ?_)
  obtain ⟨hp136, hH9⟩ := hp136
  have hH9 := hH9.symm
  subst hH9
  rw [← hQ]
  exact hx_reti cx.x cx.b cx.r cx.k rfl hlo (fun _ h => h) (Nat.le_of_ble_eq_true rfl) (Nat.le_of_ble_eq_true rfl) d_B_differ_11 (⟨hp136, rfl⟩)

set_option maxHeartbeats 4000000 in
set_option maxRecDepth 100000 in
theorem c_B_lost (l : Launch) {E : hE} (hE : EnvOk E) {H : Heap} {a tr tarr fr farr dg n1 n2 n3 bl bm fm fn : Nat} {sa sb : SA} {us sp vs sq : List TV} {txt fx : List Nat} {ot fo : Bool} {ds : List (Nat × Nat × Nat)} (h : BTx E H a tr tarr fr farr dg n1 n2 n3 bl bm sa sb us sp vs sq txt ot fx fo ds fm fn) (b : Int32) : Ct l E y_B_lost b_B_lost 2 (some .int) (rmA 7 0 0) [.ref a, .int b] H (hQi (fun r H1 => r = (if b = 0 then nI (lmT (decide (fm = fn)) vs us) else if b = 1 then nI (lmT (decide (fn = fm)) us vs) else -1) ∧ H1 = H)) := by
  refine hx_enter hE (by decide) (Nat.le_of_ble_eq_true rfl) ?_
  intro p e s m args below meth c ls cx hnm hl
  have hl : lv_has ls 2 [(0, .ref a), (1, .int b)] := hl
  have hlo : hLo (eB E) [] := hLo.nil
  generalize hQ : MQ below _ args s _ _ _ = Q
  obtain ⟨h1, hBa, h3, h4, h5, h6, h7, hN⟩ := h
  refine lv_iload_n cx.x cx.b d_B_lost_0 rfl (lv_at hl 1 rfl) ?_
  by_cases k_0 : b = 0
  · subst k_0
    refine lv_lookup (tgt := 28) (off := 27) cx.x cx.b d_B_lost_1 (by decide) (by decide) (by decide) ?_
    refine lv_aload_n cx.x cx.b d_B_lost_28 rfl (lv_at hl 0 rfl) ?_
    refine gf_B_31_B cx h1 rfl d_B_lost_29 ?_
    refine lv_aload_n cx.x cx.b d_B_lost_32 rfl (lv_at hl 0 rfl) ?_
    refine gf_B_35_B cx h1 rfl d_B_lost_33 ?_
    refine hx_calli (iv_B_147_Bl cx (c_Bl_linesMissingIn l hE h6 h7) h6.1 rfl hl.1 rfl (Nat.le_of_ble_eq_true rfl) d_B_lost_36 ⟨Nat.le_of_ble_eq_true rfl, Nat.le_of_ble_eq_true rfl⟩ ⟨Nat.le_of_ble_eq_true rfl, Nat.le_of_ble_eq_true rfl⟩) hlo (fun _ h => h) (fun r141 H140 locs hp139 hlo => ?_)
    obtain ⟨hp139, hH9⟩ := hp139
    have hH9 := hH9.symm
    subst hH9
    rw [← hQ]
    exact hx_reti cx.x cx.b cx.r cx.k rfl hlo (fun _ h => h) (Nat.le_of_ble_eq_true rfl) (Nat.le_of_ble_eq_true rfl) d_B_lost_39 (⟨hp139, rfl⟩)
  · by_cases k_1 : b = 1
    · subst k_1
      refine lv_lookup (tgt := 40) (off := 39) cx.x cx.b d_B_lost_1 (by decide) (by decide) (by decide) ?_
      refine lv_aload_n cx.x cx.b d_B_lost_40 rfl (lv_at hl 0 rfl) ?_
      refine gf_B_35_B cx h1 rfl d_B_lost_41 ?_
      refine lv_aload_n cx.x cx.b d_B_lost_44 rfl (lv_at hl 0 rfl) ?_
      refine gf_B_31_B cx h1 rfl d_B_lost_45 ?_
      refine hx_calli (iv_B_147_Bl cx (c_Bl_linesMissingIn l hE h7 h6) h7.1 rfl hl.1 rfl (Nat.le_of_ble_eq_true rfl) d_B_lost_48 ⟨Nat.le_of_ble_eq_true rfl, Nat.le_of_ble_eq_true rfl⟩ ⟨Nat.le_of_ble_eq_true rfl, Nat.le_of_ble_eq_true rfl⟩) hlo (fun _ h => h) (fun r144 H143 locs hp142 hlo => ?_)
      obtain ⟨hp142, hH9⟩ := hp142
      have hH9 := hH9.symm
      subst hH9
      rw [← hQ]
      exact hx_reti cx.x cx.b cx.r cx.k rfl hlo (fun _ h => h) (Nat.le_of_ble_eq_true rfl) (Nat.le_of_ble_eq_true rfl) d_B_lost_51 (⟨hp142, rfl⟩)
    · refine lv_lookup (tgt := 52) (off := 51) cx.x cx.b d_B_lost_1 (by decide) (by show Op.lookupswitch.offset [(0, 27), (1, 39)] 51 _ = _; rw [lv_osw (a := 0) k_0 rfl, lv_osw (a := 1) k_1 rfl]; rfl) (by decide) ?_
      rw [if_neg k_0, if_neg k_1] at hQ
      refine lv_iconst (v := (-1)) cx.x cx.b d_B_lost_52 (by decide) ?_
      rw [← hQ]
      exact hx_reti cx.x cx.b cx.r cx.k rfl hlo (fun _ h => h) (Nat.le_of_ble_eq_true rfl) (Nat.le_of_ble_eq_true rfl) d_B_lost_53 (⟨rfl, rfl⟩)
