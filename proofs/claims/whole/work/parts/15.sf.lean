section CS
variable {E : hE} {p : Program} {l : Launch} {e : Env} {R : Room} {s : State} {m : MethodId} {args : Array Value} {below : List Frame} {meth : Method} {c : Code} {H : Heap} {locs : List Loc} {cells slots : Nat} {Q : State → Prop}
variable {cc : ByteArray} {pc nL : Nat} {ls : Array Slot} {rest : List Value} {own : String} {ret : Option FieldType}
/-- checkcast to Declaration, to Type -/
theorem hx_castD {index y : Nat} (cx : Cx E p s m args meth c own cc nL ret) (hlink : Cond.classLink own index "BaselineText$Declaration" ∈ tg) (hr : isD E H y) (hdg : decode cc pc = .ok (.checkcast index, 3)) (k : W p l e R s m args below meth c H locs cells slots Q (F0 m (pc + 3) ls (.ref y :: rest))) : W p l e R s m args below meth c H locs cells slots Q (F0 m pc ls (.ref y :: rest)) := by
  rcases hr with ⟨fs, h⟩ | ⟨fs, h⟩
  · exact va_castY cx.x cx.b cx.o (cx.ts _ hlink) (cx.X.2.2.1 ("BaselineText$Declaration", "BaselineText$Declaration") (List.mem_of_getElem? (i := 0) rfl)) (h.recv cx.K rfl) hdg k
  · exact va_castY cx.x cx.b cx.o (cx.ts _ hlink) (cx.X.2.2.1 ("BaselineText$Type", "BaselineText$Declaration") (List.mem_of_getElem? (i := 1) rfl)) (h.recv cx.K rfl) hdg k
theorem hx_castT {index y : Nat} {fs : List Value} (cx : Cx E p s m args meth c own cc nL ret) (hlink : Cond.classLink own index "BaselineText$Type" ∈ tg) (hr : hOb (eD E) classes H y 2 fs) (hdg : decode cc pc = .ok (.checkcast index, 3)) (k : W p l e R s m args below meth c H locs cells slots Q (F0 m (pc + 3) ls (.ref y :: rest))) : W p l e R s m args below meth c H locs cells slots Q (F0 m pc ls (.ref y :: rest)) :=
  va_castY cx.x cx.b cx.o (cx.ts _ hlink) (cx.X.2.2.1 ("BaselineText$Type", "BaselineText$Type") (List.mem_of_getElem? (i := 2) rfl)) (hr.recv cx.K rfl) hdg k
end CS
/-- what stands on a shelf: a declaration's addresses, the shelf of its members if it is a type, its value -/
abbrev EL : Type := DA × Option Nat × DV
def adr (d : EL) : Nat := d.1.1
/-- a shelf's addresses: itself, its list, the list's array and that one's room -/
abbrev SA : Type := Nat × Nat × Nat × Nat
/-- a SHELF: what is in use (in order), the addresses of the spare ones behind -/
def Sf (E : hE) (H : Heap) (sa : SA) (most : Nat) (ds : List EL) (sp : List Nat) : Prop := hOb (eD E) classes H sa.1 3 [.ref sa.2.1, .int (nI most), .int (nI ds.length)] ∧ Li E H sa.2.1 sa.2.2.1 sa.2.2.2 (ds.map adr ++ sp) ∧ eB E ≤ sa.1 ∧ sa.1 ≠ sa.2.1 ∧ (eB E ≤ sa.2.2.1 → sa.1 ≠ sa.2.2.1) ∧ most ≤ 12 ∧ ds.length + sp.length ≤ 14
/-- the cells of a shelf itself -/
def sfS (E : hE) (sa : SA) : Nat → Prop := fun q => q = sa.1 ∨ lS E sa.2.1 sa.2.2.1 q
/-- those on it are there, and apart from the shelf's cells -/
def SfD (E : hE) (H : Heap) (sa : SA) (ds : List EL) (sp : List Nat) : Prop := (∀ d ∈ ds, Dc E H d.1 d.2.1 d.2.2 false false) ∧ (∀ y ∈ sp, isD E H y) ∧ ∀ y ∈ ds.map adr ++ sp, ¬ sfS E sa y
theorem Dc.isDe {E : hE} {H : Heap} {ad : DA} {v : Option Nat} {dv : DV} {o1 o2 : Bool} (h : Dc E H ad v dv o1 o2) : isD E H ad.1 := by
  cases v with
  | none => exact Or.inl ⟨_, h.1⟩
  | some x => exact Or.inr ⟨_, h.1⟩
theorem SfD.isDe {E : hE} {H : Heap} {sa : SA} {ds : List EL} {sp : List Nat} (h : SfD E H sa ds sp) : ∀ y ∈ ds.map adr ++ sp, isD E H y := by
  intro y hy
  rcases List.mem_append.mp hy with q | q
  · obtain ⟨d, hd, rfl⟩ := List.mem_map.mp q
    exact (h.1 d hd).isDe
  · exact h.2.1 y q
theorem Sf.len {E : hE} {H : Heap} {sa : SA} {most : Nat} {ds : List EL} {sp : List Nat} (h : Sf E H sa most ds sp) : ds.length + sp.length ≤ 14 := h.2.2.2.2.2.2
theorem adr_getD {ds : List EL} {sp : List Nat} {i : Nat} (h : i < ds.length) : (ds.map adr ++ sp).getD i 0 = adr (ds.getD i default) := by
  rw [List.getD_eq_getElem?_getD, List.getElem?_append_left (by rw [List.length_map]; exact h), List.getElem?_map, List.getD_eq_getElem?_getD, List.getElem?_eq_getElem h]; rfl
theorem getD_memE {ds : List EL} {i : Nat} (h : i < ds.length) : ds.getD i default ∈ ds := by
  rw [List.getD_eq_getElem?_getD, List.getElem?_eq_getElem h]; exact List.getElem_mem h
/-- the place behind the last that is smaller -/
def plc (x : DV) : List EL → Nat → Nat → Nat
  | [], _, p => p
  | d :: r, i, p => plc x r (i + 1) (if cmpD d.2.2 x < 0 then i + 1 else p)
def insE (ds : List EL) (d : EL) : List EL := ds.take (plc d.2.2 ds 0 0) ++ d :: ds.drop (plc d.2.2 ds 0 0)
/-- the first that is alike -/
def alk (x : DV) : List EL → Option EL
  | [] => none
  | d :: r => if cmpD d.2.2 x = 0 then some d else alk x r
theorem drop_consE {ds : List EL} {i : Nat} (h : i < ds.length) : ds.drop i = ds.getD i default :: ds.drop (i + 1) := by
  rw [List.drop_eq_getElem_cons h, List.getD_eq_getElem?_getD, List.getElem?_eq_getElem h]; rfl
theorem plc_le (x : DV) : ∀ (r : List EL) (i p : Nat), p ≤ i → plc x r i p ≤ i + r.length
  | [], i, p, h => by unfold plc; simpa using h
  | d :: r, i, p, h => by
    unfold plc
    have := plc_le x r (i + 1) (if cmpD d.2.2 x < 0 then i + 1 else p) (by by_cases c : cmpD d.2.2 x < 0; rw [if_pos c]; omega; rw [if_neg c]; omega)
    rw [List.length_cons]; omega
theorem i32_lt {x : Int32} : x < 0 ↔ x.toInt < 0 := Int32.lt_iff_toInt_lt
theorem insA_map {ds : List EL} {sp : List Nat} {d : EL} {i : Nat} (h : i ≤ ds.length) : insA (ds.map adr ++ sp) i (adr d) = (ds.take i ++ d :: ds.drop i).map adr ++ sp := by
  unfold insA
  rw [List.take_append_of_le_length (by rw [List.length_map]; exact h), List.drop_append_of_le_length (by rw [List.length_map]; exact h), List.map_append, List.map_cons, List.map_take, List.map_drop, List.append_assoc, List.cons_append]
theorem delA_sp {ds : List EL} {y : Nat} {sp : List Nat} : delA (ds.map adr ++ y :: sp) ds.length = ds.map adr ++ sp := by
  unfold delA
  have e : ds.length = (ds.map adr).length := by rw [List.length_map]
  rw [e, List.take_append_of_le_length (Nat.le_refl _), List.take_length, List.drop_append, List.drop_eq_nil_of_le (by omega), List.nil_append, show (ds.map adr).length + 1 - (ds.map adr).length = 1 by omega]; rfl
theorem insE_len {ds : List EL} {d : EL} : (insE ds d).length = ds.length + 1 := by
  have := plc_le d.2.2 ds 0 0 (Nat.le_refl _)
  unfold insE
  rw [List.length_append, List.length_cons, List.length_take, List.length_drop]; omega
set_option maxHeartbeats 4000000 in
set_option maxRecDepth 100000 in
theorem c_Sf_count (l : Launch) {E : hE} (hE : EnvOk E) {H : Heap} {sa : SA} {most : Nat} {ds : List EL} {sp : List Nat} (h : Sf E H sa most ds sp) : Ct l E y_Sf_count b_Sf_count 1 (some .int) (rmA 0 0 0) [.ref sa.1] H (hQi (fun r H1 => r = nI ds.length ∧ H1 = H)) := by
  refine hx_enter hE (by decide) (Nat.le_of_ble_eq_true rfl) ?_
  intro p e s m args below meth c ls cx hnm hl
  have hl : lv_has ls 1 [(0, .ref sa.1)] := hl
  have hlo : hLo (eB E) [] := hLo.nil
  refine lv_aload_n cx.x cx.b d_Sf_count_0 rfl (lv_at hl 0 rfl) ?_
  refine gf_Sf_20_Sf cx h.1 rfl d_Sf_count_1 ?_
  exact hx_reti cx.x cx.b cx.r cx.k rfl hlo (fun _ h => h) (Nat.le_of_ble_eq_true rfl) (Nat.le_of_ble_eq_true rfl) d_Sf_count_4 (⟨rfl, rfl⟩)

set_option maxHeartbeats 4000000 in
set_option maxRecDepth 100000 in
theorem c_Sf_isFull (l : Launch) {E : hE} (hE : EnvOk E) {H : Heap} {sa : SA} {most : Nat} {ds : List EL} {sp : List Nat} (h : Sf E H sa most ds sp) : Ct l E y_Sf_isFull b_Sf_isFull 1 (some .boolean) (rmA 0 0 0) [.ref sa.1] H (hQi (fun r H1 => r = bI (decide (most ≤ ds.length)) ∧ H1 = H)) := by
  refine hx_enter hE (by decide) (Nat.le_of_ble_eq_true rfl) ?_
  intro p e s m args below meth c ls cx hnm hl
  have hl : lv_has ls 1 [(0, .ref sa.1)] := hl
  have hlo : hLo (eB E) [] := hLo.nil
  have hl9 := h.len
  have hm9 := h.2.2.2.2.2.1
  refine lv_aload_n cx.x cx.b d_Sf_isFull_0 rfl (lv_at hl 0 rfl) ?_
  refine gf_Sf_20_Sf cx h.1 rfl d_Sf_isFull_1 ?_
  refine lv_aload_n cx.x cx.b d_Sf_isFull_4 rfl (lv_at hl 0 rfl) ?_
  refine gf_Sf_16_Sf cx h.1 rfl d_Sf_isFull_5 ?_
  refine lv_icmp_lt (tgt := 15) cx.x cx.b d_Sf_isFull_8 (by decide) (fun c1 => ?_) (fun c1 => ?_)
  · have c1 : ds.length < most := (nI_ltI (a := ds.length) (b := most) (by omega) (by omega)).mp c1
    refine lv_iconst (v := 0) cx.x cx.b d_Sf_isFull_15 (by decide) ?_
    exact hx_reti cx.x cx.b cx.r cx.k rfl hlo (fun _ h => h) (Nat.le_of_ble_eq_true rfl) (Nat.le_of_ble_eq_true rfl) d_Sf_isFull_16 (⟨by rw [show decide (most ≤ ds.length) = false from decide_eq_false (by omega)]; rfl, rfl⟩)
  · have c1 : most ≤ ds.length := Nat.not_lt.mp (fun zz => c1 ((nI_ltI (a := ds.length) (b := most) (by omega) (by omega)).mpr zz))
    refine lv_iconst (v := 1) cx.x cx.b d_Sf_isFull_11 (by decide) ?_
    refine lv_goto (tgt := 16) cx.x cx.b d_Sf_isFull_12 (by decide) ?_
    exact hx_reti cx.x cx.b cx.r cx.k rfl hlo (fun _ h => h) (Nat.le_of_ble_eq_true rfl) (Nat.le_of_ble_eq_true rfl) d_Sf_isFull_16 (⟨by rw [show decide (most ≤ ds.length) = true from decide_eq_true c1]; rfl, rfl⟩)

set_option maxHeartbeats 4000000 in
set_option maxRecDepth 100000 in
theorem c_Sf_empty (l : Launch) {E : hE} (hE : EnvOk E) {H : Heap} {sa : SA} {most : Nat} {ds : List EL} {sp : List Nat} (h : Sf E H sa most ds sp) : Ct l E y_Sf_empty b_Sf_empty 1 none (rmA 0 0 0) [.ref sa.1] H (hQv (fun H1 => Sf E H1 sa most [] (ds.map adr ++ sp) ∧ hCh (fun q => q = sa.1) H H1 ∧ H1.size = H.size)) := by
  refine hx_enter hE (by decide) (Nat.le_of_ble_eq_true rfl) ?_
  intro p e s m args below meth c ls cx hnm hl
  have hl : lv_has ls 1 [(0, .ref sa.1)] := hl
  have hlo : hLo (eB E) [] := hLo.nil
  obtain ⟨h1, h2, h3, h4, h5, h6, h7⟩ := h
  refine lv_aload_n cx.x cx.b d_Sf_empty_0 rfl (lv_at hl 0 rfl) ?_
  refine lv_iconst (v := 0) cx.x cx.b d_Sf_empty_1 (by decide) ?_
  refine pf_Sf_20_Sf cx h1 hlo h3 (Nat.le_of_ble_eq_true rfl) d_Sf_empty_2 (fun H44 locs ho45 z_H44 o_H44 hlo => ?_)
  have ho45 : hOb (eD E) classes H44 sa.1 3 [.ref sa.2.1, .int (nI most), .int 0] := ho45
  have k1 : hCh (fun q => q = sa.1) H H44 := hCh.put z_H44 o_H44 rfl
  exact hx_retv cx.x cx.b cx.r cx.k hlo (fun _ h => h) (Nat.le_of_ble_eq_true rfl) (Nat.le_of_ble_eq_true rfl) d_Sf_empty_5 (⟨⟨ho45, h2.ch k1 (Ne.symm h4) (fun q => Ne.symm (h5 q)), h3, h4, h5, h6, by rw [List.length_append, List.length_map]; show 0 + _ ≤ 14; omega⟩, k1, z_H44⟩)

set_option maxHeartbeats 4000000 in
set_option maxRecDepth 100000 in
theorem c_Sf_get (l : Launch) {E : hE} (hE : EnvOk E) {H : Heap} {sa : SA} {most : Nat} {ds : List EL} {sp : List Nat} (h : Sf E H sa most ds sp) (hd : SfD E H sa ds sp) (i : Int32) : Ct l E y_Sf_get b_Sf_get 2 (some (.object "BaselineText$Declaration")) (rmA 3 0 0) [.ref sa.1, .int i] H (hQr (fun r H1 => r = (if 0 ≤ i.toInt ∧ i.toInt < ds.length then some (adr (ds.getD i.toInt.toNat default)) else none) ∧ H1 = H)) := by
  refine hx_enter hE (by decide) (Nat.le_of_ble_eq_true rfl) ?_
  intro p e s m args below meth c ls cx hnm hl
  have hl : lv_has ls 2 [(0, .ref sa.1), (1, .int i)] := hl
  have hlo : hLo (eB E) [] := hLo.nil
  have hl9 := h.len
  have hLi := h.2.1
  obtain ⟨mcn, hlo9⟩ := hLi.1
  refine lv_iload_n cx.x cx.b d_Sf_get_0 rfl (lv_at hl 1 rfl) ?_
  refine lv_if_lt (tgt := 37) cx.x cx.b d_Sf_get_1 (by decide) (fun c1 => ?_) (fun c1 => ?_)
  · refine lv_null cx.x cx.b d_Sf_get_37 ?_
    exact hx_reta (v := none) cx.x cx.b cx.r cx.k (Or.inl ⟨_, rfl⟩) hlo (fun _ h => h) (Nat.le_of_ble_eq_true rfl) (Nat.le_of_ble_eq_true rfl) d_Sf_get_38 (⟨by rw [if_neg (fun z => by have := i32_lt.mp c1; omega)], rfl⟩)
  · refine lv_iload_n cx.x cx.b d_Sf_get_4 rfl (lv_at hl 1 rfl) ?_
    refine lv_aload_n cx.x cx.b d_Sf_get_5 rfl (lv_at hl 0 rfl) ?_
    refine gf_Sf_20_Sf cx h.1 rfl d_Sf_get_6 ?_
    refine lv_icmp_ge (tgt := 37) cx.x cx.b d_Sf_get_9 (by decide) (fun c2 => ?_) (fun c2 => ?_)
    · refine lv_null cx.x cx.b d_Sf_get_37 ?_
      exact hx_reta (v := none) cx.x cx.b cx.r cx.k (Or.inl ⟨_, rfl⟩) hlo (fun _ h => h) (Nat.le_of_ble_eq_true rfl) (Nat.le_of_ble_eq_true rfl) d_Sf_get_38 (⟨by rw [if_neg (fun z => by have := Int32.le_iff_toInt_le.mp c2; rw [nI_toInt (by omega)] at this; omega)], rfl⟩)
    · obtain ⟨j, hj, rfl⟩ := ix_ex c1 c2 (by omega)
      refine lv_iload_n cx.x cx.b d_Sf_get_12 rfl (lv_at hl 1 rfl) ?_
      refine lv_aload_n cx.x cx.b d_Sf_get_13 rfl (lv_at hl 0 rfl) ?_
      refine gf_Sf_10_Sf cx h.1 rfl d_Sf_get_14 ?_
      refine hx_calli (iv_Sf_23_AL cx (c_AL_size l hE hLi) hlo9 rfl hl.1 rfl (Nat.le_of_ble_eq_true rfl) d_Sf_get_17 ⟨Nat.le_of_ble_eq_true rfl, Nat.le_of_ble_eq_true rfl⟩ ⟨Nat.le_of_ble_eq_true rfl, Nat.le_of_ble_eq_true rfl⟩) hlo (fun _ h => h) (fun r48 H47 locs hp46 hlo => ?_)
      obtain ⟨hp46, hH9⟩ := hp46
      have hH9 := hH9.symm
      subst hH9
      subst hp46
      refine lv_icmp_ge (tgt := 37) cx.x cx.b d_Sf_get_20 (by decide) (fun c => absurd ((nI_leI (by rw [List.length_append, List.length_map]; omega) (by omega)).mp c) (by rw [List.length_append, List.length_map]; omega)) (fun _ => ?_)
      refine lv_aload_n cx.x cx.b d_Sf_get_23 rfl (lv_at hl 0 rfl) ?_
      refine gf_Sf_10_Sf cx h.1 rfl d_Sf_get_24 ?_
      refine lv_iload_n cx.x cx.b d_Sf_get_27 rfl (lv_at hl 1 rfl) ?_
      refine hx_callr (iv_Sf_27_AL cx (c_AL_get l hE hLi (i := j) (by rw [List.length_append, List.length_map]; omega)) hlo9 rfl hl.1 rfl (Nat.le_of_ble_eq_true rfl) d_Sf_get_28 ⟨Nat.le_of_ble_eq_true rfl, Nat.le_of_ble_eq_true rfl⟩ ⟨Nat.le_of_ble_eq_true rfl, Nat.le_of_ble_eq_true rfl⟩) hlo (fun _ h => h) (fun r51 H50 locs hp49 hlo => ?_)
      obtain ⟨hp49, hH9⟩ := hp49
      have hH9 := hH9.symm
      subst hH9
      rw [adr_getD hj] at hp49
      subst hp49
      refine hx_castD cx tw_509 ((hd.1 _ (getD_memE hj)).isDe) d_Sf_get_31 ?_
      refine lv_goto (tgt := 38) cx.x cx.b d_Sf_get_34 (by decide) ?_
      exact hx_reta (v := some (adr (ds.getD j default))) cx.x cx.b cx.r cx.k (Or.inl ⟨_, rfl⟩) hlo (fun _ h => h) (Nat.le_of_ble_eq_true rfl) (Nat.le_of_ble_eq_true rfl) d_Sf_get_38 (⟨by rw [nI_toInt (by omega), if_pos ⟨by omega, by omega⟩]; rfl, rfl⟩)

set_option maxHeartbeats 4000000 in
set_option maxRecDepth 100000 in
theorem c_Sf_takeSpare0 (l : Launch) {E : hE} (hE : EnvOk E) {H : Heap} {sa : SA} {most : Nat} {ds : List EL} (h : Sf E H sa most ds []) : Ct l E y_Sf_takeSpare b_Sf_takeSpare 1 (some (.object "BaselineText$Declaration")) (rmA 4 0 0) [.ref sa.1] H (hQr (fun r H1 => r = none ∧ H1 = H)) := by
  refine hx_enter hE (by decide) (Nat.le_of_ble_eq_true rfl) ?_
  intro p e s m args below meth c ls cx hnm hl
  have hl : lv_has ls 1 [(0, .ref sa.1)] := hl
  have hlo : hLo (eB E) [] := hLo.nil
  have hl9 := h.len
  have hLi := h.2.1
  obtain ⟨mcn, hlo9⟩ := hLi.1
  refine lv_aload_n cx.x cx.b d_Sf_takeSpare_0 rfl (lv_at hl 0 rfl) ?_
  refine gf_Sf_20_Sf cx h.1 rfl d_Sf_takeSpare_1 ?_
  refine lv_aload_n cx.x cx.b d_Sf_takeSpare_4 rfl (lv_at hl 0 rfl) ?_
  refine gf_Sf_10_Sf cx h.1 rfl d_Sf_takeSpare_5 ?_
  refine hx_calli (iv_Sf_23_AL cx (c_AL_size l hE hLi) hlo9 rfl hl.1 rfl (Nat.le_of_ble_eq_true rfl) d_Sf_takeSpare_8 ⟨Nat.le_of_ble_eq_true rfl, Nat.le_of_ble_eq_true rfl⟩ ⟨Nat.le_of_ble_eq_true rfl, Nat.le_of_ble_eq_true rfl⟩) hlo (fun _ h => h) (fun r54 H53 locs hp52 hlo => ?_)
  obtain ⟨hp52, hH9⟩ := hp52
  have hH9 := hH9.symm
  subst hH9
  subst hp52
  refine lv_icmp_ge (tgt := 31) cx.x cx.b d_Sf_takeSpare_11 (by decide) (fun _ => ?_) (fun c => absurd (by rw [List.append_nil, List.length_map]; exact Int32.le_refl _) c)
  refine lv_null cx.x cx.b d_Sf_takeSpare_31 ?_
  exact hx_reta (v := none) cx.x cx.b cx.r cx.k (Or.inl ⟨_, rfl⟩) hlo (fun _ h => h) (Nat.le_of_ble_eq_true rfl) (Nat.le_of_ble_eq_true rfl) d_Sf_takeSpare_32 (⟨rfl, rfl⟩)

set_option maxHeartbeats 4000000 in
set_option maxRecDepth 100000 in
theorem c_Sf_takeSpare1 (l : Launch) {E : hE} (hE : EnvOk E) {H : Heap} {sa : SA} {most y : Nat} {ds : List EL} {sp : List Nat} (h : Sf E H sa most ds (y :: sp)) (hd : SfD E H sa ds (y :: sp)) : Ct l E y_Sf_takeSpare b_Sf_takeSpare 1 (some (.object "BaselineText$Declaration")) (rmA 4 0 0) [.ref sa.1] H (hQr (fun r H1 => r = some y ∧ Sf E H1 sa most ds sp ∧ hCh (sfS E sa) H H1 ∧ H1.size = H.size)) := by
  refine hx_enter hE (by decide) (Nat.le_of_ble_eq_true rfl) ?_
  intro p e s m args below meth c ls cx hnm hl
  have hl : lv_has ls 1 [(0, .ref sa.1)] := hl
  have hlo : hLo (eB E) [] := hLo.nil
  have hl9 := h.len
  have hLi := h.2.1
  obtain ⟨mcn, hlo9⟩ := hLi.1
  have hln : (ds.map adr ++ y :: sp).length = ds.length + (sp.length + 1) := by rw [List.length_append, List.length_map, List.length_cons]
  rw [List.length_cons] at hl9
  refine lv_aload_n cx.x cx.b d_Sf_takeSpare_0 rfl (lv_at hl 0 rfl) ?_
  refine gf_Sf_20_Sf cx h.1 rfl d_Sf_takeSpare_1 ?_
  refine lv_aload_n cx.x cx.b d_Sf_takeSpare_4 rfl (lv_at hl 0 rfl) ?_
  refine gf_Sf_10_Sf cx h.1 rfl d_Sf_takeSpare_5 ?_
  refine hx_calli (iv_Sf_23_AL cx (c_AL_size l hE hLi) hlo9 rfl hl.1 rfl (Nat.le_of_ble_eq_true rfl) d_Sf_takeSpare_8 ⟨Nat.le_of_ble_eq_true rfl, Nat.le_of_ble_eq_true rfl⟩ ⟨Nat.le_of_ble_eq_true rfl, Nat.le_of_ble_eq_true rfl⟩) hlo (fun _ h => h) (fun r57 H56 locs hp55 hlo => ?_)
  obtain ⟨hp55, hH9⟩ := hp55
  have hH9 := hH9.symm
  subst hH9
  subst hp55
  refine lv_icmp_ge (tgt := 31) cx.x cx.b d_Sf_takeSpare_11 (by decide) (fun c => absurd ((nI_leI (by omega) (by omega)).mp c) (by omega)) (fun _ => ?_)
  refine lv_aload_n cx.x cx.b d_Sf_takeSpare_14 rfl (lv_at hl 0 rfl) ?_
  refine gf_Sf_10_Sf cx h.1 rfl d_Sf_takeSpare_15 ?_
  refine lv_aload_n cx.x cx.b d_Sf_takeSpare_18 rfl (lv_at hl 0 rfl) ?_
  refine gf_Sf_20_Sf cx h.1 rfl d_Sf_takeSpare_19 ?_
  refine hx_callr (iv_Sf_33_AL cx (c_AL_remove l hE hLi (i := ds.length) (by omega) (fun z hz => ⟨hd.isDe z hz, fun q => hd.2.2 z hz (Or.inr (Or.inl q))⟩)) hlo9 rfl hl.1 rfl (Nat.le_of_ble_eq_true rfl) d_Sf_takeSpare_22 ⟨Nat.le_of_ble_eq_true rfl, Nat.le_of_ble_eq_true rfl⟩ ⟨Nat.le_of_ble_eq_true rfl, Nat.le_of_ble_eq_true rfl⟩) hlo (fun _ h => h) (fun r60 H59 locs hp58 hlo => ?_)
  obtain ⟨q0, q1, q2, q3⟩ := hp58
  rw [delA_sp] at q1
  have ey : (ds.map adr ++ y :: sp).getD ds.length 0 = y := by rw [List.getD_eq_getElem?_getD, List.getElem?_append_right (by rw [List.length_map]; omega), List.length_map, Nat.sub_self]; rfl
  rw [ey] at q0
  subst q0
  obtain ⟨h1, h2, h3, h4, h5, h6, h7⟩ := h
  refine hx_castD cx tw_509 (((hd.2.1 y List.mem_cons_self).ch q2 (fun q => hd.2.2 y (List.mem_append_right _ List.mem_cons_self) (Or.inr q)))) d_Sf_takeSpare_25 ?_
  refine lv_goto (tgt := 32) cx.x cx.b d_Sf_takeSpare_28 (by decide) ?_
  exact hx_reta (v := some y) cx.x cx.b cx.r cx.k (Or.inl ⟨_, rfl⟩) hlo (fun _ h => h) (Nat.le_of_ble_eq_true rfl) (Nat.le_of_ble_eq_true rfl) d_Sf_takeSpare_32 (⟨rfl, ⟨h1.ch q2 (fun q => by rcases q with q | q; exact h4 q; exact h5 q.2 q.1), q1, h3, h4, h5, h6, by omega⟩, q2.mono (fun q _ hq => Or.inr hq), q3⟩)

set_option maxHeartbeats 4000000 in
set_option maxRecDepth 100000 in
theorem c_Sf_put (l : Launch) {E : hE} (hE : EnvOk E) (hL : EnvL E) {H : Heap} {sa : SA} {most : Nat} {ds : List EL} {sp : List Nat} (h : Sf E H sa most ds sp) (hd : SfD E H sa ds sp) (hO : Old E H) {x : EL} (hx : Dc E H x.1 x.2.1 x.2.2 false false) (hxs : ¬ sfS E sa (adr x)) (hroom : ds.length + sp.length < 14) : Ct l E y_Sf_put b_Sf_put 5 none (rmA 7 1 15) [.ref sa.1, .ref (adr x)] H (hQv (fun H1 => ∃ arr2 cap2, Sf E H1 (sa.1, sa.2.1, arr2, cap2) most (insE ds x) sp ∧ ((arr2 = sa.2.2.1 ∧ H1.size = H.size) ∨ (arr2 = H.size ∧ H1.size = H.size + 1)) ∧ hCh (sfS E sa) H H1)) := by
  refine hx_enter hE (by decide) (Nat.le_of_ble_eq_true rfl) ?_
  intro p e s m args below meth c ls cx hnm hl
  have hl : lv_has ls 5 [(0, .ref sa.1), (1, .ref (adr x))] := hl
  have hlo : hLo (eB E) [] := hLo.nil
  generalize hQ : MQ below _ args s _ _ _ = Q
  have hl9 := h.len
  have hple := plc_le x.2.2 ds 0 0 (Nat.le_refl _)
  rw [Nat.zero_add] at hple
  have BH : ∀ (i p9 : Nat) (locs : List Loc), hLo (eB E) locs → p9 = plc x.2.2 ds 0 0 → ∀ ls, lv_has ls 5 [(2, .int (nI p9)), (0, .ref sa.1), (1, .ref (adr x)), (3, .int (nI i))] → W p l e (rmA 7 1 15) s m args below meth c H locs 0 0 Q (F0 m 43 ls []) := by
    intro i p9 locs hlo hp9 ls hl
    have hLi := h.2.1
    obtain ⟨mcn, hlo9⟩ := hLi.1
    have hln : (ds.map adr ++ sp).length = ds.length + sp.length := by rw [List.length_append, List.length_map]
    refine lv_aload_n cx.x cx.b d_Sf_put_43 rfl (lv_at hl 1 rfl) ?_
    refine gf_Sf_10_Sf cx h.1 rfl d_Sf_put_44 ?_
    refine lv_iload_n cx.x cx.b d_Sf_put_47 rfl (lv_at hl 0 rfl) ?_
    refine lv_aload_n cx.x cx.b d_Sf_put_48 rfl (lv_at hl 2 rfl) ?_
    refine hx_callv (iv_Sf_43_AL cx (c_AL_add l hE hL hLi hO (i := p9) (x := adr x) (by omega) (by omega) (fun z hz => ⟨hd.isDe z hz, fun q => hd.2.2 z hz (Or.inr (Or.inl q)), fun q1 q2 => hd.2.2 z hz (Or.inr (Or.inr ⟨q2, q1⟩))⟩) ⟨hx.isDe, fun q => hxs (Or.inr (Or.inl q)), fun q1 q2 => hxs (Or.inr (Or.inr ⟨q2, q1⟩))⟩) hlo9 rfl hl.1 rfl (Nat.le_of_ble_eq_true rfl) d_Sf_put_49 ⟨Nat.le_of_ble_eq_true rfl, Nat.le_of_ble_eq_true rfl⟩ ⟨Nat.le_of_ble_eq_true rfl, Nat.le_of_ble_eq_true rfl⟩) hlo (fun _ h => h) (fun H62 locs hp61 hlo => ?_)
    obtain ⟨arr2, cap2, q1, q2, q3⟩ := hp61
    rw [insA_map (by omega), hp9] at q1
    obtain ⟨h1, h2, h3, h4, h5, h6, h7⟩ := h
    have s1 := h1.ch q3 (fun q => by rcases q with q | q; exact h4 q; exact h5 q.2 q.1)
    have hlt := h1.lt
    refine lv_aload_n cx.x cx.b d_Sf_put_52 rfl (lv_at hl 1 rfl) ?_
    refine lv_dup cx.x cx.b d_Sf_put_53 rfl ?_
    refine gf_Sf_20_Sf cx s1 rfl d_Sf_put_54 ?_
    refine lv_iconst (v := 1) cx.x cx.b d_Sf_put_57 (by decide) ?_
    refine lv_iadd cx.x cx.b d_Sf_put_58 ?_
    refine lv_topi (fun x63 e_x63 => ?_)
    refine pf_Sf_20_Sf cx s1 hlo h3 (Nat.le_of_ble_eq_true rfl) d_Sf_put_59 (fun H64 locs ho65 z_H64 o_H64 hlo => ?_)
    have ho65 : hOb (eD E) classes H64 sa.1 3 [.ref sa.2.1, .int (nI most), .int x63] := ho65
    rw [e_x63, nI_1, ← insE_len (ds := ds) (d := x)] at ho65
    have k2 : hCh (fun q => q = sa.1) H62 H64 := hCh.put z_H64 o_H64 rfl
    rw [← hQ]
    exact hx_retv cx.x cx.b cx.r cx.k hlo (fun _ h => h) (Nat.le_of_ble_eq_true rfl) (Nat.le_of_ble_eq_true rfl) d_Sf_put_62 (⟨arr2, cap2, ⟨ho65, q1.ch k2 (Ne.symm h4) (fun q => by rcases q2 with q2 | q2; rw [q2.1] at q ⊢; exact Ne.symm (h5 q); omega), h3, h4, fun q => by rcases q2 with q2 | q2; show sa.1 ≠ arr2; rw [q2.1]; exact h5 (by rw [← q2.1]; exact q); show sa.1 ≠ arr2; omega, h6, by rw [insE_len]; omega⟩, by rcases q2 with q2 | q2; exact Or.inl ⟨q2.1, by omega⟩; exact Or.inr ⟨q2.1, by omega⟩, (q3.mono (fun q _ hq => Or.inr hq)).tr (k2.mono (fun q _ hq => Or.inl hq))⟩)
  have LP : ∀ (k : Nat) (locs : List Loc) (i p9 : Nat), hLo (eB E) locs → (ds.length - i < k) → (i ≤ ds.length) → (plc x.2.2 (ds.drop i) i p9 = plc x.2.2 ds 0 0) → ∀ ls, lv_has ls 5 [(3, .int (nI i)), (2, .int (nI p9)), (0, .ref sa.1), (1, .ref (adr x))] → W p l e (rmA 7 1 15) s m args below meth c H locs 0 0 Q (F0 m 4 ls []) := by
    intro k
    induction k with
    | zero => intro locs i p9 hlo hk hi hj; exact absurd hk (by omega)
    | succ k ih =>
      intro locs i p9 hlo hk hi hj ls hl
      refine lv_iload_n cx.x cx.b d_Sf_put_4 rfl (lv_at hl 0 rfl) ?_
      refine lv_aload_n cx.x cx.b d_Sf_put_5 rfl (lv_at hl 2 rfl) ?_
      refine gf_Sf_20_Sf cx h.1 rfl d_Sf_put_6 ?_
      refine lv_icmp_ge (tgt := 43) cx.x cx.b d_Sf_put_9 (by decide) (fun c1 => ?_) (fun c1 => ?_)
      · have c1 : ds.length ≤ i := (nI_leI (a := ds.length) (b := i) (by omega) (by omega)).mp c1
        rw [List.drop_eq_nil_of_le c1] at hj
        exact BH i p9 _ hlo hj _ (lv_sub hl [1, 2, 3, 0] rfl)
      · have c1 : i < ds.length := Nat.not_le.mp (fun zz => c1 ((nI_leI (a := ds.length) (b := i) (by omega) (by omega)).mpr zz))
        rw [drop_consE c1] at hj
        have hdi := hd.1 _ (getD_memE c1)
        refine lv_aload_n cx.x cx.b d_Sf_put_12 rfl (lv_at hl 2 rfl) ?_
        refine lv_iload_n cx.x cx.b d_Sf_put_13 rfl (lv_at hl 0 rfl) ?_
        refine hx_callr (iv_Sf_36_Sf cx (c_Sf_get l hE h hd (nI i)) h.1 rfl hl.1 rfl (Nat.le_of_ble_eq_true rfl) d_Sf_put_14 ⟨Nat.le_of_ble_eq_true rfl, Nat.le_of_ble_eq_true rfl⟩ ⟨Nat.le_of_ble_eq_true rfl, Nat.le_of_ble_eq_true rfl⟩) hlo (fun _ h => h) (fun r68 H67 locs hp66 hlo => ?_)
        obtain ⟨hp66, hH9⟩ := hp66
        have hH9 := hH9.symm
        subst hH9
        rw [nI_toInt (by omega), if_pos ⟨by omega, by omega⟩, show (i : Int).toNat = i from rfl] at hp66
        subst hp66
        have hj : plc x.2.2 (ds.drop (i + 1)) (i + 1) (if cmpD (ds.getD i default).2.2 x.2.2 < 0 then i + 1 else p9) = plc x.2.2 ds 0 0 := hj
        show W p l e _ s m args below meth c H locs _ _ Q (F0 m 17 ls [.ref (adr (ds.getD i default))])
        refine lv_astore (lv' := [(4, .ref (adr (ds.getD i default))), (3, .int (nI i)), (2, .int (nI p9)), (0, .ref sa.1), (1, .ref (adr x))]) cx.x cx.b d_Sf_put_17 hl (by decide) rfl (fun ls hl => ?_)
        refine lv_aload cx.x cx.b d_Sf_put_19 (lv_at hl 0 rfl) ?_
        refine lv_ifnull cx.x cx.b d_Sf_put_21 ?_
        refine lv_aload cx.x cx.b d_Sf_put_24 (lv_at hl 0 rfl) ?_
        refine lv_aload_n cx.x cx.b d_Sf_put_26 rfl (lv_at hl 4 rfl) ?_
        refine hx_calli (ivd_Sf_39 cx (c_Dc_compare l hE hdi hx) hdi.1 rfl hl.1 rfl (Nat.le_of_ble_eq_true rfl) d_Sf_put_27 ⟨Nat.le_of_ble_eq_true rfl, Nat.le_of_ble_eq_true rfl⟩ ⟨Nat.le_of_ble_eq_true rfl, Nat.le_of_ble_eq_true rfl⟩) hlo (fun _ h => h) (fun r71 H70 locs hp69 hlo => ?_)
        obtain ⟨hp69, hH9⟩ := hp69
        have hH9 := hH9.symm
        subst hH9
        refine lv_if_ge (tgt := 37) cx.x cx.b d_Sf_put_30 (by decide) (fun c2 => ?_) (fun c2 => ?_)
        · rw [if_neg (fun z => by have := Int32.le_iff_toInt_le.mp c2; rw [hp69] at this; have e0 : (0 : Int32).toInt = 0 := rfl; omega)] at hj
          obtain ⟨x72, e_x72⟩ : ∃ y : Int32, y = nI i + 1 := ⟨_, rfl⟩
          refine lv_iinc (v := x72) (lv' := [(3, .int x72), (4, .ref (adr (ds.getD i default))), (2, .int (nI p9)), (0, .ref sa.1), (1, .ref (adr x))]) cx.x cx.b d_Sf_put_37 hl (k := 1) rfl (by rw [e_x72]; rfl) (by decide) rfl (fun ls hl => ?_)
          refine lv_goto (tgt := 4) cx.x cx.b d_Sf_put_40 (by decide) ?_
          rw [nI_1] at e_x72
          subst e_x72
          exact ih _ (i + 1) p9 hlo (by omega) (by omega) hj _ (lv_sub hl [0, 2, 3, 4] rfl)
        · rw [if_pos (by rw [← hp69]; exact i32_lt.mp (Int32.not_le.mp c2))] at hj
          refine lv_iload_n cx.x cx.b d_Sf_put_33 rfl (lv_at hl 1 rfl) ?_
          refine lv_iconst (v := 1) cx.x cx.b d_Sf_put_34 (by decide) ?_
          refine lv_iadd cx.x cx.b d_Sf_put_35 ?_
          refine lv_topi (fun x73 e_x73 => ?_)
          have e_x73 : x73 = nI (i + 1) := e_x73.trans (nI_1 i)
          subst e_x73
          refine lv_istore_n (lv' := [(2, .int (nI (i + 1))), (4, .ref (adr (ds.getD i default))), (3, .int (nI i)), (0, .ref sa.1), (1, .ref (adr x))]) cx.x cx.b d_Sf_put_36 rfl hl (by decide) rfl (fun ls hl => ?_)
          obtain ⟨x74, e_x74⟩ : ∃ y : Int32, y = nI i + 1 := ⟨_, rfl⟩
          refine lv_iinc (v := x74) (lv' := [(3, .int x74), (2, .int (nI (i + 1))), (4, .ref (adr (ds.getD i default))), (0, .ref sa.1), (1, .ref (adr x))]) cx.x cx.b d_Sf_put_37 hl (k := 2) rfl (by rw [e_x74]; rfl) (by decide) rfl (fun ls hl => ?_)
          refine lv_goto (tgt := 4) cx.x cx.b d_Sf_put_40 (by decide) ?_
          rw [nI_1] at e_x74
          subst e_x74
          exact ih _ (i + 1) (i + 1) hlo (by omega) (by omega) hj _ (lv_sub hl [0, 1, 3, 4] rfl)
  refine lv_iconst (v := 0) cx.x cx.b d_Sf_put_0 (by decide) ?_
  refine lv_istore_n (lv' := [(2, .int 0), (0, .ref sa.1), (1, .ref (adr x))]) cx.x cx.b d_Sf_put_1 rfl hl (by decide) rfl (fun ls hl => ?_)
  refine lv_iconst (v := 0) cx.x cx.b d_Sf_put_2 (by decide) ?_
  refine lv_istore_n (lv' := [(3, .int 0), (2, .int 0), (0, .ref sa.1), (1, .ref (adr x))]) cx.x cx.b d_Sf_put_3 rfl hl (by decide) rfl (fun ls hl => ?_)
  exact LP (ds.length + 1) _ 0 0 hlo (by omega) (Nat.zero_le _) rfl _ hl

set_option maxHeartbeats 4000000 in
set_option maxRecDepth 100000 in
theorem c_Sf_alike (l : Launch) {E : hE} (hE : EnvOk E) {H : Heap} {sa : SA} {most : Nat} {ds : List EL} {sp : List Nat} (h : Sf E H sa most ds sp) (hd : SfD E H sa ds sp) {xa : DA} {xv : Option Nat} {x : DV} {o1 o2 : Bool} (hx : Dc E H xa xv x o1 o2) : Ct l E y_Sf_alike b_Sf_alike 4 (some (.object "BaselineText$Declaration")) (rmA 4 0 0) [.ref sa.1, .ref xa.1] H (hQr (fun r H1 => r = (alk x ds).map adr ∧ H1 = H)) := by
  refine hx_enter hE (by decide) (Nat.le_of_ble_eq_true rfl) ?_
  intro p e s m args below meth c ls cx hnm hl
  have hl : lv_has ls 4 [(0, .ref sa.1), (1, .ref xa.1)] := hl
  have hlo : hLo (eB E) [] := hLo.nil
  generalize hQ : MQ below _ args s _ _ _ = Q
  have hl9 := h.len
  have LP : ∀ (k : Nat) (locs : List Loc) (i : Nat), hLo (eB E) locs → (ds.length - i < k) → (i ≤ ds.length) → (alk x (ds.drop i) = alk x ds) → ∀ ls, lv_has ls 4 [(2, .int (nI i)), (0, .ref sa.1), (1, .ref xa.1)] → W p l e (rmA 4 0 0) s m args below meth c H locs 0 0 Q (F0 m 2 ls []) := by
    intro k
    induction k with
    | zero => intro locs i hlo hk hi hj; exact absurd hk (by omega)
    | succ k ih =>
      intro locs i hlo hk hi hj ls hl
      refine lv_iload_n cx.x cx.b d_Sf_alike_2 rfl (lv_at hl 0 rfl) ?_
      refine lv_aload_n cx.x cx.b d_Sf_alike_3 rfl (lv_at hl 1 rfl) ?_
      refine gf_Sf_20_Sf cx h.1 rfl d_Sf_alike_4 ?_
      refine lv_icmp_ge (tgt := 36) cx.x cx.b d_Sf_alike_7 (by decide) (fun c1 => ?_) (fun c1 => ?_)
      · have c1 : ds.length ≤ i := (nI_leI (a := ds.length) (b := i) (by omega) (by omega)).mp c1
        rw [List.drop_eq_nil_of_le c1] at hj
        refine lv_null cx.x cx.b d_Sf_alike_36 ?_
        rw [← hQ]
        exact hx_reta (v := none) cx.x cx.b cx.r cx.k (Or.inl ⟨_, rfl⟩) hlo (fun _ h => h) (Nat.le_of_ble_eq_true rfl) (Nat.le_of_ble_eq_true rfl) d_Sf_alike_37 (⟨by rw [← hj]; rfl, rfl⟩)
      · have c1 : i < ds.length := Nat.not_le.mp (fun zz => c1 ((nI_leI (a := ds.length) (b := i) (by omega) (by omega)).mpr zz))
        rw [drop_consE c1] at hj
        have hdi := hd.1 _ (getD_memE c1)
        refine lv_aload_n cx.x cx.b d_Sf_alike_10 rfl (lv_at hl 1 rfl) ?_
        refine lv_iload_n cx.x cx.b d_Sf_alike_11 rfl (lv_at hl 0 rfl) ?_
        refine hx_callr (iv_Sf_36_Sf cx (c_Sf_get l hE h hd (nI i)) h.1 rfl hl.1 rfl (Nat.le_of_ble_eq_true rfl) d_Sf_alike_12 ⟨Nat.le_of_ble_eq_true rfl, Nat.le_of_ble_eq_true rfl⟩ ⟨Nat.le_of_ble_eq_true rfl, Nat.le_of_ble_eq_true rfl⟩) hlo (fun _ h => h) (fun r77 H76 locs hp75 hlo => ?_)
        obtain ⟨hp75, hH9⟩ := hp75
        have hH9 := hH9.symm
        subst hH9
        rw [nI_toInt (by omega), if_pos ⟨by omega, by omega⟩, show (i : Int).toNat = i from rfl] at hp75
        subst hp75
        have hj : (if cmpD (ds.getD i default).2.2 x = 0 then some (ds.getD i default) else alk x (ds.drop (i + 1))) = alk x ds := hj
        show W p l e _ s m args below meth c H locs _ _ Q (F0 m 15 ls [.ref (adr (ds.getD i default))])
        refine lv_astore_n (lv' := [(3, .ref (adr (ds.getD i default))), (2, .int (nI i)), (0, .ref sa.1), (1, .ref xa.1)]) cx.x cx.b d_Sf_alike_15 rfl hl (by decide) rfl (fun ls hl => ?_)
        refine lv_aload_n cx.x cx.b d_Sf_alike_16 rfl (lv_at hl 0 rfl) ?_
        refine lv_ifnull cx.x cx.b d_Sf_alike_17 ?_
        refine lv_aload_n cx.x cx.b d_Sf_alike_20 rfl (lv_at hl 0 rfl) ?_
        refine lv_aload_n cx.x cx.b d_Sf_alike_21 rfl (lv_at hl 3 rfl) ?_
        refine hx_calli (ivd_Sf_39 cx (c_Dc_compare l hE hdi hx) hdi.1 rfl hl.1 rfl (Nat.le_of_ble_eq_true rfl) d_Sf_alike_22 ⟨Nat.le_of_ble_eq_true rfl, Nat.le_of_ble_eq_true rfl⟩ ⟨Nat.le_of_ble_eq_true rfl, Nat.le_of_ble_eq_true rfl⟩) hlo (fun _ h => h) (fun r80 H79 locs hp78 hlo => ?_)
        obtain ⟨hp78, hH9⟩ := hp78
        have hH9 := hH9.symm
        subst hH9
        refine lv_if_ne (tgt := 30) cx.x cx.b d_Sf_alike_25 (by decide) (fun c2 => ?_) (fun c2 => ?_)
        · rw [if_neg (fun z => c2 (i32_ne.mpr (by rw [hp78]; exact z)))] at hj
          obtain ⟨x81, e_x81⟩ : ∃ y : Int32, y = nI i + 1 := ⟨_, rfl⟩
          refine lv_iinc (v := x81) (lv' := [(2, .int x81), (3, .ref (adr (ds.getD i default))), (0, .ref sa.1), (1, .ref xa.1)]) cx.x cx.b d_Sf_alike_30 hl (k := 1) rfl (by rw [e_x81]; rfl) (by decide) rfl (fun ls hl => ?_)
          refine lv_goto (tgt := 2) cx.x cx.b d_Sf_alike_33 (by decide) ?_
          rw [nI_1] at e_x81
          subst e_x81
          exact ih _ (i + 1) hlo (by omega) (by omega) hj _ (lv_sub hl [0, 2, 3] rfl)
        · rw [if_pos (by rw [← hp78]; exact i32_ne.mp c2)] at hj
          refine lv_aload_n cx.x cx.b d_Sf_alike_28 rfl (lv_at hl 0 rfl) ?_
          rw [← hQ]
          exact hx_reta (v := some (adr (ds.getD i default))) cx.x cx.b cx.r cx.k (Or.inl ⟨_, rfl⟩) hlo (fun _ h => h) (Nat.le_of_ble_eq_true rfl) (Nat.le_of_ble_eq_true rfl) d_Sf_alike_29 (⟨by rw [← hj]; rfl, rfl⟩)
  refine lv_iconst (v := 0) cx.x cx.b d_Sf_alike_0 (by decide) ?_
  refine lv_istore_n (lv' := [(2, .int 0), (0, .ref sa.1), (1, .ref xa.1)]) cx.x cx.b d_Sf_alike_1 rfl hl (by decide) rfl (fun ls hl => ?_)
  exact LP (ds.length + 1) _ 0 hlo (by omega) (Nat.zero_le _) rfl _ hl
