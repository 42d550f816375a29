/-! BASELINES -/
def tad (t : TV) : Nat := t.1.1.1
def fpTs (E : hE) (ts : List TV) : List Nat := ts.flatMap (fpT E)
def fpH (E : hE) (sa : SA) (us sp : List TV) : List Nat := fpSA E sa ++ fpTs E (us ++ sp)
def TSh (E : hE) (H : Heap) (sa : SA) (us sp : List TV) : Prop := Sf E H sa 12 (us.map (·.1)) (sp.map tad) ∧ (∀ t ∈ us ++ sp, Ty E H t) ∧ (fpH E sa us sp).Nodup ∧ us.length + sp.length ≤ 12
def insT (us : List TV) (t : TV) : List TV := us.take (plc t.1.2.2 (us.map (·.1)) 0 0) ++ t :: us.drop (plc t.1.2.2 (us.map (·.1)) 0 0)
theorem insT_map (us : List TV) (t : TV) : (insT us t).map (·.1) = insE (us.map (·.1)) t.1 := by
  unfold insT insE
  rw [List.map_append, List.map_cons, List.map_take, List.map_drop]
theorem insT_perm (us : List TV) (t : TV) : (insT us t).Perm (t :: us) := by
  unfold insT
  have h := List.perm_middle (a := t) (l₁ := us.take (plc t.1.2.2 (us.map (·.1)) 0 0)) (l₂ := us.drop (plc t.1.2.2 (us.map (·.1)) 0 0))
  rw [List.take_append_drop] at h
  exact h
theorem insT_len (us : List TV) (t : TV) : (insT us t).length = us.length + 1 := (insT_perm us t).length_eq.trans (by rw [List.length_cons])
theorem fpTs_mem {E : hE} {ts : List TV} {q : Nat} : q ∈ fpTs E ts ↔ ∃ t ∈ ts, q ∈ fpT E t := List.mem_flatMap
theorem fpTs_perm {E : hE} {xs ys : List TV} (h : xs.Perm ys) : (fpTs E xs).Perm (fpTs E ys) := h.flatMap_right _
theorem fpTs_cons (E : hE) (t : TV) (ts : List TV) : fpTs E (t :: ts) = fpT E t ++ fpTs E ts := rfl
theorem tad_mem {E : hE} (t : TV) : tad t ∈ fpT E t := List.mem_append_left _ (fpD_dc.mpr (Or.inl rfl))
theorem TSh.lt {E : hE} (hL : EnvL E) {H : Heap} {sa : SA} {us sp : List TV} (h : TSh E H sa us sp) : ∀ q ∈ fpH E sa us sp, q < H.size := fun q hq => by
  rcases List.mem_append.mp hq with e | e
  · exact h.1.lt hL q (fpSA_sf.mp e)
  · obtain ⟨t, ht, e⟩ := fpTs_mem.mp e
    exact (h.2.1 t ht).lt hL q e
theorem TSh.lo {E : hE} {H : Heap} {sa : SA} {us sp : List TV} (h : TSh E H sa us sp) : ∀ q ∈ fpH E sa us sp, eB E ≤ q := fun q hq => by
  rcases List.mem_append.mp hq with e | e
  · exact h.1.lo q (fpSA_sf.mp e)
  · obtain ⟨t, ht, e⟩ := fpTs_mem.mp e
    exact (h.2.1 t ht).lo q e
theorem TSh.ch {E : hE} {H H1 : Heap} {sa : SA} {us sp : List TV} {S : Nat → Prop} (h : TSh E H sa us sp) (k : hCh S H H1) (hs : ∀ q ∈ fpH E sa us sp, ¬ S q) : TSh E H1 sa us sp := by
  obtain ⟨h1, h2, h3⟩ := h
  exact ⟨h1.ch k (fun q hq => hs q (List.mem_append_left _ (fpSA_sf.mpr hq))), fun t ht => (h2 t ht).ch k (fun q hq => hs q (List.mem_append_right _ (fpTs_mem.mpr ⟨t, ht, hq⟩))), h3⟩
theorem TSh.dis {E : hE} {sa : SA} {us sp : List TV} (h : (fpH E sa us sp).Nodup) : ∀ t ∈ us ++ sp, ∀ q ∈ fpT E t, ¬ sfS E sa q := fun t ht q hq hs => by
  unfold fpH at h
  rw [List.nodup_append] at h
  exact h.2.2 q (fpSA_sf.mpr hs) q (fpTs_mem.mpr ⟨t, ht, hq⟩) rfl
theorem TSh.sfd {E : hE} {H : Heap} {sa : SA} {us sp : List TV} (h : TSh E H sa us sp) : SfD E H sa (us.map (·.1)) (sp.map tad) := by
  refine ⟨fun d hd => ?_, fun y hy => ?_, fun y hy hs => ?_⟩
  · obtain ⟨t, ht, rfl⟩ := List.mem_map.mp hd
    exact (h.2.1 t (List.mem_append_left _ ht)).1
  · obtain ⟨t, ht, rfl⟩ := List.mem_map.mp hy
    exact (h.2.1 t (List.mem_append_right _ ht)).1.isDe
  · rcases List.mem_append.mp hy with e | e
    · obtain ⟨d, hd, rfl⟩ := List.mem_map.mp e
      obtain ⟨t, ht, rfl⟩ := List.mem_map.mp hd
      exact TSh.dis h.2.2.1 t (List.mem_append_left _ ht) _ (tad_mem t) hs
    · obtain ⟨t, ht, rfl⟩ := List.mem_map.mp e
      exact TSh.dis h.2.2.1 t (List.mem_append_right _ ht) _ (tad_mem t) hs
theorem addT_tail {E : hE} (hL : EnvL E) {H3 H4 : Heap} {sa : SA} {us sp : List TV} {t : TV} {arr2 cap2 : Nat} (hSf : Sf E H3 sa 12 (us.map (·.1)) (sp.map tad)) (hts : ∀ x ∈ us ++ sp, Ty E H3 x) (ht : Ty E H3 t) (hnd : (fpSA E sa ++ fpTs E (t :: (us ++ sp))).Nodup) (hput : Sf E H4 (sa.1, sa.2.1, arr2, cap2) 12 (insE (us.map (·.1)) t.1) (sp.map tad)) (harr : (arr2 = sa.2.2.1 ∧ H4.size = H3.size) ∨ (arr2 = H3.size ∧ H4.size = H3.size + 1)) (hch : hCh (sfS E sa) H3 H4) (hlen : us.length + sp.length < 12) : TSh E H4 (sa.1, sa.2.1, arr2, cap2) (insT us t) sp ∧ ∀ q ∈ fpH E (sa.1, sa.2.1, arr2, cap2) (insT us t) sp, q ∈ fpSA E sa ++ fpTs E (t :: (us ++ sp)) ∨ H3.size ≤ q := by
  have hperm : (insT us t ++ sp).Perm (t :: (us ++ sp)) := (insT_perm us t).append_right sp
  have hpf : (fpTs E (insT us t ++ sp)).Perm (fpTs E (t :: (us ++ sp))) := fpTs_perm hperm
  have hall : ∀ x ∈ insT us t ++ sp, Ty E H3 x := fun x hx => by
    rcases List.mem_cons.mp (hperm.mem_iff.mp hx) with e | e
    · rw [e]; exact ht
    · exact hts x e
  have hsub : ∀ q ∈ fpSA E (sa.1, sa.2.1, arr2, cap2), q ∈ fpSA E sa ∨ H3.size ≤ q := fun q hq => by
    rcases fpSA_sf.mp hq with e | e | ⟨e, e2⟩
    · exact Or.inl (fpSA_sf.mpr (Or.inl e))
    · exact Or.inl (fpSA_sf.mpr (Or.inr (Or.inl e)))
    · rcases harr with h | h
      · exact Or.inl (fpSA_sf.mpr (Or.inr (Or.inr ⟨by rw [e]; exact h.1, by rw [← h.1]; exact e2⟩)))
      · exact Or.inr (by rw [e]; exact Nat.le_of_eq h.1.symm)
  have hnd2 : (fpSA E sa ++ fpTs E (insT us t ++ sp)).Nodup := (List.Perm.append_left _ hpf).nodup_iff.mpr hnd
  have hnd3 : (fpH E (sa.1, sa.2.1, arr2, cap2) (insT us t) sp).Nodup := by
    have h := nodup_repl (A := []) (X := fpSA E sa) (Y := fpSA E (sa.1, sa.2.1, arr2, cap2)) (B := fpTs E (insT us t ++ sp)) (N := H3.size) hnd2 (hput.nd hL) hsub (fun q hq => by
      rcases List.mem_append.mp hq with e | e
      · exact absurd e List.not_mem_nil
      rcases List.mem_append.mp e with e | e
      · exact hSf.lt hL q (fpSA_sf.mp e)
      · obtain ⟨x, hx, e⟩ := fpTs_mem.mp e
        exact (hall x hx).lt hL q e)
    exact h
  refine ⟨⟨by rw [insT_map]; exact hput, fun x hx => (hall x hx).ch hch (fun q hq hs => ?_), hnd3, by rw [insT_len]; omega⟩, fun q hq => ?_⟩
  · rw [List.nodup_append] at hnd2
    exact hnd2.2.2 q (fpSA_sf.mpr hs) q (fpTs_mem.mpr ⟨x, hx, hq⟩) rfl
  · rcases List.mem_append.mp hq with e | e
    · rcases hsub q e with e | e
      · exact Or.inl (List.mem_append_left _ e)
      · exact Or.inr e
    · exact Or.inl (List.mem_append_right _ (hpf.mem_iff.mp e))
theorem Ty.copy {E : hE} {H H1 : Heap} {t : TV} {dw : DV} (h : Ty E H t) (hd : Dc E H1 t.1.1 t.1.2.1 dw false false) (k : hCh (dcS t.1.1) H H1) : Ty E H1 ((t.1.1, t.1.2.1, dw), t.2) := by
  obtain ⟨h1, h2, h3, h4⟩ := h
  refine ⟨hd, h2, h3.ch k (fun q hq hs => ?_), h4⟩
  unfold fpT at h4
  rw [List.nodup_append] at h4
  exact h4.2.2 q (fpD_dc.mpr hs) q hq rfl
theorem Ty.empty {E : hE} {H H1 : Heap} {t : TV} (h : Ty E H t) (hs : Sf E H1 t.2.1 8 [] (t.2.2.1.map adr ++ t.2.2.2.map adr)) (k : hCh (fun q => q = t.2.1.1) H H1) : Ty E H1 (t.1, t.2.1, [], t.2.2.1 ++ t.2.2.2) := by
  obtain ⟨h1, h2, ⟨m1, m2, m3, m4⟩, h4⟩ := h
  have hnd := h4
  unfold fpT at hnd
  rw [List.nodup_append] at hnd
  have hm3 := m3
  unfold fpM at hm3
  rw [List.nodup_append] at hm3
  refine ⟨h1.ch k (fun q hq e => hnd.2.2 q (fpD_dc.mpr hq) q (List.mem_append_left _ (fpSA_sf.mpr (Or.inl e))) rfl), h2, ⟨by rw [List.map_append]; exact hs, fun d hd => ⟨(m2 d hd).1.ch k (fun q hq e => hm3.2.2 q (fpSA_sf.mpr (Or.inl e)) q (fpDs_mem.mpr ⟨d, hd, hq⟩) rfl), (m2 d hd).2⟩, m3, by rw [List.length_append]; show 0 + _ ≤ 8; omega⟩, h4⟩
/-- a BASELINE: the object, its format, its shelf -/
def Bs (E : hE) (H : Heap) (bl fm : Nat) (sa : SA) (us sp : List TV) : Prop := hOb (eD E) classes H bl 5 [.ref sa.1, .int (nI fm)] ∧ eB E ≤ bl ∧ (fm = 1 ∨ fm = 2) ∧ TSh E H sa us sp ∧ bl ∉ fpH E sa us sp
def fpB (E : hE) (bl : Nat) (sa : SA) (us sp : List TV) : List Nat := bl :: fpH E sa us sp
theorem Bs.ch {E : hE} {H H1 : Heap} {bl fm : Nat} {sa : SA} {us sp : List TV} {S : Nat → Prop} (h : Bs E H bl fm sa us sp) (k : hCh S H H1) (hs : ∀ q ∈ fpB E bl sa us sp, ¬ S q) : Bs E H1 bl fm sa us sp := by
  obtain ⟨h1, h2, h3, h4, h5⟩ := h
  exact ⟨h1.ch k (hs _ List.mem_cons_self), h2, h3, h4.ch k (fun q hq => hs q (List.mem_cons_of_mem _ hq)), h5⟩
theorem Bs.lt {E : hE} (hL : EnvL E) {H : Heap} {bl fm : Nat} {sa : SA} {us sp : List TV} (h : Bs E H bl fm sa us sp) : ∀ q ∈ fpB E bl sa us sp, q < H.size := fun q hq => by
  rcases List.mem_cons.mp hq with e | e
  · rw [e]; exact h.1.lt
  · exact h.2.2.2.1.lt hL q e
theorem Bs.lo {E : hE} {H : Heap} {bl fm : Nat} {sa : SA} {us sp : List TV} (h : Bs E H bl fm sa us sp) : ∀ q ∈ fpB E bl sa us sp, eB E ≤ q := fun q hq => by
  rcases List.mem_cons.mp hq with e | e
  · rw [e]; exact h.2.1
  · exact h.2.2.2.1.lo q e
/-- the first type of that name -/
def nmd (x : List Nat) : List TV → Option TV
  | [] => none
  | t :: r => if cmpL t.1.2.2.1 x = 0 then some t else nmd x r
theorem drop_consT {us : List TV} {i : Nat} (h : i < us.length) : us.drop i = us.getD i default :: us.drop (i + 1) := by
  rw [List.drop_eq_getElem_cons h, List.getD_eq_getElem?_getD, List.getElem?_eq_getElem h]; rfl
theorem getD_memT {us : List TV} {i : Nat} (h : i < us.length) : us.getD i default ∈ us := by
  rw [List.getD_eq_getElem?_getD, List.getElem?_eq_getElem h]; exact List.getElem_mem h
theorem getD_mapT {us : List TV} {i : Nat} (h : i < us.length) : (us.map (·.1)).getD i default = (us.getD i default).1 := by
  rw [List.getD_eq_getElem?_getD, List.getElem?_map, List.getElem?_eq_getElem h, List.getD_eq_getElem?_getD, List.getElem?_eq_getElem h]; rfl
theorem Ty.ob {E : hE} {H : Heap} {t : TV} (h : Ty E H t) : hOb (eD E) classes H t.1.1.1 2 [.ref t.1.1.2.1, .ref t.1.1.2.2.2.1, .int (nI t.1.2.2.2.2.1), .int (nI t.1.2.2.2.2.2), .ref t.2.1.1] := by
  have h1 := h.1.1
  rw [h.2.1] at h1
  exact h1
set_option maxHeartbeats 4000000 in
set_option maxRecDepth 100000 in
theorem c_Bl_init (l : Launch) {E : hE} (hE : EnvOk E) (hL : EnvL E) {H : Heap} {a : Nat} (h : hOb (eD E) classes H a 5 [.null, .int 0]) (hB : eB E ≤ a) (hO : Old E H) : Ct l E y_Bl_init b_Bl_init 1 none (rmA 5 2 6) [.ref a] H (hQv (fun H1 => Bs E H1 a 2 (H.size, H.size + 1, eK E 100, 0) [] [] ∧ hCh (fun q => q = a) H H1 ∧ H1.size = H.size + 2)) := by
  refine hx_enter hE (by decide) (Nat.le_of_ble_eq_true rfl) ?_
  intro p e s m args below meth c ls cx hnm hl
  have hl : lv_has ls 1 [(0, .ref a)] := hl
  have hlo : hLo (eB E) [] := hLo.nil
  have hlt := h.lt
  refine lv_aload_n cx.x cx.b d_Bl_init_0 rfl (lv_at hl 0 rfl) ?_
  refine W.objInit cx.x cx.b cx.o (cx.ts _ tw_78) (cx.ts _ tw_31) (cx.ts _ tw_32) rfl (hl.1.trans cx.ml.symm) rfl d_Bl_init_1 (Nat.le_of_ble_eq_true rfl) (Nat.le_of_ble_eq_true rfl) ?_
  refine W.eq (g2 := F0 m 4 ls []) rfl ?_
  refine lv_aload_n cx.x cx.b d_Bl_init_4 rfl (lv_at hl 0 rfl) ?_
  refine nw_Bl_9 cx (Nat.le_of_ble_eq_true rfl) (Nat.le_of_ble_eq_true rfl) d_Bl_init_5 (fun H44 hn45 z_H44 o_H44 => ?_)
  refine lv_dup cx.x cx.b d_Bl_init_8 rfl ?_
  refine lv_bipush (v := 12) cx.x cx.b d_Bl_init_9 (by decide) ?_
  have k1 : hCh (fun _ => False) H H44 := hCh.new z_H44 o_H44
  have hO1 := hO.ch k1 (fun q e => e.elim)
  refine hx_callv (iv_Bl_11 cx (c_Sf_init l hE hL (H := H44) (a := H.size) (most := 12) hn45 hO.1 hO1 (by omega)) rfl hl.1 rfl (Nat.le_of_ble_eq_true rfl) d_Bl_init_11 ⟨Nat.le_of_ble_eq_true rfl, Nat.le_of_ble_eq_true rfl⟩ ⟨Nat.le_of_ble_eq_true rfl, Nat.le_of_ble_eq_true rfl⟩) hlo (fun _ h => h) (fun H47 locs hp46 hlo => ?_)
  obtain ⟨s1, s2, s3⟩ := hp46
  have a2 := (h.ch k1 id).ch s2 (show a ≠ H.size by omega)
  refine pf_Bl_14_Bl (x := (some H.size)) cx hnm a2 hlo hB (Nat.le_of_ble_eq_true rfl) d_Bl_init_14 (fun H48 locs ho49 z_H48 o_H48 hlo => ?_)
  have ho49 : hOb (eD E) classes H48 a 5 [.ref H.size, .int 0] := ho49
  refine lv_aload_n cx.x cx.b d_Bl_init_17 rfl (lv_at hl 0 rfl) ?_
  refine lv_iconst (v := 2) cx.x cx.b d_Bl_init_18 (by decide) ?_
  refine pf_Bl_20_Bl cx ho49 hlo hB (Nat.le_of_ble_eq_true rfl) d_Bl_init_19 (fun H50 locs ho51 z_H50 o_H50 hlo => ?_)
  have ho51 : hOb (eD E) classes H50 a 5 [.ref H.size, .int 2] := ho51
  have k3 : hCh (fun q => q = a) H47 H50 := hCh.tr (S := fun q => q = a) (hCh.put z_H48 o_H48 rfl) (hCh.put z_H50 o_H50 rfl)
  have e5 : H44.size = H.size + 1 := z_H44
  rw [e5] at s1 s3
  have hf0 : fpH E (H.size, H.size + 1, eK E 100, 0) [] [] = [H.size, H.size + 1] := by unfold fpH fpSA fpA fpTs; rw [if_neg (Nat.not_le.mpr hL.1)]; rfl
  have s4 := s1.ch k3 (fun q hq => by rcases hq with e | e | ⟨e, e2⟩; show q ≠ a; rw [e]; show H.size ≠ a; omega; show q ≠ a; rw [e]; show H.size + 1 ≠ a; omega; exact absurd e2 (Nat.not_le.mpr hL.1))
  exact hx_retv cx.x cx.b cx.r cx.k hlo (fun _ h => h) (Nat.le_of_ble_eq_true rfl) (Nat.le_of_ble_eq_true rfl) d_Bl_init_22 (⟨⟨ho51, hB, Or.inr rfl, ⟨s4, fun t ht => absurd ht List.not_mem_nil, by rw [hf0]; simp, Nat.le_of_ble_eq_true rfl⟩, by rw [hf0]; simp only [List.mem_cons, List.not_mem_nil, or_false]; omega⟩, ⟨by omega, fun q hq hn => by rw [k3.2 q (by omega) hn, s2.2 q (by omega) (by omega), k1.2 q hq id]⟩, by omega⟩)

set_option maxHeartbeats 4000000 in
set_option maxRecDepth 100000 in
theorem c_Bl_empty (l : Launch) {E : hE} (hE : EnvOk E) {H : Heap} {bl fm : Nat} {sa : SA} {us sp : List TV} (h : Bs E H bl fm sa us sp) : Ct l E y_Bl_empty b_Bl_empty 1 none (rmA 1 0 0) [.ref bl] H (hQv (fun H1 => Bs E H1 bl 2 sa [] (us ++ sp) ∧ hCh (fun q => q = bl ∨ q = sa.1) H H1 ∧ H1.size = H.size)) := by
  refine hx_enter hE (by decide) (Nat.le_of_ble_eq_true rfl) ?_
  intro p e s m args below meth c ls cx hnm hl
  have hl : lv_has ls 1 [(0, .ref bl)] := hl
  have hlo : hLo (eB E) [] := hLo.nil
  obtain ⟨h1, h2, h3, h4, h5⟩ := h
  refine lv_aload_n cx.x cx.b d_Bl_empty_0 rfl (lv_at hl 0 rfl) ?_
  refine gf_Bl_14_Bl cx h1 rfl d_Bl_empty_1 ?_
  refine hx_callv (iv_Bl_24_Sf cx (c_Sf_empty l hE h4.1) h4.1.1 rfl hl.1 rfl (Nat.le_of_ble_eq_true rfl) d_Bl_empty_4 ⟨Nat.le_of_ble_eq_true rfl, Nat.le_of_ble_eq_true rfl⟩ ⟨Nat.le_of_ble_eq_true rfl, Nat.le_of_ble_eq_true rfl⟩) hlo (fun _ h => h) (fun H53 locs hp52 hlo => ?_)
  obtain ⟨s1, s2, s3⟩ := hp52
  have hne : bl ≠ sa.1 := fun e => h5 (List.mem_append_left _ (fpSA_sf.mpr (Or.inl e)))
  have b1 := h1.ch s2 hne
  refine lv_aload_n cx.x cx.b d_Bl_empty_7 rfl (lv_at hl 0 rfl) ?_
  refine lv_iconst (v := 2) cx.x cx.b d_Bl_empty_8 (by decide) ?_
  refine pf_Bl_20_Bl cx b1 hlo h2 (Nat.le_of_ble_eq_true rfl) d_Bl_empty_9 (fun H54 locs ho55 z_H54 o_H54 hlo => ?_)
  have ho55 : hOb (eD E) classes H54 bl 5 [.ref sa.1, .int 2] := ho55
  have k2 : hCh (fun q => q = bl) H53 H54 := hCh.put z_H54 o_H54 rfl
  have e9 : (us.map (·.1)).map adr ++ sp.map tad = (us ++ sp).map tad := by rw [List.map_append, List.map_map]; rfl
  rw [e9] at s1
  exact hx_retv cx.x cx.b cx.r cx.k hlo (fun _ h => h) (Nat.le_of_ble_eq_true rfl) (Nat.le_of_ble_eq_true rfl) d_Bl_empty_12 (⟨⟨ho55, h2, Or.inr rfl, ⟨s1.ch k2 (fun q hq e => h5 (List.mem_append_left _ (fpSA_sf.mpr (e ▸ hq)))), fun t ht => ((h4.2.1 t ht).ch s2 (fun q hq e => TSh.dis h4.2.2.1 t ht q hq (Or.inl e))).ch k2 (fun q hq e => h5 (List.mem_append_right _ (fpTs_mem.mpr ⟨t, ht, e ▸ hq⟩))), h4.2.2.1, by rw [List.length_append]; show 0 + _ ≤ 12; have := h4.2.2.2; omega⟩, h5⟩, (s2.mono (fun q _ e => Or.inr e)).tr (k2.mono (fun q _ e => Or.inl e)), by omega⟩)

set_option maxHeartbeats 4000000 in
set_option maxRecDepth 100000 in
theorem c_Bl_named (l : Launch) {E : hE} (hE : EnvOk E) {H : Heap} {bl fm : Nat} {sa : SA} {us sp : List TV} (h : Bs E H bl fm sa us sp) {n narr cap : Nat} {xs : List Nat} {o : Bool} (hr : Rw E H n narr cap xs o) : Ct l E y_Bl_named b_Bl_named 4 (some (.object "BaselineText$Type")) (rmA 4 0 0) [.ref bl, .ref n] H (hQr (fun r H1 => r = (nmd xs us).map tad ∧ H1 = H)) := by
  refine hx_enter hE (by decide) (Nat.le_of_ble_eq_true rfl) ?_
  intro p e s m args below meth c ls cx hnm hl
  have hl : lv_has ls 4 [(0, .ref bl), (1, .ref n)] := hl
  have hlo : hLo (eB E) [] := hLo.nil
  generalize hQ : MQ below _ args s _ _ _ = Q
  have hT := h.2.2.2.1
  have hl9 := hT.2.2.2
  have LP : ∀ (k : Nat) (locs : List Loc) (i : Nat), hLo (eB E) locs → (us.length - i < k) → (i ≤ us.length) → (nmd xs (us.drop i) = nmd xs us) → ∀ ls, lv_has ls 4 [(2, .int (nI i)), (0, .ref bl), (1, .ref n)] → W p l e (rmA 4 0 0) s m args below meth c H locs 0 0 Q (F0 m 2 ls []) := by
    intro k
    induction k with
    | zero => intro locs i hlo hk hi hj; exact absurd hk (by omega)
    | succ k ih =>
      intro locs i hlo hk hi hj ls hl
      refine lv_iload_n cx.x cx.b d_Bl_named_2 rfl (lv_at hl 0 rfl) ?_
      refine lv_aload_n cx.x cx.b d_Bl_named_3 rfl (lv_at hl 1 rfl) ?_
      refine gf_Bl_14_Bl cx h.1 rfl d_Bl_named_4 ?_
      refine hx_calli (iv_Bl_27_Sf cx (c_Sf_count l hE hT.1) hT.1.1 rfl hl.1 rfl (Nat.le_of_ble_eq_true rfl) d_Bl_named_7 ⟨Nat.le_of_ble_eq_true rfl, Nat.le_of_ble_eq_true rfl⟩ ⟨Nat.le_of_ble_eq_true rfl, Nat.le_of_ble_eq_true rfl⟩) hlo (fun _ h => h) (fun r58 H57 locs hp56 hlo => ?_)
      obtain ⟨hp56, hH9⟩ := hp56
      have hH9 := hH9.symm
      subst hH9
      subst hp56
      rw [List.length_map]
      refine lv_icmp_ge (tgt := 48) cx.x cx.b d_Bl_named_10 (by decide) (fun c1 => ?_) (fun c1 => ?_)
      · have c1 : us.length ≤ i := (nI_leI (a := us.length) (b := i) (by omega) (by omega)).mp c1
        rw [List.drop_eq_nil_of_le c1] at hj
        refine lv_null cx.x cx.b d_Bl_named_48 ?_
        rw [← hQ]
        exact hx_reta (v := none) cx.x cx.b cx.r cx.k (Or.inl ⟨_, rfl⟩) hlo (fun _ h => h) (Nat.le_of_ble_eq_true rfl) (Nat.le_of_ble_eq_true rfl) d_Bl_named_49 (⟨by rw [← hj]; rfl, rfl⟩)
      · have c1 : i < us.length := Nat.not_le.mp (fun zz => c1 ((nI_leI (a := us.length) (b := i) (by omega) (by omega)).mpr zz))
        rw [drop_consT c1] at hj
        refine lv_aload_n cx.x cx.b d_Bl_named_13 rfl (lv_at hl 1 rfl) ?_
        refine gf_Bl_14_Bl cx h.1 rfl d_Bl_named_14 ?_
        refine lv_iload_n cx.x cx.b d_Bl_named_17 rfl (lv_at hl 0 rfl) ?_
        refine hx_callr (iv_Bl_31_Sf cx (c_Sf_get l hE hT.1 hT.sfd (nI i)) hT.1.1 rfl hl.1 rfl (Nat.le_of_ble_eq_true rfl) d_Bl_named_18 ⟨Nat.le_of_ble_eq_true rfl, Nat.le_of_ble_eq_true rfl⟩ ⟨Nat.le_of_ble_eq_true rfl, Nat.le_of_ble_eq_true rfl⟩) hlo (fun _ h => h) (fun r61 H60 locs hp59 hlo => ?_)
        obtain ⟨hp59, hH9⟩ := hp59
        have hH9 := hH9.symm
        subst hH9
        rw [nI_toInt (by omega), if_pos ⟨by omega, by rw [List.length_map]; omega⟩, show (i : Int).toNat = i from rfl, getD_mapT (by omega)] at hp59
        subst hp59
        have htyus := hT.2.1 _ (List.mem_append_left _ (getD_memT (us := us) (i := i) (by omega)))
        refine hx_castT cx tw_630 (htyus.ob) d_Bl_named_21 ?_
        show W p l e _ s m args below meth c H locs _ _ _ (F0 m 24 ls [.ref ((us.getD i default).1.1.1)])
        have hj : (if cmpL (us.getD i default).1.2.2.1 xs = 0 then some (us.getD i default) else nmd xs (us.drop (i + 1))) = nmd xs us := hj
        refine lv_astore_n (lv' := [(3, .ref ((us.getD i default).1.1.1)), (2, .int (nI i)), (0, .ref bl), (1, .ref n)]) cx.x cx.b d_Bl_named_24 rfl hl (by decide) rfl (fun ls hl => ?_)
        refine lv_aload_n cx.x cx.b d_Bl_named_25 rfl (lv_at hl 0 rfl) ?_
        refine lv_ifnull cx.x cx.b d_Bl_named_26 ?_
        refine lv_aload_n cx.x cx.b d_Bl_named_29 rfl (lv_at hl 0 rfl) ?_
        refine gf_Bl_37_Tp cx htyus.ob rfl d_Bl_named_30 ?_
        refine lv_aload_n cx.x cx.b d_Bl_named_33 rfl (lv_at hl 3 rfl) ?_
        refine hx_calli (iv_Bl_41_Rw cx (c_Rw_compare l hE htyus.1.2.1 hr) htyus.1.2.1.1 rfl hl.1 rfl (Nat.le_of_ble_eq_true rfl) d_Bl_named_34 ⟨Nat.le_of_ble_eq_true rfl, Nat.le_of_ble_eq_true rfl⟩ ⟨Nat.le_of_ble_eq_true rfl, Nat.le_of_ble_eq_true rfl⟩) hlo (fun _ h => h) (fun r64 H63 locs hp62 hlo => ?_)
        obtain ⟨hp62, hH9⟩ := hp62
        have hH9 := hH9.symm
        subst hH9
        refine lv_if_ne (tgt := 42) cx.x cx.b d_Bl_named_37 (by decide) (fun c2 => ?_) (fun c2 => ?_)
        · rw [if_neg (fun z => c2 (i32_ne.mpr (by rw [hp62]; exact z)))] at hj
          obtain ⟨x65, e_x65⟩ : ∃ y : Int32, y = nI i + 1 := ⟨_, rfl⟩
          refine lv_iinc (v := x65) (lv' := [(2, .int x65), (3, .ref ((us.getD i default).1.1.1)), (0, .ref bl), (1, .ref n)]) cx.x cx.b d_Bl_named_42 hl (k := 1) rfl (by rw [e_x65]; rfl) (by decide) rfl (fun ls hl => ?_)
          refine lv_goto (tgt := 2) cx.x cx.b d_Bl_named_45 (by decide) ?_
          rw [nI_1] at e_x65
          subst e_x65
          exact ih _ (i + 1) hlo (by omega) (by omega) hj _ (lv_sub hl [0, 2, 3] rfl)
        · rw [if_pos (by rw [← hp62]; exact i32_ne.mp c2)] at hj
          refine lv_aload_n cx.x cx.b d_Bl_named_40 rfl (lv_at hl 0 rfl) ?_
          rw [← hQ]
          exact hx_reta (v := some ((us.getD i default).1.1.1)) cx.x cx.b cx.r cx.k (Or.inl ⟨_, rfl⟩) hlo (fun _ h => h) (Nat.le_of_ble_eq_true rfl) (Nat.le_of_ble_eq_true rfl) d_Bl_named_41 (⟨by rw [← hj]; rfl, rfl⟩)
  refine lv_iconst (v := 0) cx.x cx.b d_Bl_named_0 (by decide) ?_
  refine lv_istore_n (lv' := [(2, .int 0), (0, .ref bl), (1, .ref n)]) cx.x cx.b d_Bl_named_1 rfl hl (by decide) rfl (fun ls hl => ?_)
  exact LP (us.length + 1) _ 0 hlo (by omega) (Nat.zero_le _) rfl _ hl
