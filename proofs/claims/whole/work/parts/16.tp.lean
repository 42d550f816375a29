/-! WHAT THE STRUCTURES ARE MADE OF: footprints, without a double -/
def fpD (ad : DA) : List Nat := [ad.1, ad.2.1, ad.2.2.1, ad.2.2.2.1, ad.2.2.2.2]
def fpA (E : hE) (arr : Nat) : List Nat := if eB E ≤ arr then [arr] else []
def fpSA (E : hE) (sa : SA) : List Nat := sa.1 :: sa.2.1 :: fpA E sa.2.2.1
def fpDs (ds : List EL) : List Nat := ds.flatMap (fun d => fpD d.1)
/-- a shelf of members: those in use, the spare ones -/
def fpM (E : hE) (sa : SA) (us sp : List EL) : List Nat := fpSA E sa ++ fpDs (us ++ sp)
def MSh (E : hE) (H : Heap) (sa : SA) (us sp : List EL) : Prop := Sf E H sa 8 us (sp.map adr) ∧ (∀ d ∈ us ++ sp, Dc E H d.1 none d.2.2 false false ∧ d.2.1 = none) ∧ (fpM E sa us sp).Nodup ∧ us.length + sp.length ≤ 8
/-- a TYPE: its declaration, its shelf's addresses, its members in use and spare -/
abbrev TV : Type := EL × SA × List EL × List EL
def fpT (E : hE) (t : TV) : List Nat := fpD t.1.1 ++ fpM E t.2.1 t.2.2.1 t.2.2.2
def Ty (E : hE) (H : Heap) (t : TV) : Prop := Dc E H t.1.1 t.1.2.1 t.1.2.2 false false ∧ t.1.2.1 = some t.2.1.1 ∧ MSh E H t.2.1 t.2.2.1 t.2.2.2 ∧ (fpT E t).Nodup
theorem fpD_dc {ad : DA} {q : Nat} : q ∈ fpD ad ↔ dcS ad q := by
  unfold fpD dcS rS
  simp only [List.mem_cons, List.not_mem_nil, or_false]
  constructor
  · intro h; rcases h with h | h | h | h | h <;> simp [h]
  · intro h; rcases h with h | (h | h) | (h | h) <;> simp [h]
theorem fpA_mem {E : hE} {arr q : Nat} : q ∈ fpA E arr ↔ (q = arr ∧ eB E ≤ arr) := by
  unfold fpA
  by_cases c : eB E ≤ arr
  · rw [if_pos c]; simp [c]
  · rw [if_neg c]; simp [c]
theorem fpSA_sf {E : hE} {sa : SA} {q : Nat} : q ∈ fpSA E sa ↔ sfS E sa q := by
  unfold fpSA sfS lS
  rw [List.mem_cons, List.mem_cons, fpA_mem]
theorem fpDs_mem {ds : List EL} {q : Nat} : q ∈ fpDs ds ↔ ∃ d ∈ ds, dcS d.1 q := by
  unfold fpDs
  rw [List.mem_flatMap]
  constructor
  · intro ⟨d, h1, h2⟩; exact ⟨d, h1, fpD_dc.mp h2⟩
  · intro ⟨d, h1, h2⟩; exact ⟨d, h1, fpD_dc.mpr h2⟩
theorem fpDs_app (xs ys : List EL) : fpDs (xs ++ ys) = fpDs xs ++ fpDs ys := by unfold fpDs; rw [List.flatMap_append]
theorem fpDs_perm {xs ys : List EL} (h : xs.Perm ys) : (fpDs xs).Perm (fpDs ys) := h.flatMap_right _
theorem insE_perm (ds : List EL) (d : EL) : (insE ds d).Perm (d :: ds) := by
  unfold insE
  have h := List.perm_middle (a := d) (l₁ := ds.take (plc d.2.2 ds 0 0)) (l₂ := ds.drop (plc d.2.2 ds 0 0))
  rw [List.take_append_drop] at h
  exact h
theorem insE_mem {ds : List EL} {d x : EL} : x ∈ insE ds d ↔ x = d ∨ x ∈ ds := by rw [(insE_perm ds d).mem_iff, List.mem_cons]
/-- a part is replaced by another that is no larger but for new cells -/
theorem nodup_repl {A X Y B : List Nat} {N : Nat} (h : (A ++ (X ++ B)).Nodup) (hy : Y.Nodup) (hsub : ∀ q ∈ Y, q ∈ X ∨ N ≤ q) (hlt : ∀ q ∈ A ++ (X ++ B), q < N) : (A ++ (Y ++ B)).Nodup := by
  rw [List.nodup_append] at h ⊢
  obtain ⟨hA, hXB, hAX⟩ := h
  rw [List.nodup_append] at hXB
  obtain ⟨hX, hB, hXBd⟩ := hXB
  refine ⟨hA, ?_, ?_⟩
  · rw [List.nodup_append]
    refine ⟨hy, hB, fun a ha b hb e => ?_⟩
    rcases hsub a ha with q | q
    · exact hXBd a q b hb e
    · have := hlt b (List.mem_append_right _ (List.mem_append_right _ hb)); omega
  · intro a ha b hb e
    rcases List.mem_append.mp hb with q | q
    · rcases hsub b q with q | q
      · exact hAX a ha b (List.mem_append_left _ q) e
      · have := hlt a (List.mem_append_left _ ha); omega
    · exact hAX a ha b (List.mem_append_right _ q) e
theorem Rw.lt {E : hE} {H : Heap} {a arr cap : Nat} {xs : List Nat} {o : Bool} (h : Rw E H a arr cap xs o) : ∀ q, rS a arr q → q < H.size := fun q hq => by
  obtain ⟨h1, ⟨f, h2, -⟩, -⟩ := h
  rcases hq with e | e
  · rw [e]; exact h1.lt
  · rw [e]; exact h2.lt
theorem Dc.lt {E : hE} {H : Heap} {ad : DA} {v : Option Nat} {dv : DV} {o1 o2 : Bool} (h : Dc E H ad v dv o1 o2) : ∀ q, dcS ad q → q < H.size := fun q hq => by
  rcases hq with e | e | e
  · rw [e]; exact h.1.lt
  · exact h.2.1.lt q e
  · exact h.2.2.1.lt q e
theorem Sf.lt {E : hE} (hL : EnvL E) {H : Heap} {sa : SA} {most : Nat} {ds : List EL} {sp : List Nat} (h : Sf E H sa most ds sp) : ∀ q, sfS E sa q → q < H.size := fun q hq => by
  obtain ⟨h1, ⟨⟨mcn, h2⟩, -, -, -, h3⟩, -⟩ := h
  rcases hq with e | e | ⟨e, e2⟩
  · rw [e]; exact h1.lt
  · rw [e]; exact h2.lt
  · rcases h3 with h3 | ⟨-, -, -, f, h3, -⟩
    · rw [h3.2] at e2; exact absurd e2 (Nat.not_le.mpr hL.1)
    · rw [e]; exact h3.lt
theorem Sf.lo {E : hE} {H : Heap} {sa : SA} {most : Nat} {ds : List EL} {sp : List Nat} (h : Sf E H sa most ds sp) : ∀ q, sfS E sa q → eB E ≤ q := fun q hq => by
  rcases hq with e | e | ⟨e, e2⟩
  · rw [e]; exact h.2.2.1
  · rw [e]; exact h.2.1.2.1
  · rw [e]; exact e2
theorem Sf.ch {E : hE} {H H1 : Heap} {sa : SA} {most : Nat} {ds : List EL} {sp : List Nat} {S : Nat → Prop} (h : Sf E H sa most ds sp) (k : hCh S H H1) (hs : ∀ q, sfS E sa q → ¬ S q) : Sf E H1 sa most ds sp := by
  obtain ⟨h1, h2, r⟩ := h
  exact ⟨h1.ch k (hs _ (Or.inl rfl)), h2.ch k (hs _ (Or.inr (Or.inl rfl))) (fun q => hs _ (Or.inr (Or.inr ⟨rfl, q⟩))), r⟩
theorem MSh.lt {E : hE} (hL : EnvL E) {H : Heap} {sa : SA} {us sp : List EL} (h : MSh E H sa us sp) : ∀ q ∈ fpM E sa us sp, q < H.size := fun q hq => by
  rcases List.mem_append.mp hq with e | e
  · exact h.1.lt hL q (fpSA_sf.mp e)
  · obtain ⟨d, hd, e⟩ := fpDs_mem.mp e
    exact (h.2.1 d hd).1.lt q e
theorem MSh.lo {E : hE} {H : Heap} {sa : SA} {us sp : List EL} (h : MSh E H sa us sp) : ∀ q ∈ fpM E sa us sp, eB E ≤ q := fun q hq => by
  rcases List.mem_append.mp hq with e | e
  · exact h.1.lo q (fpSA_sf.mp e)
  · obtain ⟨d, hd, e⟩ := fpDs_mem.mp e
    exact dcS.lo (h.2.1 d hd).1 q e
theorem MSh.ch {E : hE} {H H1 : Heap} {sa : SA} {us sp : List EL} {S : Nat → Prop} (h : MSh E H sa us sp) (k : hCh S H H1) (hs : ∀ q ∈ fpM E sa us sp, ¬ S q) : MSh E H1 sa us sp := by
  obtain ⟨h1, h2, h3⟩ := h
  exact ⟨h1.ch k (fun q hq => hs q (List.mem_append_left _ (fpSA_sf.mpr hq))), fun d hd => ⟨(h2 d hd).1.ch k (fun q hq => hs q (List.mem_append_right _ (fpDs_mem.mpr ⟨d, hd, hq⟩))), (h2 d hd).2⟩, h3⟩
theorem Ty.lt {E : hE} (hL : EnvL E) {H : Heap} {t : TV} (h : Ty E H t) : ∀ q ∈ fpT E t, q < H.size := fun q hq => by
  rcases List.mem_append.mp hq with e | e
  · exact h.1.lt q (fpD_dc.mp e)
  · exact h.2.2.1.lt hL q e
theorem Ty.lo {E : hE} {H : Heap} {t : TV} (h : Ty E H t) : ∀ q ∈ fpT E t, eB E ≤ q := fun q hq => by
  rcases List.mem_append.mp hq with e | e
  · exact dcS.lo h.1 q (fpD_dc.mp e)
  · exact h.2.2.1.lo q e
theorem Ty.ch {E : hE} {H H1 : Heap} {t : TV} {S : Nat → Prop} (h : Ty E H t) (k : hCh S H H1) (hs : ∀ q ∈ fpT E t, ¬ S q) : Ty E H1 t := by
  obtain ⟨h1, h2, h3, h4⟩ := h
  exact ⟨h1.ch k (fun q hq => hs q (List.mem_append_left _ (fpD_dc.mpr hq))), h2, h3.ch k (fun q hq => hs q (List.mem_append_right _ hq)), h4⟩
theorem MSh.sfd {E : hE} {H : Heap} {sa : SA} {us sp : List EL} (h : MSh E H sa us sp) : SfD E H sa us (sp.map adr) := by
  obtain ⟨h1, h2, h3, h4⟩ := h
  refine ⟨fun d hd => ?_, fun y hy => ?_, fun y hy hs => ?_⟩
  · have := h2 d (List.mem_append_left _ hd); rw [this.2]; exact this.1
  · obtain ⟨d, hd, rfl⟩ := List.mem_map.mp hy
    exact (h2 d (List.mem_append_right _ hd)).1.isDe
  · rw [← List.map_append] at hy
    obtain ⟨d, hd, rfl⟩ := List.mem_map.mp hy
    unfold fpM at h3
    rw [List.nodup_append] at h3
    exact h3.2.2 _ (fpSA_sf.mpr hs) _ (fpDs_mem.mpr ⟨d, hd, Or.inl rfl⟩) rfl
theorem fpD_nd {E : hE} {H : Heap} {ad : DA} {v : Option Nat} {dv : DV} {o1 o2 : Bool} (h : Dc E H ad v dv o1 o2) : (fpD ad).Nodup := by
  obtain ⟨-, r1, r2, -, ⟨n1, n2, n3, n4, n5, n6, n7, n8⟩, -⟩ := h
  have m1 := r1.2.2.2.2.1.2.2
  have m2 := r2.2.2.2.2.1.2.2
  unfold fpD
  simp only [List.nodup_cons, List.mem_cons, List.not_mem_nil, or_false, not_or, not_false_eq_true, List.nodup_nil, and_true]
  exact ⟨⟨n1, n2, n3, n4⟩, ⟨m1, n5, n6⟩, ⟨n7, n8⟩, m2⟩
theorem Sf.nd {E : hE} (hL : EnvL E) {H : Heap} {sa : SA} {most : Nat} {ds : List EL} {sp : List Nat} (h : Sf E H sa most ds sp) : (fpSA E sa).Nodup := by
  obtain ⟨h1, ⟨⟨mcn, h2⟩, -, -, -, h3⟩, -, h4, h5, -⟩ := h
  unfold fpSA fpA
  by_cases c : eB E ≤ sa.2.2.1
  · rw [if_pos c]
    simp only [List.nodup_cons, List.mem_cons, List.not_mem_nil, or_false, not_or, not_false_eq_true, List.nodup_nil, and_true]
    refine ⟨⟨h4, h5 c⟩, ?_⟩
    rcases h3 with h3 | ⟨-, h3, -⟩
    · rw [h3.2] at c; exact absurd c (Nat.not_le.mpr hL.1)
    · exact Ne.symm h3
  · rw [if_neg c]
    simp only [List.nodup_cons, List.mem_cons, List.not_mem_nil, or_false, not_or, not_false_eq_true, List.nodup_nil, and_true]
    exact h4
theorem fpDs_cons (d : EL) (ds : List EL) : fpDs (d :: ds) = fpD d.1 ++ fpDs ds := rfl
theorem addM_tail {E : hE} (hL : EnvL E) {H3 H4 : Heap} {sa : SA} {us sp : List EL} {d : EL} {arr2 cap2 : Nat} (hSf : Sf E H3 sa 8 us (sp.map adr)) (hds : ∀ x ∈ us ++ sp, Dc E H3 x.1 none x.2.2 false false ∧ x.2.1 = none) (hd : Dc E H3 d.1 none d.2.2 false false) (hdn : d.2.1 = none) (hnd : (fpSA E sa ++ fpDs (d :: (us ++ sp))).Nodup) (hput : Sf E H4 (sa.1, sa.2.1, arr2, cap2) 8 (insE us d) (sp.map adr)) (harr : (arr2 = sa.2.2.1 ∧ H4.size = H3.size) ∨ (arr2 = H3.size ∧ H4.size = H3.size + 1)) (hch : hCh (sfS E sa) H3 H4) (hlen : us.length + sp.length < 8) : MSh E H4 (sa.1, sa.2.1, arr2, cap2) (insE us d) sp ∧ ∀ q ∈ fpM E (sa.1, sa.2.1, arr2, cap2) (insE us d) sp, q ∈ fpSA E sa ++ fpDs (d :: (us ++ sp)) ∨ H3.size ≤ q := by
  have hperm : (insE us d ++ sp).Perm (d :: (us ++ sp)) := (insE_perm us d).append_right sp
  have hpf : (fpDs (insE us d ++ sp)).Perm (fpDs (d :: (us ++ sp))) := fpDs_perm hperm
  have hall : ∀ x ∈ insE us d ++ sp, Dc E H3 x.1 none x.2.2 false false ∧ x.2.1 = none := fun x hx => by
    rcases List.mem_cons.mp (hperm.mem_iff.mp hx) with e | e
    · rw [e]; exact ⟨hd, hdn⟩
    · exact hds x e
  have hsub : ∀ q ∈ fpSA E (sa.1, sa.2.1, arr2, cap2), q ∈ fpSA E sa ∨ H3.size ≤ q := fun q hq => by
    rcases fpSA_sf.mp hq with e | e | ⟨e, e2⟩
    · exact Or.inl (fpSA_sf.mpr (Or.inl e))
    · exact Or.inl (fpSA_sf.mpr (Or.inr (Or.inl e)))
    · rcases harr with h | h
      · exact Or.inl (fpSA_sf.mpr (Or.inr (Or.inr ⟨by rw [e]; exact h.1, by rw [← h.1]; exact e2⟩)))
      · exact Or.inr (by rw [e]; exact Nat.le_of_eq h.1.symm)
  have hnd2 : (fpSA E sa ++ fpDs (insE us d ++ sp)).Nodup := (List.Perm.append_left _ hpf).nodup_iff.mpr hnd
  have hnd3 : (fpM E (sa.1, sa.2.1, arr2, cap2) (insE us d) sp).Nodup := by
    have h := nodup_repl (A := []) (X := fpSA E sa) (Y := fpSA E (sa.1, sa.2.1, arr2, cap2)) (B := fpDs (insE us d ++ sp)) (N := H3.size) hnd2 (hput.nd hL) hsub (fun q hq => by
      rcases List.mem_append.mp hq with e | e
      · exact absurd e List.not_mem_nil
      rcases List.mem_append.mp e with e | e
      · exact hSf.lt hL q (fpSA_sf.mp e)
      · obtain ⟨x, hx, e⟩ := fpDs_mem.mp e
        exact (hall x hx).1.lt q e)
    exact h
  refine ⟨⟨hput, fun x hx => ⟨(hall x hx).1.ch hch (fun q hq hs => ?_), (hall x hx).2⟩, hnd3, by rw [insE_len]; omega⟩, fun q hq => ?_⟩
  · rw [List.nodup_append] at hnd2
    exact hnd2.2.2 q (fpSA_sf.mpr hs) q (fpDs_mem.mpr ⟨x, hx, hq⟩) rfl
  · rcases List.mem_append.mp hq with e | e
    · rcases hsub q e with e | e
      · exact Or.inl (List.mem_append_left _ e)
      · exact Or.inr e
    · exact Or.inl (List.mem_append_right _ (hpf.mem_iff.mp e))
set_option maxHeartbeats 4000000 in
set_option maxRecDepth 100000 in
theorem c_Sf_init (l : Launch) {E : hE} (hE : EnvOk E) (hL : EnvL E) {H : Heap} {a most : Nat} (h : hOb (eD E) classes H a 3 [.null, .int 0, .int 0]) (hB : eB E ≤ a) (hO : Old E H) (hm : most ≤ 12) : Ct l E y_Sf_init b_Sf_init 2 none (rmA 4 1 3) [.ref a, .int (nI most)] H (hQv (fun H1 => Sf E H1 (a, H.size, eK E 100, 0) most [] [] ∧ hCh (fun q => q = a) H H1 ∧ H1.size = H.size + 1)) := by
  refine hx_enter hE (by decide) (Nat.le_of_ble_eq_true rfl) ?_
  intro p e s m args below meth c ls cx hnm hl
  have hl : lv_has ls 2 [(0, .ref a), (1, .int (nI most))] := hl
  have hlo : hLo (eB E) [] := hLo.nil
  have hlt := h.lt
  refine lv_aload_n cx.x cx.b d_Sf_init_0 rfl (lv_at hl 0 rfl) ?_
  refine W.objInit cx.x cx.b cx.o (cx.ts _ tw_84) (cx.ts _ tw_31) (cx.ts _ tw_32) rfl (hl.1.trans cx.ml.symm) rfl d_Sf_init_1 (Nat.le_of_ble_eq_true rfl) (Nat.le_of_ble_eq_true rfl) ?_
  refine W.eq (g2 := F0 m 4 ls []) rfl ?_
  refine lv_aload_n cx.x cx.b d_Sf_init_4 rfl (lv_at hl 0 rfl) ?_
  refine nw_Sf_7 cx (Nat.le_of_ble_eq_true rfl) (Nat.le_of_ble_eq_true rfl) d_Sf_init_5 (fun H44 hn45 z_H44 o_H44 => ?_)
  refine lv_dup cx.x cx.b d_Sf_init_8 rfl ?_
  have k1 : hCh (fun _ => False) H H44 := hCh.new z_H44 o_H44
  have hO1 := hO.ch k1 (fun q e => e.elim)
  refine hx_callv (iv_Sf_9 cx (c_AL_init l hE hL (H := H44) (a := H.size) hn45 hO.1 hO1) rfl hl.1 rfl (Nat.le_of_ble_eq_true rfl) d_Sf_init_9 ⟨Nat.le_of_ble_eq_true rfl, Nat.le_of_ble_eq_true rfl⟩ ⟨Nat.le_of_ble_eq_true rfl, Nat.le_of_ble_eq_true rfl⟩) hlo (fun _ h => h) (fun H47 locs hp46 hlo => ?_)
  obtain ⟨q1, q2, q3⟩ := hp46
  have a2 : hOb (eD E) classes H47 a 3 [.null, .int 0, .int 0] := (h.ch k1 id).ch q2 (by omega)
  refine pf_Sf_10_Sf (x := (some H.size)) cx hnm a2 hlo hB (Nat.le_of_ble_eq_true rfl) d_Sf_init_12 (fun H48 locs ho49 z_H48 o_H48 hlo => ?_)
  have ho49 : hOb (eD E) classes H48 a 3 [.ref H.size, .int 0, .int 0] := ho49
  refine lv_aload_n cx.x cx.b d_Sf_init_15 rfl (lv_at hl 0 rfl) ?_
  refine lv_iload_n cx.x cx.b d_Sf_init_16 rfl (lv_at hl 1 rfl) ?_
  refine pf_Sf_16_Sf cx hnm ho49 hlo hB (Nat.le_of_ble_eq_true rfl) d_Sf_init_17 (fun H50 locs ho51 z_H50 o_H50 hlo => ?_)
  have ho51 : hOb (eD E) classes H50 a 3 [.ref H.size, .int (nI most), .int 0] := ho51
  have k3 : hCh (fun q => q = a) H47 H50 := hCh.tr (S := fun q => q = a) (hCh.put z_H48 o_H48 rfl) (hCh.put z_H50 o_H50 rfl)
  exact hx_retv cx.x cx.b cx.r cx.k hlo (fun _ h => h) (Nat.le_of_ble_eq_true rfl) (Nat.le_of_ble_eq_true rfl) d_Sf_init_20 (⟨⟨ho51, q1.ch k3 (show H.size ≠ a by omega) (fun q => absurd q (Nat.not_le.mpr hL.1)), hB, show a ≠ H.size by omega, fun q => absurd q (Nat.not_le.mpr hL.1), hm, by decide⟩, ⟨by omega, fun q hq hn => by rw [k3.2 q (by omega) hn, q2.2 q (by omega) (by omega), o_H44 q hq]⟩, by omega⟩)

set_option maxHeartbeats 4000000 in
set_option maxRecDepth 100000 in
theorem c_Tp_init (l : Launch) {E : hE} (hE : EnvOk E) (hL : EnvL E) {H : Heap} {a : Nat} (h : hOb (eD E) classes H a 2 [.null, .null, .int 0, .int 0, .null]) (hB : eB E ≤ a) (hO : Old E H) : Ct l E y_Tp_init b_Tp_init 1 none (rmA 5 6 52) [.ref a] H (hQv (fun H1 => Ty E H1 (((a, H.size, H.size + 1, H.size + 2, H.size + 3), some (H.size + 4), ([], [], 0, 0)), (H.size + 4, H.size + 5, eK E 100, 0), [], []) ∧ hCh (fun q => q = a) H H1 ∧ H1.size = H.size + 6)) := by
  refine hx_enter hE (by decide) (Nat.le_of_ble_eq_true rfl) ?_
  intro p e s m args below meth c ls cx hnm hl
  have hl : lv_has ls 1 [(0, .ref a)] := hl
  have hlo : hLo (eB E) [] := hLo.nil
  have hlt := h.lt
  refine lv_aload_n cx.x cx.b d_Tp_init_0 rfl (lv_at hl 0 rfl) ?_
  refine hx_callv (iv_Tp_3 cx (c_Dc_init_T l hE h hB hO.1) rfl hl.1 rfl (Nat.le_of_ble_eq_true rfl) d_Tp_init_1 ⟨Nat.le_of_ble_eq_true rfl, Nat.le_of_ble_eq_true rfl⟩ ⟨Nat.le_of_ble_eq_true rfl, Nat.le_of_ble_eq_true rfl⟩) hlo (fun _ h => h) (fun H53 locs hp52 hlo => ?_)
  obtain ⟨d1, d2, d3, d4, d5⟩ := hp52
  have hOd := hO.ch d4 (fun q e => by rw [e]; exact hB)
  refine lv_aload_n cx.x cx.b d_Tp_init_4 rfl (lv_at hl 0 rfl) ?_
  refine nw_Tp_9 cx (Nat.le_of_ble_eq_true rfl) (Nat.le_of_ble_eq_true rfl) d_Tp_init_5 (fun H54 hn55 z_H54 o_H54 => ?_)
  refine lv_dup cx.x cx.b d_Tp_init_8 rfl ?_
  refine lv_bipush (v := 8) cx.x cx.b d_Tp_init_9 (by decide) ?_
  have k1 : hCh (fun _ => False) H53 H54 := hCh.new z_H54 o_H54
  have hO1 := hOd.ch k1 (fun q e => e.elim)
  refine hx_callv (iv_Tp_11 cx (c_Sf_init l hE hL (H := H54) (a := H53.size) (most := 8) hn55 (by omega) hO1 (by omega)) rfl hl.1 rfl (Nat.le_of_ble_eq_true rfl) d_Tp_init_11 ⟨Nat.le_of_ble_eq_true rfl, Nat.le_of_ble_eq_true rfl⟩ ⟨Nat.le_of_ble_eq_true rfl, Nat.le_of_ble_eq_true rfl⟩) hlo (fun _ h => h) (fun H57 locs hp56 hlo => ?_)
  obtain ⟨s1, s2, s3⟩ := hp56
  have a2 := (d1.ch k1 id).ch s2 (show a ≠ H53.size by omega)
  refine pf_Tp_14_Tp (x := (some H53.size)) cx hnm a2 hlo hB (Nat.le_of_ble_eq_true rfl) d_Tp_init_14 (fun H58 locs ho59 z_H58 o_H58 hlo => ?_)
  have ho59 : hOb (eD E) classes H58 a 2 [.ref H.size, .ref (H.size + 2), .int 0, .int 0, .ref H53.size] := ho59
  have k2 : hCh (fun q => q = a) H57 H58 := hCh.put z_H58 o_H58 rfl
  have r1 := ((d2.ch k1 id id).ch s2 (show H.size ≠ H53.size by omega) (show H.size + 1 ≠ H53.size by omega)).ch k2 (show H.size ≠ a by omega) (show H.size + 1 ≠ a by omega)
  have r2 := ((d3.ch k1 id id).ch s2 (show H.size + 2 ≠ H53.size by omega) (show H.size + 3 ≠ H53.size by omega)).ch k2 (show H.size + 2 ≠ a by omega) (show H.size + 3 ≠ a by omega)
  have s4 := s1.ch k2 (fun q hq => by rcases hq with e | e | ⟨e, e2⟩; show q ≠ a; rw [e]; show H53.size ≠ a; omega; show q ≠ a; rw [e]; show H54.size ≠ a; omega; exact absurd e2 (Nat.not_le.mpr hL.1))
  have e4 : H53.size = H.size + 4 := d5
  have e5 : H54.size = H.size + 5 := by omega
  rw [e4, e5] at s4
  rw [e4] at ho59
  have hD : Dc E H58 (a, H.size, H.size + 1, H.size + 2, H.size + 3) (some (H.size + 4)) ([], [], 0, 0) false false := ⟨ho59, r1, r2, hB, ⟨show a ≠ H.size by omega, show a ≠ H.size + 1 by omega, show a ≠ H.size + 2 by omega, show a ≠ H.size + 3 by omega, show H.size ≠ H.size + 2 by omega, show H.size ≠ H.size + 3 by omega, show H.size + 1 ≠ H.size + 2 by omega, show H.size + 1 ≠ H.size + 3 by omega⟩, by decide, by decide⟩
  have hf0 : fpM E (H.size + 4, H.size + 5, eK E 100, 0) [] [] = [H.size + 4, H.size + 5] := by unfold fpM fpSA fpA fpDs; rw [if_neg (Nat.not_le.mpr hL.1)]; rfl
  have hn0 : (fpM E (H.size + 4, H.size + 5, eK E 100, 0) [] []).Nodup := by rw [hf0]; simp
  exact hx_retv cx.x cx.b cx.r cx.k hlo (fun _ h => h) (Nat.le_of_ble_eq_true rfl) (Nat.le_of_ble_eq_true rfl) d_Tp_init_17 (⟨⟨hD, rfl, ⟨s4, fun d hd => absurd hd List.not_mem_nil, hn0, Nat.le_of_ble_eq_true rfl⟩, by unfold fpT; rw [List.nodup_append]; exact ⟨fpD_nd hD, hn0, fun x hx y hy e => by rw [hf0] at hy; simp only [fpD, List.mem_cons, List.not_mem_nil, or_false] at hx hy; omega⟩⟩, ⟨by omega, fun q hq hn => by rw [k2.2 q (by omega) hn, s2.2 q (by omega) (by omega), k1.2 q (by omega) id, d4.2 q hq hn]⟩, by omega⟩)

set_option maxHeartbeats 4000000 in
set_option maxRecDepth 100000 in
theorem c_Tp_addMember (l : Launch) {E : hE} (hE : EnvOk E) (hL : EnvL E) {H : Heap} {ad : DA} {x0 : DV} {sa : SA} {us sp : List EL} (ht : DcO E H ad.1 (some sa.1) ad.2.1 ad.2.2.2.1 x0.2.2.1 x0.2.2.2) (hm : MSh E H sa us sp) (hta : ∀ q ∈ fpM E sa us sp, q ≠ ad.1) (hO : Old E H) {bd : DA} {bw : Option Nat} {dw : DV} {p1 p2 : Bool} (g : Dc E H bd bw dw p1 p2) (hap : ∀ q, dcS bd q → q ∉ fpM E sa us sp) (h8 : us.length < 8) : Ct l E y_Tp_addMember b_Tp_addMember 4 none (rmA 8 6 65) [.ref ad.1, .ref bd.1] H (hQv (fun H1 => ∃ (sa2 : SA) (d2 : EL) (sp2 : List EL), MSh E H1 sa2 (insE us d2) sp2 ∧ d2.2 = (none, dw) ∧ sa2.1 = sa.1 ∧ (∀ q ∈ fpM E sa2 (insE us d2) sp2, q ∈ fpM E sa us sp ∨ H.size ≤ q) ∧ hCh (fun q => q ∈ fpM E sa us sp) H H1 ∧ H1.size ≤ H.size + 6)) := by
  refine hx_enter hE (by decide) (Nat.le_of_ble_eq_true rfl) ?_
  intro p e s m args below meth c ls cx hnm hl
  have hl : lv_has ls 4 [(0, .ref ad.1), (1, .ref bd.1)] := hl
  have hlo : hLo (eB E) [] := hLo.nil
  have hsf := hm.1
  have hlen := hm.2.2.2
  have hnd := hm.2.2.1
  have hltM := hm.lt hL
  have hsaS : ∀ q, sfS E sa q → q ∈ fpM E sa us sp := fun q hq => List.mem_append_left _ (fpSA_sf.mpr hq)
  rcases sp with _ | ⟨d0, sp1⟩
  · refine lv_aload_n cx.x cx.b d_Tp_addMember_0 rfl (lv_at hl 0 rfl) ?_
    refine gf_Tp_14_Tp cx ht rfl d_Tp_addMember_1 ?_
    refine hx_callr (iv_Tp_20_Sf cx (c_Sf_takeSpare0 l hE hsf) hsf.1 rfl hl.1 rfl (Nat.le_of_ble_eq_true rfl) d_Tp_addMember_4 ⟨Nat.le_of_ble_eq_true rfl, Nat.le_of_ble_eq_true rfl⟩ ⟨Nat.le_of_ble_eq_true rfl, Nat.le_of_ble_eq_true rfl⟩) hlo (fun _ h => h) (fun r62 H61 locs hp60 hlo => ?_)
    obtain ⟨hp60, hH9⟩ := hp60
    have hH9 := hH9.symm
    subst hH9
    subst hp60
    show W p l e _ s m args below meth c H locs _ _ _ (F0 m 7 ls [.null])
    refine lv_astore_nN (lv' := [(2, .null), (0, .ref ad.1), (1, .ref bd.1)]) cx.x cx.b d_Tp_addMember_7 rfl hl (by decide) rfl (fun ls hl => ?_)
    refine lv_aload_nN cx.x cx.b d_Tp_addMember_8 rfl (lv_at hl 0 rfl) ?_
    refine lv_ifnonnullN cx.x cx.b d_Tp_addMember_9 ?_
    refine nw_Tp_4 cx (Nat.le_of_ble_eq_true rfl) (Nat.le_of_ble_eq_true rfl) d_Tp_addMember_12 (fun H63 hn64 z_H63 o_H63 => ?_)
    refine lv_dup cx.x cx.b d_Tp_addMember_15 rfl ?_
    have k1 : hCh (fun _ => False) H H63 := hCh.new z_H63 o_H63
    refine hx_callv (iv_Tp_3 cx (c_Dc_init_D l hE (H := H63) (a := H.size) hn64 hO.1 (by have := hO.1; omega)) rfl hl.1 rfl (Nat.le_of_ble_eq_true rfl) d_Tp_addMember_16 ⟨Nat.le_of_ble_eq_true rfl, Nat.le_of_ble_eq_true rfl⟩ ⟨Nat.le_of_ble_eq_true rfl, Nat.le_of_ble_eq_true rfl⟩) hlo (fun _ h => h) (fun H66 locs hp65 hlo => ?_)
    obtain ⟨i1, i2, i3, i4, i5⟩ := hp65
    have e1 : H63.size = H.size + 1 := z_H63
    rw [e1] at i1 i2 i3 i5
    have hDn : Dc E H66 (H.size, H.size + 1, H.size + 1 + 1, H.size + 1 + 2, H.size + 1 + 3) none ([], [], 0, 0) false false := ⟨i1, i2, i3, hO.1, ⟨show H.size ≠ H.size + 1 by omega, show H.size ≠ H.size + 1 + 1 by omega, show H.size ≠ H.size + 1 + 2 by omega, show H.size ≠ H.size + 1 + 3 by omega, show H.size + 1 ≠ H.size + 1 + 2 by omega, show H.size + 1 ≠ H.size + 1 + 3 by omega, show H.size + 1 + 1 ≠ H.size + 1 + 2 by omega, show H.size + 1 + 1 ≠ H.size + 1 + 3 by omega⟩, by decide, by decide⟩
    have hge : ∀ q, dcS (H.size, H.size + 1, H.size + 1 + 1, H.size + 1 + 2, H.size + 1 + 3) q → H.size ≤ q := fun q hq => by rcases hq with e | (e | e) | (e | e) <;> (rw [e]; simp only []; omega)
    have k2 : hCh (fun q => H.size ≤ q) H H66 := (k1.mono (fun _ _ h => h.elim)).tr (i4.mono (fun q _ h => Nat.le_of_eq h.symm))
    have g2 := g.ch k2 (fun q hq h => absurd (g.lt q hq) (by omega))
    refine lv_goto (tgt := 23) cx.x cx.b d_Tp_addMember_19 (by decide) ?_
    refine lv_astore_n (lv' := [(3, .ref H.size), (2, .null), (0, .ref ad.1), (1, .ref bd.1)]) cx.x cx.b d_Tp_addMember_23 rfl hl (by decide) rfl (fun ls hl => ?_)
    refine lv_aload_n cx.x cx.b d_Tp_addMember_24 rfl (lv_at hl 0 rfl) ?_
    refine lv_aload_n cx.x cx.b d_Tp_addMember_25 rfl (lv_at hl 3 rfl) ?_
    refine hx_callv (ivd_Tp_24 cx (c_Dc_copy l hE (ad := (H.size, H.size + 1, H.size + 1 + 1, H.size + 1 + 2, H.size + 1 + 3)) hDn g2 (fun q hq h => absurd (g.lt q hq) (by have := hge q h; omega))) hDn.1 rfl hl.1 rfl (Nat.le_of_ble_eq_true rfl) d_Tp_addMember_26 ⟨Nat.le_of_ble_eq_true rfl, Nat.le_of_ble_eq_true rfl⟩ ⟨Nat.le_of_ble_eq_true rfl, Nat.le_of_ble_eq_true rfl⟩) hlo (fun _ h => h) (fun H68 locs hp67 hlo => ?_)
    obtain ⟨c1, c2, c3⟩ := hp67
    have k3 : hCh (fun q => H.size ≤ q) H H68 := k2.tr (c2.mono (fun q _ h => hge q h))
    have hO3 : Old E H68 := hO.ch k3 (fun q h => Nat.le_trans hO.1 h)
    have hm3 := hm.ch k3 (fun q hq h => absurd (hltM q hq) (by omega))
    have ht3 := ht.ch k3 (show ¬ H.size ≤ ad.1 by have := ht.lt; omega)
    have hltD := c1.lt
    have hnd9 : (fpSA E sa ++ fpDs (((H.size, H.size + 1, H.size + 1 + 1, H.size + 1 + 2, H.size + 1 + 3), none, dw) :: (us ++ []))).Nodup := by
      have hd9 := fpD_nd c1
      have hp9 : (fpD (H.size, H.size + 1, H.size + 1 + 1, H.size + 1 + 2, H.size + 1 + 3) ++ (fpSA E sa ++ fpDs (us ++ []))).Perm (fpSA E sa ++ fpDs (((H.size, H.size + 1, H.size + 1 + 1, H.size + 1 + 2, H.size + 1 + 3), none, dw) :: (us ++ []))) := by rw [fpDs_cons, ← List.append_assoc, ← List.append_assoc]; exact (List.perm_append_comm (l₁ := fpD (H.size, H.size + 1, H.size + 1 + 1, H.size + 1 + 2, H.size + 1 + 3)) (l₂ := fpSA E sa)).append_right _
      refine hp9.nodup_iff.mp ?_
      rw [List.nodup_append]
      exact ⟨hd9, hnd, fun x hx y hy e => by have := hge x (fpD_dc.mp hx); have := hltM y hy; omega⟩
    refine lv_aload_n cx.x cx.b d_Tp_addMember_29 rfl (lv_at hl 2 rfl) ?_
    refine gf_Tp_14_Tp cx ht3 rfl d_Tp_addMember_30 ?_
    refine lv_aload_n cx.x cx.b d_Tp_addMember_33 rfl (lv_at hl 0 rfl) ?_
    refine hx_callv (iv_Tp_28_Sf cx (c_Sf_put l hE hL hm3.1 hm3.sfd hO3 (x := ((H.size, H.size + 1, H.size + 1 + 1, H.size + 1 + 2, H.size + 1 + 3), none, dw)) c1 (fun h => by have := hltM _ (hsaS _ h); have : H.size < H.size := this; omega) (by show us.length + 0 < 14; omega)) hm3.1.1 rfl hl.1 rfl (Nat.le_of_ble_eq_true rfl) d_Tp_addMember_34 ⟨Nat.le_of_ble_eq_true rfl, Nat.le_of_ble_eq_true rfl⟩ ⟨Nat.le_of_ble_eq_true rfl, Nat.le_of_ble_eq_true rfl⟩) hlo (fun _ h => h) (fun H70 locs hp69 hlo => ?_)
    obtain ⟨arr2, cap2, s1, s2, s3⟩ := hp69
    obtain ⟨m1, m2⟩ := addM_tail hL (sp := []) hm3.1 hm3.2.1 c1 rfl hnd9 s1 s2 s3 (by show us.length + 0 < 8; omega)
    exact hx_retv cx.x cx.b cx.r cx.k hlo (fun _ h => h) (Nat.le_of_ble_eq_true rfl) (Nat.le_of_ble_eq_true rfl) d_Tp_addMember_37 (⟨_, ((H.size, H.size + 1, H.size + 1 + 1, H.size + 1 + 2, H.size + 1 + 3), none, dw), [], m1, rfl, rfl, fun q hq => by rcases m2 q hq with e | e; rcases List.mem_append.mp e with e | e; exact Or.inl (List.mem_append_left _ e); rw [fpDs_cons] at e; rcases List.mem_append.mp e with e | e; exact Or.inr (hge q (fpD_dc.mp e)); exact Or.inl (List.mem_append_right _ e); exact Or.inr (by omega), ⟨by omega, fun q hq hn => by rw [s3.2 q (by omega) (fun h => hn (hsaS q h)), k3.2 q hq (by omega)]⟩, by omega⟩)
  · have hd0 := hm.2.1 d0 (List.mem_append_right _ List.mem_cons_self)
    refine lv_aload_n cx.x cx.b d_Tp_addMember_0 rfl (lv_at hl 0 rfl) ?_
    refine gf_Tp_14_Tp cx ht rfl d_Tp_addMember_1 ?_
    refine hx_callr (iv_Tp_20_Sf cx (c_Sf_takeSpare1 l hE (y := adr d0) (sp := sp1.map adr) hsf hm.sfd) hsf.1 rfl hl.1 rfl (Nat.le_of_ble_eq_true rfl) d_Tp_addMember_4 ⟨Nat.le_of_ble_eq_true rfl, Nat.le_of_ble_eq_true rfl⟩ ⟨Nat.le_of_ble_eq_true rfl, Nat.le_of_ble_eq_true rfl⟩) hlo (fun _ h => h) (fun r73 H72 locs hp71 hlo => ?_)
    obtain ⟨q0, q1, q2, q3⟩ := hp71
    subst q0
    show W p l e _ s m args below meth c H72 locs _ _ _ (F0 m 7 ls [.ref (adr d0)])
    have hmem0 : ∀ q, dcS d0.1 q → q ∈ fpM E sa us (d0 :: sp1) := fun q hq => List.mem_append_right _ (fpDs_mem.mpr ⟨d0, List.mem_append_right _ List.mem_cons_self, hq⟩)
    have hnd2 := hnd
    unfold fpM at hnd2
    rw [List.nodup_append] at hnd2
    have hdis : ∀ x ∈ us ++ d0 :: sp1, ∀ q, dcS x.1 q → ¬ sfS E sa q := fun x hx q hq hs => hnd2.2.2 q (fpSA_sf.mpr hs) q (fpDs_mem.mpr ⟨x, hx, hq⟩) rfl
    have g1 := g.ch q2 (fun q hq h => hap q hq (hsaS q h))
    have hd1 := hd0.1.ch q2 (hdis d0 (List.mem_append_right _ List.mem_cons_self))
    have ht1 := ht.ch q2 (fun h => hta _ (hsaS _ h) rfl)
    refine lv_astore_n (lv' := [(2, .ref (adr d0)), (0, .ref ad.1), (1, .ref bd.1)]) cx.x cx.b d_Tp_addMember_7 rfl hl (by decide) rfl (fun ls hl => ?_)
    refine lv_aload_n cx.x cx.b d_Tp_addMember_8 rfl (lv_at hl 0 rfl) ?_
    refine lv_ifnonnull (tgt := 22) cx.x cx.b d_Tp_addMember_9 (by decide) ?_
    refine lv_aload_n cx.x cx.b d_Tp_addMember_22 rfl (lv_at hl 0 rfl) ?_
    refine lv_astore_n (lv' := [(3, .ref (adr d0)), (2, .ref (adr d0)), (0, .ref ad.1), (1, .ref bd.1)]) cx.x cx.b d_Tp_addMember_23 rfl hl (by decide) rfl (fun ls hl => ?_)
    refine lv_aload_n cx.x cx.b d_Tp_addMember_24 rfl (lv_at hl 0 rfl) ?_
    refine lv_aload_n cx.x cx.b d_Tp_addMember_25 rfl (lv_at hl 3 rfl) ?_
    refine hx_callv (ivd_Tp_24 cx (c_Dc_copy l hE hd1 g1 (fun q hq h => hap q hq (hmem0 q h))) hd1.1 rfl hl.1 rfl (Nat.le_of_ble_eq_true rfl) d_Tp_addMember_26 ⟨Nat.le_of_ble_eq_true rfl, Nat.le_of_ble_eq_true rfl⟩ ⟨Nat.le_of_ble_eq_true rfl, Nat.le_of_ble_eq_true rfl⟩) hlo (fun _ h => h) (fun H75 locs hp74 hlo => ?_)
    obtain ⟨c1, c2, c3⟩ := hp74
    have k2 : hCh (fun q => q ∈ fpM E sa us (d0 :: sp1)) H H75 := (q2.mono (fun q _ h => hsaS q h)).tr (c2.mono (fun q _ h => hmem0 q h))
    have hO2 : Old E H75 := hO.ch k2 (fun q h => hm.lo q h)
    have hp9 : (us ++ d0 :: sp1).Perm (d0 :: (us ++ sp1)) := List.perm_middle
    have hnd9 : (fpSA E sa ++ fpDs ((d0.1, none, dw) :: (us ++ sp1))).Nodup := (List.Perm.append_left (fpSA E sa) (fpDs_perm hp9)).nodup_iff.mp hnd
    have hnd8 := hnd9
    rw [List.nodup_append, fpDs_cons, List.nodup_append] at hnd8
    have s2 := q1.ch c2 (fun q hq h => hdis d0 (List.mem_append_right _ List.mem_cons_self) q h hq)
    have hds : ∀ x ∈ us ++ sp1, Dc E H75 x.1 none x.2.2 false false ∧ x.2.1 = none := fun x hx => by
      have hx2 : x ∈ us ++ d0 :: sp1 := hp9.mem_iff.mpr (List.mem_cons_of_mem _ hx)
      have hx3 := hm.2.1 x hx2
      exact ⟨(hx3.1.ch q2 (hdis x hx2)).ch c2 (fun q hq h => hnd8.2.1.2.2 q (fpD_dc.mpr h) q (fpDs_mem.mpr ⟨x, hx, hq⟩) rfl), hx3.2⟩
    have hsd : SfD E H75 sa us (sp1.map adr) := ⟨fun x hx => by have := hds x (List.mem_append_left _ hx); rw [this.2]; exact this.1, fun y hy => by obtain ⟨x, hx, rfl⟩ := List.mem_map.mp hy; exact (hds x (List.mem_append_right _ hx)).1.isDe, fun y hy hs => by rw [← List.map_append] at hy; obtain ⟨x, hx, rfl⟩ := List.mem_map.mp hy; exact hdis x (hp9.mem_iff.mpr (List.mem_cons_of_mem _ hx)) _ (Or.inl rfl) hs⟩
    have ht2 := ht1.ch c2 (fun h => hta _ (hmem0 _ h) rfl)
    have hlen2 : us.length + sp1.length < 8 := by rw [List.length_cons] at hlen; omega
    refine lv_aload_n cx.x cx.b d_Tp_addMember_29 rfl (lv_at hl 2 rfl) ?_
    refine gf_Tp_14_Tp cx ht2 rfl d_Tp_addMember_30 ?_
    refine lv_aload_n cx.x cx.b d_Tp_addMember_33 rfl (lv_at hl 0 rfl) ?_
    refine hx_callv (iv_Tp_28_Sf cx (c_Sf_put l hE hL s2 hsd hO2 (x := (d0.1, none, dw)) c1 (fun h => hdis d0 (List.mem_append_right _ List.mem_cons_self) _ (Or.inl rfl) h) (by rw [List.length_map]; omega)) s2.1 rfl hl.1 rfl (Nat.le_of_ble_eq_true rfl) d_Tp_addMember_34 ⟨Nat.le_of_ble_eq_true rfl, Nat.le_of_ble_eq_true rfl⟩ ⟨Nat.le_of_ble_eq_true rfl, Nat.le_of_ble_eq_true rfl⟩) hlo (fun _ h => h) (fun H77 locs hp76 hlo => ?_)
    obtain ⟨arr2, cap2, r1, r2, r3⟩ := hp76
    obtain ⟨m1, m2⟩ := addM_tail hL (sp := sp1) s2 hds c1 rfl hnd9 r1 r2 r3 hlen2
    exact hx_retv cx.x cx.b cx.r cx.k hlo (fun _ h => h) (Nat.le_of_ble_eq_true rfl) (Nat.le_of_ble_eq_true rfl) d_Tp_addMember_37 (⟨_, (d0.1, none, dw), sp1, m1, rfl, rfl, fun q hq => by rcases m2 q hq with e | e; exact Or.inl ((List.Perm.append_left (fpSA E sa) (fpDs_perm hp9)).mem_iff.mpr e); exact Or.inr (by omega), k2.tr (r3.mono (fun q _ h => hsaS q h)), by omega⟩)
