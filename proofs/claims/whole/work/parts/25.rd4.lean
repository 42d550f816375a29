/-! READING A LINE -/
theorem dS_mem {a n1 n2 n3 q : Nat} : q ∈ [a, n1, n2, n3] ↔ dS a n1 n2 n3 q := by unfold dS; simp
/-- the groups of cells of a reading -/
def grR (E : hE) (rd ln tr tarr : Nat) (dr : DA) (dg n1 n2 n3 bl : Nat) (sa : SA) (us sp : List TV) : List (List Nat) := [[rd], [ln], [tr, tarr], fpD dr, [dg, n1, n2, n3], fpB E bl sa us sp]
theorem gdj {L : List (List Nat)} (h : L.flatten.Nodup) (i j : Nat) {A B : List Nat} (hi : L[i]? = some A) (hj : L[j]? = some B) (hij : i ≠ j) {q : Nat} (ha : q ∈ A) (hb : q ∈ B) : False := by
  have h2 := (List.pairwise_flatten.mp h).2
  obtain ⟨li, ei⟩ := List.getElem?_eq_some_iff.mp hi
  obtain ⟨lj, ej⟩ := List.getElem?_eq_some_iff.mp hj
  rw [List.pairwise_iff_getElem] at h2
  rcases Nat.lt_or_gt_of_ne hij with c | c
  · exact h2 i j li lj c q (by rw [ei]; exact ha) q (by rw [ej]; exact hb) rfl
  · exact h2 j i lj li c q (by rw [ej]; exact hb) q (by rw [ei]; exact ha) rfl
theorem grR_N0 {E : hE} {rd ln tr tarr : Nat} {dr : DA} {dg n1 n2 n3 bl : Nat} {sa : SA} {us sp : List TV} (h : (grR E rd ln tr tarr dr dg n1 n2 n3 bl sa us sp).flatten.Nodup) : (rd :: ln :: tr :: tarr :: fpD dr).Nodup := by
  have h2 : ((rd :: ln :: tr :: tarr :: fpD dr) ++ ([dg, n1, n2, n3] ++ (fpB E bl sa us sp ++ []))).Nodup := h
  exact (List.nodup_append.mp h2).1
theorem Bs.nd {E : hE} {H : Heap} {bl fm : Nat} {sa : SA} {us sp : List TV} (h : Bs E H bl fm sa us sp) : (fpB E bl sa us sp).Nodup := List.nodup_cons.mpr ⟨h.2.2.2.2, h.2.2.2.1.2.2.1⟩
theorem grR_repl {E : hE} {rd ln tr tarr : Nat} {dr : DA} {dg n1 n2 n3 bl N : Nat} {sa : SA} {us sp : List TV} {sa2 : SA} {us2 sp2 : List TV} (h : (grR E rd ln tr tarr dr dg n1 n2 n3 bl sa us sp).flatten.Nodup) (h2 : (fpB E bl sa2 us2 sp2).Nodup) (hs : ∀ q ∈ fpB E bl sa2 us2 sp2, q ∈ fpB E bl sa us sp ∨ N ≤ q) (hl : ∀ q ∈ (grR E rd ln tr tarr dr dg n1 n2 n3 bl sa us sp).flatten, q < N) : (grR E rd ln tr tarr dr dg n1 n2 n3 bl sa2 us2 sp2).flatten.Nodup :=
  nodup_repl (A := (rd :: ln :: tr :: tarr :: fpD dr) ++ [dg, n1, n2, n3]) (X := fpB E bl sa us sp) (Y := fpB E bl sa2 us2 sp2) (B := []) (N := N) h h2 hs hl
theorem Dr.lt {E : hE} {H : Heap} {ad : DA} {kI : Int32} {mk : Nat} {xs ys : List Nat} {o1 o2 : Bool} (h : Dr E H ad kI mk xs ys o1 o2) : ∀ q ∈ fpD ad, q < H.size := fun q hq => by
  rcases fpD_dc.mp hq with e | e | e
  · rw [e]; exact h.1.lt
  · exact h.2.1.lt q e
  · exact h.2.2.1.lt q e
theorem Dr.lo {E : hE} {H : Heap} {ad : DA} {kI : Int32} {mk : Nat} {xs ys : List Nat} {o1 o2 : Bool} (h : Dr E H ad kI mk xs ys o1 o2) : ∀ q, dcS ad q → eB E ≤ q := fun q hq => by
  rcases hq with e | e | e
  · rw [e]; exact h.2.2.2.1
  · exact rS.lo h.2.1 q e
  · exact rS.lo h.2.2.1 q e
theorem Dg.lt {E : hE} {H : Heap} {a n1 n2 n3 : Nat} {ds : List (Nat × Nat × Nat)} (h : Dg E H a n1 n2 n3 ds) : ∀ q ∈ [a, n1, n2, n3], q < H.size := fun q hq => by
  obtain ⟨h1, ⟨f1, f2, f3, a1, a2, a3, -⟩, -⟩ := h
  rcases dS_mem.mp hq with e | e | e | e <;> rw [e]
  · exact h1.lt
  · exact a1.lt
  · exact a2.lt
  · exact a3.lt
theorem grR_lt {E : hE} (hL : EnvL E) {H : Heap} {rd ln tr tarr : Nat} {dr : DA} {dg n1 n2 n3 bl : Nat} {sa : SA} {us sp : List TV} {num : Nat} {past brk : Bool} {ow : Option Nat} {fm st en ws we : Nat} {txt : List Nat} {ot : Bool} {kI : Int32} {mk : Nat} {nx dx : List Nat} {o1 o2 : Bool} {ds : List (Nat × Nat × Nat)} (hR : RdO E H rd ln bl dg dr.1 num past brk ow) (hln : Ln E H ln tr st en ws we) (hr : Rw E H tr tarr 480 txt ot) (hd : Dr E H dr kI mk nx dx o1 o2) (hb : Bs E H bl fm sa us sp) (hg : Dg E H dg n1 n2 n3 ds) : ∀ q ∈ (grR E rd ln tr tarr dr dg n1 n2 n3 bl sa us sp).flatten, q < H.size := fun q hq => by
  obtain ⟨g, hg1, hg2⟩ := List.mem_flatten.mp hq
  unfold grR at hg1
  simp only [List.mem_cons, List.not_mem_nil, or_false] at hg1
  rcases hg1 with e | e | e | e | e | e <;> rw [e] at hg2
  · rw [List.mem_singleton.mp hg2]; exact hR.1.lt
  · rw [List.mem_singleton.mp hg2]; exact hln.1.lt
  · simp only [List.mem_cons, List.not_mem_nil, or_false] at hg2
    exact hr.lt q hg2
  · exact hd.lt q hg2
  · exact hg.lt q hg2
  · exact hb.lt hL q hg2
abbrev RSt : Type := Nat × Bool × Bool × List TU × List (Nat × Nat × Nat)
/-- what a line's words come to: the fault (0: none), where it is -/
def rdK (mem : Bool) (U : List TU) (V : Nat × Nat × Nat × DV) (ws : Nat) : Nat × Nat := if V.1 = 0 then ((if mem then tkM U V.2.2.2 else tkT U V.2.2.2), ws) else (V.1, V.2.1)
def rdC (mem : Bool) (num i ws : Nat) (V : Nat × Nat × Nat × DV) (s : RSt) : RSt :=
  if (rdK mem s.2.2.2.1 V ws).1 = 0 then (s.1, s.2.1, (if mem then s.2.2.1 else false), (if mem then adM s.2.2.2.1 V.2.2.2 else s.2.2.2.1 ++ [(V.2.2.2, [])]), s.2.2.2.2)
  else (s.1, s.2.1, (if mem then s.2.2.1 else true), s.2.2.2.1, s.2.2.2.2 ++ [((rdK mem s.2.2.2.1 V ws).1, num, (rdK mem s.2.2.2.1 V ws).2 - i + 1)])
def rdB (txt : List Nat) (num i en ws we : Nat) (s : RSt) : RSt := if (decide (i < ws) && s.2.2.1) = true then s else rdC (decide (i < ws)) num i ws (rdW (decide (i < ws)) s.1 txt en ws we) s
def rdL2 (txt : List Nat) (num i en ws we : Nat) (s : RSt) (f : Option Nat) : RSt := match f with
  | some f => (f, true, s.2.2)
  | none => rdB txt num i en ws we (s.1, true, s.2.2.1, s.2.2.2.1, s.2.2.2.2 ++ [(1, num, ws - i + 1)])
def rdL1 (txt : List Nat) (num i en ws we : Nat) (s : RSt) : RSt := if we ≤ ws ∨ txt.getD ws 0 = 33 then s else if s.2.1 = true then rdB txt num i en ws we s else rdL2 txt num i en ws we s (rdF txt en ws we).1
/-- a line from i to j, the num-th -/
def rdLn (txt : List Nat) (num i j : Nat) (s : RSt) : RSt := rdL1 txt num i (trimE txt i j) (wdS (txt.take (trimE txt i j)) i) (wdE (txt.take (trimE txt i j)) (wdS (txt.take (trimE txt i j)) i)) s
theorem rdW3_le {txt : List Nat} {en we : Nat} {x : DV} (hen : en ≤ txt.length) (h : we ≤ en) : we ≤ (rdW3 txt en we x).2.1 ∧ (rdW3 txt en we x).2.1 ≤ (rdW3 txt en we x).2.2.1 ∧ (rdW3 txt en we x).2.2.1 ≤ en := by
  have hl := len_take hen
  have a1 := wdS_le (L := txt.take en) (i := we) (by omega)
  have a2 := wdE_le (L := txt.take en) (i := wdS (txt.take en) we) (by omega)
  unfold rdW3
  exact ⟨a1.1, a2.1, by show wdE _ _ ≤ en; omega⟩
theorem rdW_le {mem : Bool} {fm : Nat} {txt : List Nat} {en ws we : Nat} (hen : en ≤ txt.length) (h1 : ws ≤ we) (h2 : we ≤ en) : ws ≤ (rdW mem fm txt en ws we).2.1 ∧ (rdW mem fm txt en ws we).2.1 ≤ (rdW mem fm txt en ws we).2.2.1 ∧ (rdW mem fm txt en ws we).2.2.1 ≤ en := by
  have hl := len_take hen
  have hrk := rmk_le (mem := mem) hen (nMarks mem + 1) 0 ws we (by omega) h1 h2
  unfold rdW rdW0
  generalize rmk mem txt en (nMarks mem + 1) 0 ws we = M at hrk
  by_cases c1 : M.1 = true
  · rw [if_pos c1]
    cases hk : kdH mem (wdO txt M.2.2.1 M.2.2.2) with
    | none => exact ⟨hrk.2.2.2, hrk.2.1, hrk.2.2.1⟩
    | some k =>
      have a1 := wdS_le (L := txt.take en) (i := M.2.2.2) (by omega)
      have a2 := wdE_le (L := txt.take en) (i := wdS (txt.take en) M.2.2.2) (by omega)
      show ws ≤ (rdW1 mem fm txt en M.2.1 k M.2.2.2).2.1 ∧ (rdW1 mem fm txt en M.2.1 k M.2.2.2).2.1 ≤ (rdW1 mem fm txt en M.2.1 k M.2.2.2).2.2.1 ∧ (rdW1 mem fm txt en M.2.1 k M.2.2.2).2.2.1 ≤ en
      unfold rdW1
      generalize wdS (txt.take en) M.2.2.2 = s1 at a1 a2
      generalize wdE (txt.take en) s1 = e1 at a2
      by_cases c2 : okN mem k (cnR fm txt s1 e1) = true
      · rw [if_pos c2]
        unfold rdW2
        by_cases c3 : mem = true
        · rw [if_pos c3]
          have b1 := wdS_le (L := txt.take en) (i := e1) (by omega)
          have b2 := wdE_le (L := txt.take en) (i := wdS (txt.take en) e1) (by omega)
          generalize wdS (txt.take en) e1 = s2 at b1 b2
          generalize wdE (txt.take en) s2 = e2 at b2
          by_cases c4 : okD k (cnR fm txt s2 e2) = true
          · rw [if_pos c4]
            have := rdW3_le (x := ((cnR fm txt s1 e1).1, (cnR fm txt s2 e2).1, k, M.2.1)) hen (we := e2) (by omega)
            exact ⟨by omega, this.2⟩
          · rw [if_neg c4]; exact ⟨by show ws ≤ s2; omega, b2.1, by show e2 ≤ en; omega⟩
        · rw [if_neg c3]
          have := rdW3_le (x := ((cnR fm txt s1 e1).1, [], k, M.2.1)) hen (we := e1) (by omega)
          exact ⟨by omega, this.2⟩
      · rw [if_neg c2]; exact ⟨by show ws ≤ s1; omega, a2.1, by show e1 ≤ en; omega⟩
  · rw [if_neg c1]; exact ⟨hrk.2.2.2, hrk.2.1, hrk.2.2.1⟩
set_option maxHeartbeats 4000000 in
set_option maxRecDepth 100000 in
theorem c_Ln_init (l : Launch) {E : hE} (hE : EnvOk E) {H : Heap} {a tr : Nat} (h : hOb (eD E) classes H a 7 [.null, .int 0, .int 0, .int 0, .int 0]) (hB : eB E ≤ a) : Ct l E y_Ln_init b_Ln_init 2 none (rmA 1 0 0) [.ref a, .ref tr] H (hQv (fun H1 => Ln E H1 a tr 0 0 0 0 ∧ hCh (fun q => q = a) H H1 ∧ H1.size = H.size)) := by
  refine hx_enter hE (by decide) (Nat.le_of_ble_eq_true rfl) ?_
  intro p e s m args below meth c ls cx hnm hl
  have hl : lv_has ls 2 [(0, .ref a), (1, .ref tr)] := hl
  have hlo : hLo (eB E) [] := hLo.nil
  refine lv_aload_n cx.x cx.b d_Ln_init_0 rfl (lv_at hl 0 rfl) ?_
  refine W.objInit cx.x cx.b cx.o (cx.ts _ tw_241) (cx.ts _ tw_31) (cx.ts _ tw_32) rfl (hl.1.trans cx.ml.symm) rfl d_Ln_init_1 (Nat.le_of_ble_eq_true rfl) (Nat.le_of_ble_eq_true rfl) ?_
  refine W.eq (g2 := F0 m 4 ls []) rfl ?_
  refine lv_aload_n cx.x cx.b d_Ln_init_4 rfl (lv_at hl 0 rfl) ?_
  refine lv_aload_n cx.x cx.b d_Ln_init_5 rfl (lv_at hl 1 rfl) ?_
  refine pf_Ln_9_Ln (x := (some tr)) cx hnm h hlo hB (Nat.le_of_ble_eq_true rfl) d_Ln_init_6 (fun H116 locs ho117 z_H116 o_H116 hlo => ?_)
  have ho117 : hOb (eD E) classes H116 a 7 [.ref tr, .int 0, .int 0, .int 0, .int 0] := ho117
  exact hx_retv cx.x cx.b cx.r cx.k hlo (fun _ h => h) (Nat.le_of_ble_eq_true rfl) (Nat.le_of_ble_eq_true rfl) d_Ln_init_9 (⟨⟨ho117, hB⟩, hCh.put z_H116 o_H116 rfl, z_H116⟩)

set_option maxHeartbeats 4000000 in
set_option maxRecDepth 100000 in
theorem c_Rd_init (l : Launch) {E : hE} (hE : EnvOk E) {H : Heap} {a tr bl dg : Nat} (h : hOb (eD E) classes H a 8 [.null, .null, .null, .null, .int 0, .int 0, .int 0, .null]) (hB : eB E ≤ a) (hO : Old E H) : Ct l E y_Rd_init b_Rd_init 4 none (rmA 3 6 55) [.ref a, .ref tr, .ref bl, .ref dg] H (hQv (fun H1 => RdO E H1 a (H.size + 5) bl dg H.size 0 false false none ∧ Ln E H1 (H.size + 5) tr 0 0 0 0 ∧ Dr E H1 (H.size, H.size + 1, H.size + 2, H.size + 3, H.size + 4) 0 0 [] [] false false ∧ hCh (fun q => q = a) H H1 ∧ H1.size = H.size + 6)) := by
  refine hx_enter hE (by decide) (Nat.le_of_ble_eq_true rfl) ?_
  intro p e s m args below meth c ls cx hnm hl
  have hl : lv_has ls 4 [(0, .ref a), (1, .ref tr), (2, .ref bl), (3, .ref dg)] := hl
  have hlo : hLo (eB E) [] := hLo.nil
  have hlt := h.lt
  have hsz := hO.1
  refine lv_aload_n cx.x cx.b d_Rd_init_0 rfl (lv_at hl 0 rfl) ?_
  refine W.objInit cx.x cx.b cx.o (cx.ts _ tw_199) (cx.ts _ tw_31) (cx.ts _ tw_32) rfl (hl.1.trans cx.ml.symm) rfl d_Rd_init_1 (Nat.le_of_ble_eq_true rfl) (Nat.le_of_ble_eq_true rfl) ?_
  refine W.eq (g2 := F0 m 4 ls []) rfl ?_
  refine lv_aload_n cx.x cx.b d_Rd_init_4 rfl (lv_at hl 0 rfl) ?_
  refine nw_Rd_9 cx (Nat.le_of_ble_eq_true rfl) (Nat.le_of_ble_eq_true rfl) d_Rd_init_5 (fun H118 hn119 z_H118 o_H118 => ?_)
  refine lv_dup cx.x cx.b d_Rd_init_8 rfl ?_
  have k1 : hCh (fun _ => False) H H118 := hCh.new z_H118 o_H118
  have e1 : H118.size = H.size + 1 := z_H118
  refine hx_callv (iv_Rd_11 cx (c_Dc_init_D l hE (H := H118) (a := H.size) hn119 hsz (by omega)) rfl hl.1 rfl (Nat.le_of_ble_eq_true rfl) d_Rd_init_9 ⟨Nat.le_of_ble_eq_true rfl, Nat.le_of_ble_eq_true rfl⟩ ⟨Nat.le_of_ble_eq_true rfl, Nat.le_of_ble_eq_true rfl⟩) hlo (fun _ h => h) (fun H121 locs hp120 hlo => ?_)
  obtain ⟨i1, i2, i3, i4, i5⟩ := hp120
  rw [e1] at i1 i2 i3 i5
  have r2 := (h.ch k1 id).ch i4 (show a ≠ H.size by omega)
  refine pf_Rd_12_Rd (x := (some H.size)) cx hnm r2 hlo hB (Nat.le_of_ble_eq_true rfl) d_Rd_init_12 (fun H122 locs ho123 z_H122 o_H122 hlo => ?_)
  have ho123 : hOb (eD E) classes H122 a 8 [.null, .null, .null, .ref H.size, .int 0, .int 0, .int 0, .null] := ho123
  have k3 : hCh (fun q => q = a) H121 H122 := hCh.put z_H122 o_H122 rfl
  have e3 : H122.size = H.size + 5 := by omega
  refine lv_aload_n cx.x cx.b d_Rd_init_15 rfl (lv_at hl 0 rfl) ?_
  refine nw_Rd_18 cx (Nat.le_of_ble_eq_true rfl) (Nat.le_of_ble_eq_true rfl) d_Rd_init_16 (fun H124 hn125 z_H124 o_H124 => ?_)
  refine lv_dup cx.x cx.b d_Rd_init_19 rfl ?_
  refine lv_aload_n cx.x cx.b d_Rd_init_20 rfl (lv_at hl 1 rfl) ?_
  have k4 : hCh (fun q => q = a) H122 H124 := hCh.new z_H124 o_H124
  rw [e3] at hn125
  rw [e3]
  refine hx_callv (iv_Rd_20 cx (c_Ln_init l hE (H := H124) (a := H.size + 5) (tr := tr) hn125 (by omega)) rfl hl.1 rfl (Nat.le_of_ble_eq_true rfl) d_Rd_init_21 ⟨Nat.le_of_ble_eq_true rfl, Nat.le_of_ble_eq_true rfl⟩ ⟨Nat.le_of_ble_eq_true rfl, Nat.le_of_ble_eq_true rfl⟩) hlo (fun _ h => h) (fun H127 locs hp126 hlo => ?_)
  obtain ⟨l1, l2, l3⟩ := hp126
  have r5 := (ho123.ch (hCh.new (S := fun _ => False) z_H124 o_H124) id).ch l2 (show a ≠ H.size + 5 by omega)
  refine pf_Rd_23_Rd (x := (some (H.size + 5))) cx hnm r5 hlo hB (Nat.le_of_ble_eq_true rfl) d_Rd_init_24 (fun H128 locs ho129 z_H128 o_H128 hlo => ?_)
  have ho129 : hOb (eD E) classes H128 a 8 [.ref (H.size + 5), .null, .null, .ref H.size, .int 0, .int 0, .int 0, .null] := ho129
  refine lv_aload_n cx.x cx.b d_Rd_init_27 rfl (lv_at hl 0 rfl) ?_
  refine lv_aload_n cx.x cx.b d_Rd_init_28 rfl (lv_at hl 2 rfl) ?_
  refine pf_Rd_27_Rd (x := (some bl)) cx hnm ho129 hlo hB (Nat.le_of_ble_eq_true rfl) d_Rd_init_29 (fun H130 locs ho131 z_H130 o_H130 hlo => ?_)
  have ho131 : hOb (eD E) classes H130 a 8 [.ref (H.size + 5), .ref bl, .null, .ref H.size, .int 0, .int 0, .int 0, .null] := ho131
  refine lv_aload_n cx.x cx.b d_Rd_init_32 rfl (lv_at hl 0 rfl) ?_
  refine lv_aload_n cx.x cx.b d_Rd_init_33 rfl (lv_at hl 3 rfl) ?_
  refine pf_Rd_31_Rd (x := (some dg)) cx hnm ho131 hlo hB (Nat.le_of_ble_eq_true rfl) d_Rd_init_34 (fun H132 locs ho133 z_H132 o_H132 hlo => ?_)
  have ho133 : hOb (eD E) classes H132 a 8 [.ref (H.size + 5), .ref bl, .ref dg, .ref H.size, .int 0, .int 0, .int 0, .null] := ho133
  have k8 : hCh (fun q => q = a) H127 H132 := hCh.tr (S := fun q => q = a) (hCh.tr (S := fun q => q = a) (hCh.put z_H128 o_H128 rfl) (hCh.put z_H130 o_H130 rfl)) (hCh.put z_H132 o_H132 rfl)
  have kl : hCh (fun q => q = a ∨ H.size + 5 ≤ q) H121 H132 := ((k3.mono (fun q _ z => Or.inl z)).tr (k4.mono (fun q _ z => Or.inl z))).tr ((l2.mono (fun q _ z => Or.inr (Nat.le_of_eq z.symm))).tr (k8.mono (fun q _ z => Or.inl z)))
  have i6 := i1.ch kl (show ¬ (H.size = a ∨ H.size + 5 ≤ H.size) by omega)
  have i7 := i2.ch kl (show ¬ (H.size + 1 = a ∨ H.size + 5 ≤ H.size + 1) by omega) (show ¬ (H.size + 1 + 1 = a ∨ H.size + 5 ≤ H.size + 1 + 1) by omega)
  have i8 := i3.ch kl (show ¬ (H.size + 1 + 2 = a ∨ H.size + 5 ≤ H.size + 1 + 2) by omega) (show ¬ (H.size + 1 + 3 = a ∨ H.size + 5 ≤ H.size + 1 + 3) by omega)
  exact hx_retv cx.x cx.b cx.r cx.k hlo (fun _ h => h) (Nat.le_of_ble_eq_true rfl) (Nat.le_of_ble_eq_true rfl) d_Rd_init_37 (⟨⟨ho133, hB⟩, l1.ch k8 (show H.size + 5 ≠ a by omega), ⟨i6, i7, i8, hsz, by omega⟩, ⟨by omega, fun q hq hn => by rw [kl.2 q (by omega) (by omega), i4.2 q (by omega) (by omega), k1.2 q hq id]⟩, by omega⟩)

set_option maxHeartbeats 4000000 in
set_option maxRecDepth 100000 in
theorem c_Rd_readFirstA (l : Launch) {E : hE} (hE : EnvOk E) {H : Heap} {rd ln bl dg num dr : Nat} {brk : Bool} {ow : Option Nat} (hR : RdO E H rd ln bl dg dr num true brk ow) : Ct l E y_Rd_readFirst b_Rd_readFirst 1 (some .boolean) (rmA 6 0 0) [.ref rd] H (hQi (fun r H1 => r = 0 ∧ H1 = H)) := by
  refine hx_enter hE (by decide) (Nat.le_of_ble_eq_true rfl) ?_
  intro p e s m args below meth c ls cx hnm hl
  have hl : lv_has ls 1 [(0, .ref rd)] := hl
  have hlo : hLo (eB E) [] := hLo.nil
  generalize hQ : MQ below _ args s _ _ _ = Q
  refine lv_aload_n cx.x cx.b d_Rd_readFirst_0 rfl (lv_at hl 0 rfl) ?_
  refine gf_Rd_77_Rd cx hR.1 rfl d_Rd_readFirst_1 ?_
  refine lv_if_eq (tgt := 9) cx.x cx.b d_Rd_readFirst_4 (by decide) (fun c => absurd c (by decide)) (fun _ => ?_)
  refine lv_iconst (v := 0) cx.x cx.b d_Rd_readFirst_7 (by decide) ?_
  rw [← hQ]
  exact hx_reti cx.x cx.b cx.r cx.k rfl hlo (fun _ h => h) (Nat.le_of_ble_eq_true rfl) (Nat.le_of_ble_eq_true rfl) d_Rd_readFirst_8 (⟨rfl, rfl⟩)

set_option maxHeartbeats 4000000 in
set_option maxRecDepth 100000 in
theorem c_Rd_readFirstB (l : Launch) {E : hE} (hE : EnvOk E) (hS : EnvS E) {H : Heap} {rd ln bl dg n1 n2 n3 num tr tarr st en ws we : Nat} {dr : DA} {brk : Bool} {ow : Option Nat} {txt : List Nat} {ot : Bool} (hR : RdO E H rd ln bl dg dr.1 num false brk ow) (hln : Ln E H ln tr st en ws we) (hr : Rw E H tr tarr 480 txt ot) {kI : Int32} {mk0 : Nat} {nx dx : List Nat} {o1 o2 : Bool} (hd : Dr E H dr kI mk0 nx dx o1 o2) {fm : Nat} {sa : SA} {us sp : List TV} (hb : Bs E H bl fm sa us sp) {ds : List (Nat × Nat × Nat)} (hg : Dg E H dg n1 n2 n3 ds) (hN : (grR E rd ln tr tarr dr dg n1 n2 n3 bl sa us sp).flatten.Nodup) (h0 : st ≤ ws) (h1 : ws ≤ we) (h2 : we ≤ en) (h3 : en ≤ txt.length) (hO : Old E H) (hdl : ds.length < 900) : Ct l E y_Rd_readFirst b_Rd_readFirst 1 (some .boolean) (rmA 6 0 0) [.ref rd] H (hQi (fun r H1 => r = bI (rdF txt en ws we).1.isSome ∧ RdO E H1 rd ln bl dg dr.1 num true brk ow ∧ (∃ a b, Ln E H1 ln tr st en a b ∧ ((rdF txt en ws we).1 = none → a = wdS (txt.take en) st ∧ b = wdE (txt.take en) (wdS (txt.take en) st))) ∧ hOb (eD E) classes H1 bl 5 [.ref sa.1, .int (nI ((rdF txt en ws we).1.getD fm))] ∧ Dg E H1 dg n1 n2 n3 (if (rdF txt en ws we).1 = none then ds ++ [(1, num, wdS (txt.take en) st - st + 1)] else ds) ∧ hCh (fun q => q = rd ∨ q = ln ∨ q = bl ∨ dS dg n1 n2 n3 q) H H1 ∧ H1.size = H.size)) := by
  refine hx_enter hE (by decide) (Nat.le_of_ble_eq_true rfl) ?_
  intro p e s m args below meth c ls cx hnm hl
  have hl : lv_has ls 1 [(0, .ref rd)] := hl
  have hlo : hLo (eB E) [] := hLo.nil
  generalize hQ : MQ below _ args s _ _ _ = Q
  have hN0 := grR_N0 hN
  have hlen := len_take h3
  have hle := hr.le
  refine lv_aload_n cx.x cx.b d_Rd_readFirst_0 rfl (lv_at hl 0 rfl) ?_
  refine gf_Rd_77_Rd cx hR.1 rfl d_Rd_readFirst_1 ?_
  refine lv_if_eq (tgt := 9) cx.x cx.b d_Rd_readFirst_4 (by decide) (fun _ => ?_) (fun c => absurd (by decide) c)
  refine lv_aload_n cx.x cx.b d_Rd_readFirst_9 rfl (lv_at hl 0 rfl) ?_
  refine lv_iconst (v := 1) cx.x cx.b d_Rd_readFirst_10 (by decide) ?_
  refine pf_Rd_77_Rd cx hR.1 hlo hR.2 (bI_z true) (Nat.le_of_ble_eq_true rfl) d_Rd_readFirst_11 (fun H134 locs ho135 z_H134 o_H134 hlo => ?_)
  have ho135 : hOb (eD E) classes H134 rd 8 [.ref ln, .ref bl, .ref dg, .ref dr.1, .int (nI num), .int (bI true), .int (bI brk), va_rf ow] := ho135
  have kr : hCh (fun q => q = rd) H H134 := hCh.put z_H134 o_H134 rfl
  have hR2 : RdO E H134 rd ln bl dg dr.1 num true brk ow := ⟨ho135, hR.2⟩
  have hln2 := hln.ch kr (fun z => by exact gdj hN 1 0 rfl rfl (by decide) (List.mem_singleton.mpr rfl) (List.mem_singleton.mpr z))
  have hr2 := hr.ch kr (fun z => by exact gdj hN 2 0 rfl rfl (by decide) List.mem_cons_self (List.mem_singleton.mpr z)) (fun z => by exact gdj hN 2 0 rfl rfl (by decide) (List.mem_cons_of_mem _ List.mem_cons_self) (List.mem_singleton.mpr z))
  have hb2 := hb.ch kr (fun q hq z => by exact gdj hN 5 0 rfl rfl (by decide) hq (List.mem_singleton.mpr z))
  have hg2 := hg.ch kr (fun q hq z => by exact gdj hN 4 0 rfl rfl (by decide) (dS_mem.mpr hq) (List.mem_singleton.mpr z))
  have hO2 := hO.ch kr (fun q z => by rw [z]; exact hR.2)
  have hbN : bl ∉ rd :: ln :: tr :: tarr :: fpD dr := fun z => by rcases List.mem_cons.mp z with z | z; exact gdj hN 0 5 rfl rfl (by decide) (List.mem_singleton.mpr z) List.mem_cons_self; rcases List.mem_cons.mp z with z | z; exact gdj hN 1 5 rfl rfl (by decide) (List.mem_singleton.mpr z) List.mem_cons_self; rcases List.mem_cons.mp z with z | z; exact gdj hN 2 5 rfl rfl (by decide) (by rw [z]; exact List.mem_cons_self) List.mem_cons_self; rcases List.mem_cons.mp z with z | z; exact gdj hN 2 5 rfl rfl (by decide) (by rw [z]; exact List.mem_cons_of_mem _ List.mem_cons_self) List.mem_cons_self; exact gdj hN 3 5 rfl rfl (by decide) z List.mem_cons_self
  refine lv_aload_n cx.x cx.b d_Rd_readFirst_14 rfl (lv_at hl 0 rfl) ?_
  refine hx_calli (iv_Rd_80_Rd cx (c_Rd_readFormat l hE hS hR2 hln2 hr2 hN0 h1 h2 h3 hb2.1 hb2.2.1 hbN hb2.2.2.1 hO2) hR2.1 rfl hl.1 rfl (Nat.le_of_ble_eq_true rfl) d_Rd_readFirst_15 ⟨Nat.le_of_ble_eq_true rfl, Nat.le_of_ble_eq_true rfl⟩ ⟨Nat.le_of_ble_eq_true rfl, Nat.le_of_ble_eq_true rfl⟩) hlo (fun _ h => h) (fun r138 H137 locs hp136 hlo => ?_)
  obtain ⟨q1, q2, q3, q4, q5⟩ := hp136
  have q4 : hCh (fun q => q = ln ∨ q = bl) H134 H137 := q4
  have hR3 := hR2.ch q4 (fun z => by rcases z with z | z; exact gdj hN 0 1 rfl rfl (by decide) (List.mem_singleton.mpr rfl) (List.mem_singleton.mpr z); exact gdj hN 0 5 rfl rfl (by decide) (List.mem_singleton.mpr rfl) (by rw [z]; exact List.mem_cons_self))
  have hr3 := hr2.ch q4 (fun z => by rcases z with z | z; exact gdj hN 2 1 rfl rfl (by decide) List.mem_cons_self (List.mem_singleton.mpr z); exact gdj hN 2 5 rfl rfl (by decide) List.mem_cons_self (by rw [z]; exact List.mem_cons_self)) (fun z => by rcases z with z | z; exact gdj hN 2 1 rfl rfl (by decide) (List.mem_cons_of_mem _ List.mem_cons_self) (List.mem_singleton.mpr z); exact gdj hN 2 5 rfl rfl (by decide) (List.mem_cons_of_mem _ List.mem_cons_self) (by rw [z]; exact List.mem_cons_self))
  have hg3 := hg2.ch q4 (fun q hq z => by rcases z with z | z; exact gdj hN 4 1 rfl rfl (by decide) (dS_mem.mpr hq) (List.mem_singleton.mpr z); exact gdj hN 4 5 rfl rfl (by decide) (dS_mem.mpr hq) (by rw [z]; exact List.mem_cons_self))
  have k3 : hCh (fun q => q = rd ∨ q = ln ∨ q = bl ∨ dS dg n1 n2 n3 q) H H137 := (kr.mono (fun q _ z => Or.inl z)).tr (q4.mono (fun q _ z => by rcases z with z | z; exact Or.inr (Or.inl z); exact Or.inr (Or.inr (Or.inl z))))
  generalize hF : rdF txt en ws we = F at q1 q2 q3 hQ
  obtain ⟨f, sx, ex⟩ := F
  simp only at q1 q2 q3 hQ
  subst q1
  cases f
  · show W p l e _ s m args below meth c H137 locs _ _ _ (F0 m 18 ls [.int (bI false)])
    refine lv_if_eq (tgt := 23) cx.x cx.b d_Rd_readFirst_18 (by decide) (fun _ => ?_) (fun c => absurd (by decide) c)
    refine lv_aload_n cx.x cx.b d_Rd_readFirst_23 rfl (lv_at hl 0 rfl) ?_
    refine gf_Rd_23_Rd cx hR3.1 rfl d_Rd_readFirst_24 ?_
    refine hx_callv (iv_Rd_62_Ln cx (c_Ln_toFirstWord l hE q2 hr3 (ndn hN0 2 1 rfl rfl (by decide)) (ndn hN0 3 1 rfl rfl (by decide)) (by omega) h3) q2.1 rfl hl.1 rfl (Nat.le_of_ble_eq_true rfl) d_Rd_readFirst_27 ⟨Nat.le_of_ble_eq_true rfl, Nat.le_of_ble_eq_true rfl⟩ ⟨Nat.le_of_ble_eq_true rfl, Nat.le_of_ble_eq_true rfl⟩) hlo (fun _ h => h) (fun H140 locs hp139 hlo => ?_)
    obtain ⟨l4, k4, z4⟩ := hp139
    have hR4 := hR3.ch k4 (fun z => by exact gdj hN 0 1 rfl rfl (by decide) (List.mem_singleton.mpr rfl) (List.mem_singleton.mpr z))
    have hg4 := hg3.ch k4 (fun q hq z => by exact gdj hN 4 1 rfl rfl (by decide) (dS_mem.mpr hq) (List.mem_singleton.mpr z))
    have hb4 := q3.ch k4 (fun z => gdj hN 1 5 rfl rfl (by decide) (List.mem_singleton.mpr z) List.mem_cons_self)
    have a1 := wdS_le (L := txt.take en) (i := st) (by omega)
    generalize hs4 : wdS (txt.take en) st = s4 at l4 a1 hQ
    generalize he4 : wdE (txt.take en) s4 = e4 at l4 hQ
    refine lv_aload_n cx.x cx.b d_Rd_readFirst_30 rfl (lv_at hl 0 rfl) ?_
    refine gf_Rd_31_Rd cx hR4.1 rfl d_Rd_readFirst_31 ?_
    refine lv_iconst (v := 1) cx.x cx.b d_Rd_readFirst_34 (by decide) ?_
    refine lv_aload_n cx.x cx.b d_Rd_readFirst_35 rfl (lv_at hl 0 rfl) ?_
    refine gf_Rd_35_Rd cx hR4.1 rfl d_Rd_readFirst_36 ?_
    refine lv_aload_n cx.x cx.b d_Rd_readFirst_39 rfl (lv_at hl 0 rfl) ?_
    refine gf_Rd_23_Rd cx hR4.1 rfl d_Rd_readFirst_40 ?_
    refine hx_calli (iv_Rd_50_Ln cx (c_Ln_place l hE l4 a1.1 (by omega)) l4.1 rfl hl.1 rfl (Nat.le_of_ble_eq_true rfl) d_Rd_readFirst_43 ⟨Nat.le_of_ble_eq_true rfl, Nat.le_of_ble_eq_true rfl⟩ ⟨Nat.le_of_ble_eq_true rfl, Nat.le_of_ble_eq_true rfl⟩) hlo (fun _ h => h) (fun r143 H142 locs hp141 hlo => ?_)
    obtain ⟨hp141, hH9⟩ := hp141
    have hH9 := hH9.symm
    subst hH9
    subst hp141
    refine hx_callv (iv_Rd_71_Dg cx (c_Dg_add l hE hg4 (by omega) 1 num (s4 - st + 1)) hg4.1 rfl hl.1 rfl (Nat.le_of_ble_eq_true rfl) d_Rd_readFirst_46 ⟨Nat.le_of_ble_eq_true rfl, Nat.le_of_ble_eq_true rfl⟩ ⟨Nat.le_of_ble_eq_true rfl, Nat.le_of_ble_eq_true rfl⟩) hlo (fun _ h => h) (fun H145 locs hp144 hlo => ?_)
    obtain ⟨g5, k5, z5⟩ := hp144
    refine lv_iconst (v := 0) cx.x cx.b d_Rd_readFirst_49 (by decide) ?_
    rw [← hQ]
    exact hx_reti cx.x cx.b cx.r cx.k rfl hlo (fun _ h => h) (Nat.le_of_ble_eq_true rfl) (Nat.le_of_ble_eq_true rfl) d_Rd_readFirst_50 (⟨rfl, hR4.ch k5 (fun z => by exact gdj hN 0 4 rfl rfl (by decide) (List.mem_singleton.mpr rfl) (dS_mem.mpr z)), ⟨_, _, l4.ch k5 (fun z => by exact gdj hN 1 4 rfl rfl (by decide) (List.mem_singleton.mpr rfl) (dS_mem.mpr z)), fun _ => ⟨rfl, rfl⟩⟩, hb4.ch k5 (fun z => gdj hN 4 5 rfl rfl (by decide) (dS_mem.mpr z) List.mem_cons_self), by rw [if_pos rfl]; exact g5, (k3.tr (k4.mono (fun q _ z => Or.inr (Or.inl z)))).tr (k5.mono (fun q _ z => Or.inr (Or.inr (Or.inr z)))), by omega⟩)
  · rename_i f
    show W p l e _ s m args below meth c H137 locs _ _ _ (F0 m 18 ls [.int (bI true)])
    refine lv_if_eq (tgt := 23) cx.x cx.b d_Rd_readFirst_18 (by decide) (fun c => absurd c (by decide)) (fun _ => ?_)
    refine lv_iconst (v := 1) cx.x cx.b d_Rd_readFirst_21 (by decide) ?_
    rw [← hQ]
    exact hx_reti cx.x cx.b cx.r cx.k rfl hlo (fun _ h => h) (Nat.le_of_ble_eq_true rfl) (Nat.le_of_ble_eq_true rfl) d_Rd_readFirst_22 (⟨rfl, hR3, ⟨_, _, q2, fun z => by cases z⟩, q3, by rw [if_neg (fun z => by cases z)]; exact hg3, k3, by omega⟩)
