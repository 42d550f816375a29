theorem fpTs_app (E : hE) (xs ys : List TV) : fpTs E (xs ++ ys) = fpTs E xs ++ fpTs E ys := List.flatMap_append
theorem fpH_split (E : hE) (sa : SA) (A B sp : List TV) (x : EL) (sb : SA) (ms ns : List EL) : fpH E sa (A ++ (x, sb, ms, ns) :: B) sp = (fpSA E sa ++ (fpTs E A ++ fpD x.1)) ++ (fpM E sb ms ns ++ fpTs E (B ++ sp)) := by
  unfold fpH
  rw [List.append_assoc, List.cons_append, fpTs_app, fpTs_cons]
  unfold fpT
  simp only [List.append_assoc]
theorem Bs.updM {E : hE} (hL : EnvL E) {H H1 : Heap} {bl fm : Nat} {sa : SA} {A B sp : List TV} {t : TV} {sa2 : SA} {ms2 sp2 : List EL} (h : Bs E H bl fm sa (A ++ t :: B) sp) (hm : MSh E H1 sa2 ms2 sp2) (e : sa2.1 = t.2.1.1) (hsub : ∀ q ∈ fpM E sa2 ms2 sp2, q ∈ fpM E t.2.1 t.2.2.1 t.2.2.2 ∨ H.size ≤ q) (k : hCh (fun q => q ∈ fpM E t.2.1 t.2.2.1 t.2.2.2) H H1) : Bs E H1 bl fm sa (A ++ (t.1, sa2, ms2, sp2) :: B) sp ∧ ∀ q ∈ fpB E bl sa (A ++ (t.1, sa2, ms2, sp2) :: B) sp, q ∈ fpB E bl sa (A ++ t :: B) sp ∨ H.size ≤ q := by
  obtain ⟨x, sb, ms, ns⟩ := t
  have hlt := h.lt hL
  obtain ⟨h1, h2, h3, ⟨h4, h5, h6, h7⟩, h8⟩ := h
  simp only at e hsub k
  have hnd := h6
  rw [fpH_split] at hnd
  have hnd2 := hnd
  rw [List.nodup_append] at hnd2
  have hpre : ∀ q ∈ fpSA E sa ++ (fpTs E A ++ fpD x.1), q ∉ fpM E sb ms ns := fun q hq z => hnd2.2.2 q hq q (List.mem_append_left _ z) rfl
  have hpost : ∀ q ∈ fpTs E (B ++ sp), q ∉ fpM E sb ms ns := fun q hq z => by
    have := hnd2.2.1
    rw [List.nodup_append] at this
    exact this.2.2 q z q hq rfl
  have htx := h5 (x, sb, ms, ns) (List.mem_append_left _ (List.mem_append_right _ List.mem_cons_self))
  have hnew : (fpH E sa (A ++ (x, sa2, ms2, sp2) :: B) sp).Nodup := by
    rw [fpH_split]
    refine nodup_repl (N := H.size) hnd hm.2.2.1 hsub (fun q hq => ?_)
    rw [← fpH_split] at hq
    exact hlt q (List.mem_cons_of_mem _ hq)
  have hsubH : ∀ q ∈ fpH E sa (A ++ (x, sa2, ms2, sp2) :: B) sp, q ∈ fpH E sa (A ++ (x, sb, ms, ns) :: B) sp ∨ H.size ≤ q := fun q hq => by
    rw [fpH_split] at hq ⊢
    rcases List.mem_append.mp hq with z | z
    · exact Or.inl (List.mem_append_left _ z)
    · rcases List.mem_append.mp z with z | z
      · rcases hsub q z with y | y
        · exact Or.inl (List.mem_append_right _ (List.mem_append_left _ y))
        · exact Or.inr y
      · exact Or.inl (List.mem_append_right _ (List.mem_append_right _ z))
  have hblM : bl ∉ fpM E sb ms ns := fun z => h8 (by rw [fpH_split]; exact List.mem_append_right _ (List.mem_append_left _ z))
  refine ⟨⟨h1.ch k hblM, h2, h3, ⟨?_, ?_, hnew, ?_⟩, ?_⟩, fun q hq => ?_⟩
  · have := h4.ch k (fun q hq => hpre q (List.mem_append_left _ (fpSA_sf.mpr hq)))
    rw [List.map_append, List.map_cons] at this ⊢
    exact this
  · intro y hy
    rcases List.mem_append.mp hy with z | z
    · rcases List.mem_append.mp z with z | z
      · exact (h5 y (List.mem_append_left _ (List.mem_append_left _ z))).ch k (fun q hq => hpre q (List.mem_append_right _ (List.mem_append_left _ (fpTs_mem.mpr ⟨y, z, hq⟩))))
      · rcases List.mem_cons.mp z with z | z
        · rw [z]
          refine ⟨htx.1.ch k (fun q hq => hpre q (List.mem_append_right _ (List.mem_append_right _ (fpD_dc.mpr hq)))), by rw [e]; exact htx.2.1, hm, ?_⟩
          rw [fpH_split, List.nodup_append] at hnew
          show (fpD x.1 ++ fpM E sa2 ms2 sp2).Nodup
          rw [List.nodup_append]
          have q2 := htx.2.2.2
          unfold fpT at q2
          rw [List.nodup_append] at q2
          exact ⟨q2.1, hm.2.2.1, fun a ha b hb => hnew.2.2 a (List.mem_append_right _ (List.mem_append_right _ ha)) b (List.mem_append_left _ hb)⟩
        · exact (h5 y (List.mem_append_left _ (List.mem_append_right _ (List.mem_cons_of_mem _ z)))).ch k (fun q hq => hpost q (fpTs_mem.mpr ⟨y, List.mem_append_left _ z, hq⟩))
    · exact (h5 y (List.mem_append_right _ z)).ch k (fun q hq => hpost q (fpTs_mem.mpr ⟨y, List.mem_append_right _ z, hq⟩))
  · rw [List.length_append, List.length_cons] at h7 ⊢; exact h7
  · intro z
    rcases hsubH bl z with y | y
    · exact h8 y
    · have := h1.lt; omega
  · rcases List.mem_cons.mp hq with z | z
    · rw [z]; exact Or.inl List.mem_cons_self
    · rcases hsubH q z with y | y
      · exact Or.inl (List.mem_cons_of_mem _ y)
      · exact Or.inr y
set_option maxHeartbeats 4000000 in
set_option maxRecDepth 100000 in
theorem c_Rd_takeTypeA (l : Launch) {E : hE} (hE : EnvOk E) (hL : EnvL E) {H : Heap} {rd ln bl dg num : Nat} {dr : DA} {past brk : Bool} {ow : Option Nat} (hR : RdO E H rd ln bl dg dr.1 num past brk ow) {fm : Nat} {sa : SA} {us sp : List TV} (hb : Bs E H bl fm sa us sp) {dw : DV} (hd : Dc E H dr none dw false false) (hrd : rd ∉ fpB E bl sa us sp) (hap : ∀ q, dcS dr q → q ∉ fpB E bl sa us sp) {U : List TU} (rel : RelT us U) (hk : tkT U dw ≠ 0) : Ct l E y_Rd_takeType b_Rd_takeType 1 (some .int) (rmA 9 0 0) [.ref rd] H (hQi (fun r H1 => r = nI (tkT U dw) ∧ H1 = H)) := by
  refine hx_enter hE (by decide) (Nat.le_of_ble_eq_true rfl) ?_
  intro p e s m args below meth c ls cx hnm hl
  have hl : lv_has ls 1 [(0, .ref rd)] := hl
  have hlo : hLo (eB E) [] := hLo.nil
  generalize hQ : MQ below _ args s _ _ _ = Q
  have hT := hb.2.2.2.1
  have hlen := rel.len
  have hl12 := hT.2.2.2
  unfold tkT at hQ hk
  refine lv_aload_n cx.x cx.b d_Rd_takeType_0 rfl (lv_at hl 0 rfl) ?_
  refine gf_Rd_27_Rd cx hR.1 rfl d_Rd_takeType_1 ?_
  refine lv_aload_n cx.x cx.b d_Rd_takeType_4 rfl (lv_at hl 0 rfl) ?_
  refine gf_Rd_12_Rd cx hR.1 rfl d_Rd_takeType_5 ?_
  refine gf_Rd_114_Dc cx hd.1 rfl d_Rd_takeType_8 ?_
  refine hx_callr (iv_Rd_162_Bl cx (c_Bl_named l hE hb hd.2.1) hb.1 rfl hl.1 rfl (Nat.le_of_ble_eq_true rfl) d_Rd_takeType_11 ⟨Nat.le_of_ble_eq_true rfl, Nat.le_of_ble_eq_true rfl⟩ ⟨Nat.le_of_ble_eq_true rfl, Nat.le_of_ble_eq_true rfl⟩) hlo (fun _ h => h) (fun r140 H139 locs hp138 hlo => ?_)
  obtain ⟨hp138, hH9⟩ := hp138
  have hH9 := hH9.symm
  subst hH9
  by_cases c1 : ∃ u ∈ U, cmpL u.1.1 dw.1 = 0
  · rw [if_pos c1] at hQ
    cases hn9 : nmd dw.1 us with
    | none => exact absurd (rel.name.mpr c1) (nmd_none.mp hn9)
    | some t9 =>
      rw [hn9] at hp138
      subst hp138
      refine lv_ifnull cx.x cx.b d_Rd_takeType_14 ?_
      refine lv_bipush (v := 7) cx.x cx.b d_Rd_takeType_17 (by decide) ?_
      rw [← hQ]
      exact hx_reti cx.x cx.b cx.r cx.k rfl hlo (fun _ h => h) (Nat.le_of_ble_eq_true rfl) (Nat.le_of_ble_eq_true rfl) d_Rd_takeType_19 (⟨rfl, rfl⟩)
  · rw [if_neg c1] at hQ hk
    have hn9 : nmd dw.1 us = none := nmd_none.mpr (fun z => c1 (rel.name.mp z))
    rw [hn9] at hp138
    subst hp138
    show W p l e _ s m args below meth c H locs _ _ _ (F0 m 14 ls [.null])
    refine lv_ifnullN (tgt := 20) cx.x cx.b d_Rd_takeType_14 (by decide) ?_
    refine lv_aload_n cx.x cx.b d_Rd_takeType_20 rfl (lv_at hl 0 rfl) ?_
    refine gf_Rd_27_Rd cx hR.1 rfl d_Rd_takeType_21 ?_
    refine gf_Rd_166_Bl cx hb.1 rfl d_Rd_takeType_24 ?_
    refine hx_calli (iv_Rd_170_Sf cx (c_Sf_isFull l hE hT.1) hT.1.1 rfl hl.1 rfl (Nat.le_of_ble_eq_true rfl) d_Rd_takeType_27 ⟨Nat.le_of_ble_eq_true rfl, Nat.le_of_ble_eq_true rfl⟩ ⟨Nat.le_of_ble_eq_true rfl, Nat.le_of_ble_eq_true rfl⟩) hlo (fun _ h => h) (fun r143 H142 locs hp141 hlo => ?_)
    obtain ⟨hp141, hH9⟩ := hp141
    have hH9 := hH9.symm
    subst hH9
    have c2 : 12 ≤ U.length := Decidable.byContradiction (fun z => hk (if_neg z))
    rw [if_pos c2] at hQ
    rw [show decide (12 ≤ (us.map (·.1)).length) = true from decide_eq_true (by rw [List.length_map]; omega)] at hp141
    subst hp141
    refine lv_if_eq (tgt := 36) cx.x cx.b d_Rd_takeType_30 (by decide) (fun c => absurd c (by decide)) (fun _ => ?_)
    refine lv_bipush (v := 8) cx.x cx.b d_Rd_takeType_33 (by decide) ?_
    rw [← hQ]
    exact hx_reti cx.x cx.b cx.r cx.k rfl hlo (fun _ h => h) (Nat.le_of_ble_eq_true rfl) (Nat.le_of_ble_eq_true rfl) d_Rd_takeType_35 (⟨rfl, rfl⟩)

set_option maxHeartbeats 4000000 in
set_option maxRecDepth 100000 in
theorem c_Rd_takeTypeB (l : Launch) {E : hE} (hE : EnvOk E) (hL : EnvL E) {H : Heap} {rd ln bl dg num : Nat} {dr : DA} {past brk : Bool} {ow : Option Nat} (hR : RdO E H rd ln bl dg dr.1 num past brk ow) {fm : Nat} {sa : SA} {us sp : List TV} (hb : Bs E H bl fm sa us sp) {dw : DV} (hd : Dc E H dr none dw false false) (hrd : rd ∉ fpB E bl sa us sp) (hap : ∀ q, dcS dr q → q ∉ fpB E bl sa us sp) {U : List TU} (rel : RelT us U) (hO : Old E H) (hk : tkT U dw = 0) : Ct l E y_Rd_takeType b_Rd_takeType 1 (some .int) (rmA 9 8 72) [.ref rd] H (hQi (fun r H1 => r = 0 ∧ ∃ (sa2 : SA) (us2 sp2 : List TV) (ow2 : Option Nat), RdO E H1 rd ln bl dg dr.1 num past brk ow2 ∧ Bs E H1 bl fm sa2 us2 sp2 ∧ RelT us2 (U ++ [(dw, [])]) ∧ OwR us2 (U ++ [(dw, [])]) ow2 ∧ (∀ q ∈ fpB E bl sa2 us2 sp2, q ∈ fpB E bl sa us sp ∨ H.size ≤ q) ∧ hCh (fun q => q = rd ∨ q ∈ fpB E bl sa us sp) H H1)) := by
  refine hx_enter hE (by decide) (Nat.le_of_ble_eq_true rfl) ?_
  intro p e s m args below meth c ls cx hnm hl
  have hl : lv_has ls 1 [(0, .ref rd)] := hl
  have hlo : hLo (eB E) [] := hLo.nil
  generalize hQ : MQ below _ args s _ _ _ = Q
  have hT := hb.2.2.2.1
  have hlen := rel.len
  have hl12 := hT.2.2.2
  unfold tkT at hk
  have c1 : ¬ ∃ u ∈ U, cmpL u.1.1 dw.1 = 0 := fun z => by rw [if_pos z] at hk; exact absurd hk (by decide)
  rw [if_neg c1] at hk
  have c2 : ¬ 12 ≤ U.length := fun z => by rw [if_pos z] at hk; exact absurd hk (by decide)
  refine lv_aload_n cx.x cx.b d_Rd_takeType_0 rfl (lv_at hl 0 rfl) ?_
  refine gf_Rd_27_Rd cx hR.1 rfl d_Rd_takeType_1 ?_
  refine lv_aload_n cx.x cx.b d_Rd_takeType_4 rfl (lv_at hl 0 rfl) ?_
  refine gf_Rd_12_Rd cx hR.1 rfl d_Rd_takeType_5 ?_
  refine gf_Rd_114_Dc cx hd.1 rfl d_Rd_takeType_8 ?_
  refine hx_callr (iv_Rd_162_Bl cx (c_Bl_named l hE hb hd.2.1) hb.1 rfl hl.1 rfl (Nat.le_of_ble_eq_true rfl) d_Rd_takeType_11 ⟨Nat.le_of_ble_eq_true rfl, Nat.le_of_ble_eq_true rfl⟩ ⟨Nat.le_of_ble_eq_true rfl, Nat.le_of_ble_eq_true rfl⟩) hlo (fun _ h => h) (fun r146 H145 locs hp144 hlo => ?_)
  obtain ⟨hp144, hH9⟩ := hp144
  have hH9 := hH9.symm
  subst hH9
  have hn9 : nmd dw.1 us = none := nmd_none.mpr (fun z => c1 (rel.name.mp z))
  rw [hn9] at hp144
  subst hp144
  show W p l e _ s m args below meth c H locs _ _ _ (F0 m 14 ls [.null])
  refine lv_ifnullN (tgt := 20) cx.x cx.b d_Rd_takeType_14 (by decide) ?_
  refine lv_aload_n cx.x cx.b d_Rd_takeType_20 rfl (lv_at hl 0 rfl) ?_
  refine gf_Rd_27_Rd cx hR.1 rfl d_Rd_takeType_21 ?_
  refine gf_Rd_166_Bl cx hb.1 rfl d_Rd_takeType_24 ?_
  refine hx_calli (iv_Rd_170_Sf cx (c_Sf_isFull l hE hT.1) hT.1.1 rfl hl.1 rfl (Nat.le_of_ble_eq_true rfl) d_Rd_takeType_27 ⟨Nat.le_of_ble_eq_true rfl, Nat.le_of_ble_eq_true rfl⟩ ⟨Nat.le_of_ble_eq_true rfl, Nat.le_of_ble_eq_true rfl⟩) hlo (fun _ h => h) (fun r149 H148 locs hp147 hlo => ?_)
  obtain ⟨hp147, hH9⟩ := hp147
  have hH9 := hH9.symm
  subst hH9
  rw [show decide (12 ≤ (us.map (·.1)).length) = false from decide_eq_false (by rw [List.length_map]; omega)] at hp147
  subst hp147
  refine lv_if_eq (tgt := 36) cx.x cx.b d_Rd_takeType_30 (by decide) (fun _ => ?_) (fun c => absurd (by decide) c)
  refine lv_aload_n cx.x cx.b d_Rd_takeType_36 rfl (lv_at hl 0 rfl) ?_
  refine lv_aload_n cx.x cx.b d_Rd_takeType_37 rfl (lv_at hl 0 rfl) ?_
  refine gf_Rd_27_Rd cx hR.1 rfl d_Rd_takeType_38 ?_
  refine lv_aload_n cx.x cx.b d_Rd_takeType_41 rfl (lv_at hl 0 rfl) ?_
  refine gf_Rd_12_Rd cx hR.1 rfl d_Rd_takeType_42 ?_
  refine hx_callr (iv_Rd_175_Bl cx (c_Bl_addType l hE hL hb.1 hT hb.2.2.2.2 hO hd (fun q hq z => hap q hq (List.mem_cons_of_mem _ z)) (by omega)) hb.1 rfl hl.1 rfl (Nat.le_of_ble_eq_true rfl) d_Rd_takeType_45 ⟨Nat.le_of_ble_eq_true rfl, Nat.le_of_ble_eq_true rfl⟩ ⟨Nat.le_of_ble_eq_true rfl, Nat.le_of_ble_eq_true rfl⟩) hlo (fun _ h => h) (fun r152 H151 locs hp150 hlo => ?_)
  obtain ⟨sa2, t2, sp2, e0, m1, m2, m3, m4, m5, m6, m7⟩ := hp150
  subst e0
  have hR2 := hR.ch m6 (fun z => hrd (List.mem_cons_of_mem _ z))
  show W p l e _ s m args below meth c H151 locs _ _ _ (F0 m 48 ls [.ref (tad t2), .ref rd])
  refine pf_Rd_179_Rd (x := (some (tad t2))) cx hR2.1 hlo hR2.2 (Nat.le_of_ble_eq_true rfl) d_Rd_takeType_48 (fun H153 locs ho154 z_H153 o_H153 hlo => ?_)
  have ho154 : hOb (eD E) classes H153 rd 8 [.ref ln, .ref bl, .ref dg, .ref dr.1, .int (nI num), .int (bI past), .int (bI brk), .ref (tad t2)] := ho154
  refine lv_iconst (v := 0) cx.x cx.b d_Rd_takeType_51 (by decide) ?_
  have kr : hCh (fun q => q = rd) H151 H153 := hCh.put z_H153 o_H153 rfl
  have hblt := hb.1.lt
  have hrlt := hR.1.lt
  have hrn : ∀ q ∈ fpH E sa2 (insT us t2) sp2, q ≠ rd := fun q hq z => by rcases m5 q hq with y | y; exact hrd (List.mem_cons_of_mem _ (z ▸ y)); omega
  rw [← hQ]
  exact hx_reti cx.x cx.b cx.r cx.k rfl hlo (fun _ h => h) (Nat.le_of_ble_eq_true rfl) (Nat.le_of_ble_eq_true rfl) d_Rd_takeType_52 (⟨rfl, sa2, insT us t2, sp2, some (tad t2), ⟨ho154, hR2.2⟩, ⟨by rw [m4]; exact (hb.1.ch m6 hb.2.2.2.2).ch kr (fun z => hrd (by rw [← z]; exact List.mem_cons_self)), hb.2.1, hb.2.2.1, m1.ch kr hrn, fun z => by rcases m5 bl z with y | y; exact hb.2.2.2.2 y; omega⟩, rel.addT m2 m3 c1, OwR.mk1 ((insT_perm us t2).mem_iff.mpr List.mem_cons_self) rfl (by unfold vwT; rw [m2, m3]; rfl), fun q hq => by rcases List.mem_cons.mp hq with z | z; rw [z]; exact Or.inl List.mem_cons_self; rcases m5 q z with y | y; exact Or.inl (List.mem_cons_of_mem _ y); exact Or.inr y, (m6.mono (fun q _ z => Or.inr (List.mem_cons_of_mem _ z))).tr (kr.mono (fun q _ z => Or.inl z))⟩)

set_option maxHeartbeats 4000000 in
set_option maxRecDepth 100000 in
theorem c_Rd_takeMemberA (l : Launch) {E : hE} (hE : EnvOk E) (hL : EnvL E) {H : Heap} {rd ln bl dg num : Nat} {dr : DA} {past brk : Bool} {ow : Option Nat} (hR : RdO E H rd ln bl dg dr.1 num past brk ow) {fm : Nat} {sa : SA} {us sp : List TV} (hb : Bs E H bl fm sa us sp) {dw : DV} (hd : Dc E H dr none dw false false) (hrd : rd ∉ fpB E bl sa us sp) (hap : ∀ q, dcS dr q → q ∉ fpB E bl sa us sp) {U : List TU} (rel : RelT us U) (own : OwR us U ow) (hk : tkM U dw ≠ 0) : Ct l E y_Rd_takeMember b_Rd_takeMember 1 (some .int) (rmA 9 0 0) [.ref rd] H (hQi (fun r H1 => r = nI (tkM U dw) ∧ H1 = H)) := by
  refine hx_enter hE (by decide) (Nat.le_of_ble_eq_true rfl) ?_
  intro p e s m args below meth c ls cx hnm hl
  have hl : lv_has ls 1 [(0, .ref rd)] := hl
  have hlo : hLo (eB E) [] := hLo.nil
  generalize hQ : MQ below _ args s _ _ _ = Q
  have hT := hb.2.2.2.1
  have hlen := rel.len
  have hl12 := hT.2.2.2
  rcases List.eq_nil_or_concat U with eU | ⟨V, u, eU⟩
  · subst eU
    have own : ow = none := own
    subst own
    have hro : hOb (eD E) classes H rd 8 [.ref ln, .ref bl, .ref dg, .ref dr.1, .int (nI num), .int (bI past), .int (bI brk), .null] := hR.1
    refine lv_aload_n cx.x cx.b d_Rd_takeMember_0 rfl (lv_at hl 0 rfl) ?_
    refine gf_Rd_179_Rd cx hro rfl d_Rd_takeMember_1 ?_
    refine lv_ifnonnullN cx.x cx.b d_Rd_takeMember_4 ?_
    refine lv_bipush (v := 9) cx.x cx.b d_Rd_takeMember_7 (by decide) ?_
    rw [← hQ]
    exact hx_reti cx.x cx.b cx.r cx.k rfl hlo (fun _ h => h) (Nat.le_of_ble_eq_true rfl) (Nat.le_of_ble_eq_true rfl) d_Rd_takeMember_9 (⟨rfl, rfl⟩)
  · rw [List.concat_eq_append] at eU
    subst eU
    obtain ⟨t, ht, e1, e2⟩ := own.last
    subst e1
    have hty := hT.2.1 t (List.mem_append_left _ ht)
    have ev2 : t.2.2.1.map (·.2.2) = srtM u.2 := congrArg Prod.snd e2
    have hpm : ∀ d, d ∈ t.2.2.1.map (·.2.2) ↔ d ∈ u.2 := fun d => by rw [ev2]; exact (srtM_perm u.2).mem_iff
    have hlm : t.2.2.1.length = u.2.length := by have := (srtM_perm u.2).length_eq; rw [← ev2, List.length_map] at this; exact this
    have hro : hOb (eD E) classes H rd 8 [.ref ln, .ref bl, .ref dg, .ref dr.1, .int (nI num), .int (bI past), .int (bI brk), .ref (t).1.1.1] := hR.1
    rw [tkM_snoc] at hk hQ
    refine lv_aload_n cx.x cx.b d_Rd_takeMember_0 rfl (lv_at hl 0 rfl) ?_
    refine gf_Rd_179_Rd cx hro rfl d_Rd_takeMember_1 ?_
    refine lv_ifnonnull (tgt := 10) cx.x cx.b d_Rd_takeMember_4 (by decide) ?_
    refine lv_aload_n cx.x cx.b d_Rd_takeMember_10 rfl (lv_at hl 0 rfl) ?_
    refine gf_Rd_179_Rd cx hro rfl d_Rd_takeMember_11 ?_
    refine gf_Rd_183_Tp cx hty.ob rfl d_Rd_takeMember_14 ?_
    refine lv_aload_n cx.x cx.b d_Rd_takeMember_17 rfl (lv_at hl 0 rfl) ?_
    refine gf_Rd_12_Rd cx hro rfl d_Rd_takeMember_18 ?_
    refine hx_callr (iv_Rd_188_Sf cx (c_Sf_alike l hE hty.2.2.1.1 (hty.2.2.1.sfd) hd) hty.2.2.1.1.1 rfl hl.1 rfl (Nat.le_of_ble_eq_true rfl) d_Rd_takeMember_21 ⟨Nat.le_of_ble_eq_true rfl, Nat.le_of_ble_eq_true rfl⟩ ⟨Nat.le_of_ble_eq_true rfl, Nat.le_of_ble_eq_true rfl⟩) hlo (fun _ h => h) (fun r157 H156 locs hp155 hlo => ?_)
    obtain ⟨hp155, hH9⟩ := hp155
    have hH9 := hH9.symm
    subst hH9
    by_cases c1 : ∃ d ∈ u.2, cmpD d dw = 0
    · rw [if_pos c1] at hQ
      cases hn9 : alk dw t.2.2.1 with
      | none => exact absurd (by obtain ⟨d, hd1, hd2⟩ := c1; exact ⟨d, (hpm d).mpr hd1, hd2⟩) (alk_none.mp hn9)
      | some t9 =>
        rw [hn9] at hp155
        subst hp155
        refine lv_ifnull cx.x cx.b d_Rd_takeMember_24 ?_
        refine lv_bipush (v := 7) cx.x cx.b d_Rd_takeMember_27 (by decide) ?_
        rw [← hQ]
        exact hx_reti cx.x cx.b cx.r cx.k rfl hlo (fun _ h => h) (Nat.le_of_ble_eq_true rfl) (Nat.le_of_ble_eq_true rfl) d_Rd_takeMember_29 (⟨rfl, rfl⟩)
    · rw [if_neg c1] at hQ hk
      have hn9 : alk dw t.2.2.1 = none := alk_none.mpr (fun z => c1 (by obtain ⟨d, hd1, hd2⟩ := z; exact ⟨d, (hpm d).mp hd1, hd2⟩))
      rw [hn9] at hp155
      subst hp155
      show W p l e _ s m args below meth c H locs _ _ _ (F0 m 24 ls [.null])
      refine lv_ifnullN (tgt := 30) cx.x cx.b d_Rd_takeMember_24 (by decide) ?_
      refine lv_aload_n cx.x cx.b d_Rd_takeMember_30 rfl (lv_at hl 0 rfl) ?_
      refine gf_Rd_179_Rd cx hro rfl d_Rd_takeMember_31 ?_
      refine gf_Rd_183_Tp cx hty.ob rfl d_Rd_takeMember_34 ?_
      refine hx_calli (iv_Rd_170_Sf cx (c_Sf_isFull l hE hty.2.2.1.1) hty.2.2.1.1.1 rfl hl.1 rfl (Nat.le_of_ble_eq_true rfl) d_Rd_takeMember_37 ⟨Nat.le_of_ble_eq_true rfl, Nat.le_of_ble_eq_true rfl⟩ ⟨Nat.le_of_ble_eq_true rfl, Nat.le_of_ble_eq_true rfl⟩) hlo (fun _ h => h) (fun r160 H159 locs hp158 hlo => ?_)
      obtain ⟨hp158, hH9⟩ := hp158
      have hH9 := hH9.symm
      subst hH9
      have c2 : 8 ≤ u.2.length := Decidable.byContradiction (fun z => hk (if_neg z))
      rw [if_pos c2] at hQ
      rw [show decide (8 ≤ t.2.2.1.length) = true from decide_eq_true (by omega)] at hp158
      subst hp158
      refine lv_if_eq (tgt := 46) cx.x cx.b d_Rd_takeMember_40 (by decide) (fun c => absurd c (by decide)) (fun _ => ?_)
      refine lv_bipush (v := 8) cx.x cx.b d_Rd_takeMember_43 (by decide) ?_
      rw [← hQ]
      exact hx_reti cx.x cx.b cx.r cx.k rfl hlo (fun _ h => h) (Nat.le_of_ble_eq_true rfl) (Nat.le_of_ble_eq_true rfl) d_Rd_takeMember_45 (⟨rfl, rfl⟩)

set_option maxHeartbeats 4000000 in
set_option maxRecDepth 100000 in
theorem c_Rd_takeMemberB (l : Launch) {E : hE} (hE : EnvOk E) (hL : EnvL E) {H : Heap} {rd ln bl dg num : Nat} {dr : DA} {past brk : Bool} {ow : Option Nat} (hR : RdO E H rd ln bl dg dr.1 num past brk ow) {fm : Nat} {sa : SA} {us sp : List TV} (hb : Bs E H bl fm sa us sp) {dw : DV} (hd : Dc E H dr none dw false false) (hrd : rd ∉ fpB E bl sa us sp) (hap : ∀ q, dcS dr q → q ∉ fpB E bl sa us sp) {U : List TU} (rel : RelT us U) (own : OwR us U ow) (hO : Old E H) (hk : tkM U dw = 0) : Ct l E y_Rd_takeMember b_Rd_takeMember 1 (some .int) (rmA 9 6 65) [.ref rd] H (hQi (fun r H1 => r = 0 ∧ ∃ (us2 : List TV), RdO E H1 rd ln bl dg dr.1 num past brk ow ∧ Bs E H1 bl fm sa us2 sp ∧ RelT us2 (adM U dw) ∧ OwR us2 (adM U dw) ow ∧ (∀ q ∈ fpB E bl sa us2 sp, q ∈ fpB E bl sa us sp ∨ H.size ≤ q) ∧ hCh (fun q => q ∈ fpB E bl sa us sp) H H1)) := by
  refine hx_enter hE (by decide) (Nat.le_of_ble_eq_true rfl) ?_
  intro p e s m args below meth c ls cx hnm hl
  have hl : lv_has ls 1 [(0, .ref rd)] := hl
  have hlo : hLo (eB E) [] := hLo.nil
  generalize hQ : MQ below _ args s _ _ _ = Q
  have hT := hb.2.2.2.1
  have hlen := rel.len
  have hl12 := hT.2.2.2
  rcases List.eq_nil_or_concat U with eU | ⟨V, u, eU⟩
  · subst eU; exact absurd (show (9 : Nat) = 0 from hk) (by decide)
  rw [List.concat_eq_append] at eU
  subst eU
  obtain ⟨t, ht, e1, e2⟩ := own.last
  subst e1
  have hty := hT.2.1 t (List.mem_append_left _ ht)
  have ev2 : t.2.2.1.map (·.2.2) = srtM u.2 := congrArg Prod.snd e2
  have hpm : ∀ d, d ∈ t.2.2.1.map (·.2.2) ↔ d ∈ u.2 := fun d => by rw [ev2]; exact (srtM_perm u.2).mem_iff
  have hlm : t.2.2.1.length = u.2.length := by have := (srtM_perm u.2).length_eq; rw [← ev2, List.length_map] at this; exact this
  have hro : hOb (eD E) classes H rd 8 [.ref ln, .ref bl, .ref dg, .ref dr.1, .int (nI num), .int (bI past), .int (bI brk), .ref (t).1.1.1] := hR.1
  rw [tkM_snoc] at hk
  rw [adM_snoc] at hQ
  have c1 : ¬ ∃ d ∈ u.2, cmpD d dw = 0 := fun z => by rw [if_pos z] at hk; exact absurd hk (by decide)
  rw [if_neg c1] at hk
  have c2 : ¬ 8 ≤ u.2.length := fun z => by rw [if_pos z] at hk; exact absurd hk (by decide)
  refine lv_aload_n cx.x cx.b d_Rd_takeMember_0 rfl (lv_at hl 0 rfl) ?_
  refine gf_Rd_179_Rd cx hro rfl d_Rd_takeMember_1 ?_
  refine lv_ifnonnull (tgt := 10) cx.x cx.b d_Rd_takeMember_4 (by decide) ?_
  refine lv_aload_n cx.x cx.b d_Rd_takeMember_10 rfl (lv_at hl 0 rfl) ?_
  refine gf_Rd_179_Rd cx hro rfl d_Rd_takeMember_11 ?_
  refine gf_Rd_183_Tp cx hty.ob rfl d_Rd_takeMember_14 ?_
  refine lv_aload_n cx.x cx.b d_Rd_takeMember_17 rfl (lv_at hl 0 rfl) ?_
  refine gf_Rd_12_Rd cx hro rfl d_Rd_takeMember_18 ?_
  refine hx_callr (iv_Rd_188_Sf cx (c_Sf_alike l hE hty.2.2.1.1 (hty.2.2.1.sfd) hd) hty.2.2.1.1.1 rfl hl.1 rfl (Nat.le_of_ble_eq_true rfl) d_Rd_takeMember_21 ⟨Nat.le_of_ble_eq_true rfl, Nat.le_of_ble_eq_true rfl⟩ ⟨Nat.le_of_ble_eq_true rfl, Nat.le_of_ble_eq_true rfl⟩) hlo (fun _ h => h) (fun r163 H162 locs hp161 hlo => ?_)
  obtain ⟨hp161, hH9⟩ := hp161
  have hH9 := hH9.symm
  subst hH9
  have hn9 : alk dw t.2.2.1 = none := alk_none.mpr (fun z => c1 (by obtain ⟨d, hd1, hd2⟩ := z; exact ⟨d, (hpm d).mp hd1, hd2⟩))
  rw [hn9] at hp161
  subst hp161
  show W p l e _ s m args below meth c H locs _ _ _ (F0 m 24 ls [.null])
  refine lv_ifnullN (tgt := 30) cx.x cx.b d_Rd_takeMember_24 (by decide) ?_
  refine lv_aload_n cx.x cx.b d_Rd_takeMember_30 rfl (lv_at hl 0 rfl) ?_
  refine gf_Rd_179_Rd cx hro rfl d_Rd_takeMember_31 ?_
  refine gf_Rd_183_Tp cx hty.ob rfl d_Rd_takeMember_34 ?_
  refine hx_calli (iv_Rd_170_Sf cx (c_Sf_isFull l hE hty.2.2.1.1) hty.2.2.1.1.1 rfl hl.1 rfl (Nat.le_of_ble_eq_true rfl) d_Rd_takeMember_37 ⟨Nat.le_of_ble_eq_true rfl, Nat.le_of_ble_eq_true rfl⟩ ⟨Nat.le_of_ble_eq_true rfl, Nat.le_of_ble_eq_true rfl⟩) hlo (fun _ h => h) (fun r166 H165 locs hp164 hlo => ?_)
  obtain ⟨hp164, hH9⟩ := hp164
  have hH9 := hH9.symm
  subst hH9
  rw [show decide (8 ≤ t.2.2.1.length) = false from decide_eq_false (by omega)] at hp164
  subst hp164
  refine lv_if_eq (tgt := 46) cx.x cx.b d_Rd_takeMember_40 (by decide) (fun _ => ?_) (fun c => absurd (by decide) c)
  have hfm : ∀ q ∈ fpM E t.2.1 t.2.2.1 t.2.2.2, q ∈ fpB E bl sa us sp := fun q hq => List.mem_cons_of_mem _ (List.mem_append_right _ (fpTs_mem.mpr ⟨t, List.mem_append_left _ ht, List.mem_append_right _ hq⟩))
  have hq4 := hty.2.2.2
  unfold fpT at hq4
  rw [List.nodup_append] at hq4
  have hdo : DcO E H t.1.1.1 (some t.2.1.1) t.1.1.2.1 t.1.1.2.2.2.1 t.1.2.2.2.2.1 t.1.2.2.2.2.2 := by have := hty.1.1; rw [hty.2.1] at this; exact this
  refine lv_aload_n cx.x cx.b d_Rd_takeMember_46 rfl (lv_at hl 0 rfl) ?_
  refine gf_Rd_179_Rd cx hro rfl d_Rd_takeMember_47 ?_
  refine lv_aload_n cx.x cx.b d_Rd_takeMember_50 rfl (lv_at hl 0 rfl) ?_
  refine gf_Rd_12_Rd cx hro rfl d_Rd_takeMember_51 ?_
  refine hx_callv (iv_Rd_192_Tp cx (c_Tp_addMember l hE hL (ad := t.1.1) (x0 := t.1.2.2) hdo hty.2.2.1 (fun q hq z => hq4.2.2 t.1.1.1 (fpD_dc.mpr (Or.inl rfl)) q hq z.symm) hO hd (fun q hq z => hap q hq (hfm q z)) (by omega)) hty.ob rfl hl.1 rfl (Nat.le_of_ble_eq_true rfl) d_Rd_takeMember_54 ⟨Nat.le_of_ble_eq_true rfl, Nat.le_of_ble_eq_true rfl⟩ ⟨Nat.le_of_ble_eq_true rfl, Nat.le_of_ble_eq_true rfl⟩) hlo (fun _ h => h) (fun H168 locs hp167 hlo => ?_)
  obtain ⟨sa2, d2, sp2, m1, m2, m3, m4, m5, m6⟩ := hp167
  obtain ⟨A, B, eAB⟩ := List.append_of_mem ht
  subst eAB
  obtain ⟨n1, n2⟩ := hb.updM hL m1 m3 m4 m5
  refine lv_iconst (v := 0) cx.x cx.b d_Rd_takeMember_57 (by decide) ?_
  rw [← hQ]
  exact hx_reti cx.x cx.b cx.r cx.k rfl hlo (fun _ h => h) (Nat.le_of_ble_eq_true rfl) (Nat.le_of_ble_eq_true rfl) d_Rd_takeMember_58 (⟨rfl, A ++ (t.1, sa2, insE t.2.2.1 d2, sp2) :: B, hR.ch m5 (fun z => hrd (hfm _ z)), n1, rel.addM e2 rfl (by show (insE t.2.2.1 d2).map (·.2.2) = _; rw [insE_map, m2]), OwR.mk1 (t := (t.1, sa2, insE t.2.2.1 d2, sp2)) (List.mem_append_right _ List.mem_cons_self) rfl (by unfold vwT; show (t.1.2.2, (insE t.2.2.1 d2).map (·.2.2)) = (u.1, srtM (u.2 ++ [dw])); rw [insE_map, m2, ev2, srtM_snoc, show t.1.2.2 = u.1 from congrArg Prod.fst e2]), n2, m5.mono (fun q _ z => hfm q z)⟩)
