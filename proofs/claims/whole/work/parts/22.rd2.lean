/-- the first line: its format, where the line then stands -/
def rdF2 (txt : List Nat) (en : Nat) (f : Option Nat) (we : Nat) : Option Nat × Nat × Nat := if f = none ∨ wdS (txt.take en) we < wdE (txt.take en) (wdS (txt.take en) we) then (none, wdS (txt.take en) we, wdE (txt.take en) (wdS (txt.take en) we)) else (f, wdS (txt.take en) we, wdE (txt.take en) (wdS (txt.take en) we))
def fmtW (x : List Nat) : Option Nat := if x = strL 1 then some 1 else if x = strL 2 then some 2 else none
def rdF (txt : List Nat) (en ws we : Nat) : Option Nat × Nat × Nat := if wdO txt ws we = strL 0 then rdF2 txt en (fmtW (wdO txt (wdS (txt.take en) we) (wdE (txt.take en) (wdS (txt.take en) we)))) (wdE (txt.take en) (wdS (txt.take en) we)) else (none, ws, we)
/-- a name or descriptor as it is copied -/
def cnR (fm : Nat) (txt : List Nat) (ws we : Nat) : List Nat × Bool := (cnF fm txt (we - ws) ws).foldl (addR 20) ([], false)
def okN (mem : Bool) (k : Nat) (r : List Nat × Bool) : Bool := (isNm mem k r.1 && !r.2) || (mem && decide (k = 1) && decide (r.1 = strL 14))
def okD (k : Nat) (r : List Nat × Bool) : Bool := !r.2 && (if k = 1 then isMD r.1 else isFD r.1)
/-- the words of a line: the diagnostic (0: fine), where the line stands, the declaration -/
def rdW3 (txt : List Nat) (en we : Nat) (x : DV) : Nat × Nat × Nat × DV := (if wdS (txt.take en) we < wdE (txt.take en) (wdS (txt.take en) we) then 6 else 0, wdS (txt.take en) we, wdE (txt.take en) (wdS (txt.take en) we), x)
def rdW2 (mem : Bool) (fm : Nat) (txt : List Nat) (en mq k : Nat) (nm : List Nat) (we : Nat) : Nat × Nat × Nat × DV :=
  if mem then (if okD k (cnR fm txt (wdS (txt.take en) we) (wdE (txt.take en) (wdS (txt.take en) we))) then rdW3 txt en (wdE (txt.take en) (wdS (txt.take en) we)) (nm, (cnR fm txt (wdS (txt.take en) we) (wdE (txt.take en) (wdS (txt.take en) we))).1, k, mq) else (5, wdS (txt.take en) we, wdE (txt.take en) (wdS (txt.take en) we), default)) else rdW3 txt en we (nm, [], k, mq)
def rdW1 (mem : Bool) (fm : Nat) (txt : List Nat) (en mq k we : Nat) : Nat × Nat × Nat × DV :=
  if okN mem k (cnR fm txt (wdS (txt.take en) we) (wdE (txt.take en) (wdS (txt.take en) we))) then rdW2 mem fm txt en mq k (cnR fm txt (wdS (txt.take en) we) (wdE (txt.take en) (wdS (txt.take en) we))).1 (wdE (txt.take en) (wdS (txt.take en) we)) else (4, wdS (txt.take en) we, wdE (txt.take en) (wdS (txt.take en) we), default)
def rdW0 (mem : Bool) (fm : Nat) (txt : List Nat) (en : Nat) (m : Bool × Nat × Nat × Nat) : Nat × Nat × Nat × DV := if m.1 then (match kdH mem (wdO txt m.2.2.1 m.2.2.2) with
  | none => (3, m.2.2.1, m.2.2.2, default)
  | some k => rdW1 mem fm txt en m.2.1 k m.2.2.2) else (2, m.2.2.1, m.2.2.2, default)
def rdW (mem : Bool) (fm : Nat) (txt : List Nat) (en ws we : Nat) : Nat × Nat × Nat × DV := rdW0 mem fm txt en (rmk mem txt en (nMarks mem + 1) 0 ws we)
theorem addR_full {cap : Nat} : ∀ (ys : List Nat) (r : List Nat × Bool), (r.2 = true → cap ≤ r.1.length) → ((ys.foldl (addR cap) r).2 = true → cap ≤ (ys.foldl (addR cap) r).1.length) := by
  intro ys
  induction ys with
  | nil => intro r h; exact h
  | cons y ys ih =>
    intro r h
    refine ih _ ?_
    unfold addR
    by_cases c : r.1.length < cap
    · rw [if_pos c]; intro q; have := h q; omega
    · rw [if_neg c]; intro _; show cap ≤ r.1.length; omega
theorem okN_fits {mem : Bool} {k fm ws we : Nat} {txt : List Nat} (h : okN mem k (cnR fm txt ws we) = true) : (cnR fm txt ws we).2 = false := by
  have hf : (cnR fm txt ws we).2 = true → 20 ≤ (cnR fm txt ws we).1.length := addR_full _ _ (fun q => by cases q)
  cases ho : (cnR fm txt ws we).2 with
  | false => rfl
  | true =>
    have hl := hf ho
    unfold okN at h
    rw [ho] at h
    simp only [Bool.not_true, Bool.and_false, Bool.false_or, Bool.and_eq_true, decide_eq_true_eq] at h
    rw [h.2] at hl
    exact absurd hl (by decide)
theorem okD_fits {k : Nat} {r : List Nat × Bool} (h : okD k r = true) : r.2 = false := by
  unfold okD at h
  cases ho : r.2 with
  | false => rfl
  | true => rw [ho] at h; simp at h
theorem nin {rd ln tr tarr : Nat} {dr : DA} (h : (rd :: ln :: tr :: tarr :: fpD dr).Nodup) (i : Nat) (hi : i < 4) {a : Nat} (ha : (rd :: ln :: tr :: tarr :: fpD dr)[i]? = some a) (hm : a ∈ fpD dr) : False := by
  rw [List.nodup_cons, List.nodup_cons, List.nodup_cons, List.nodup_cons] at h
  match i, hi, ha with
  | 0, _, ha => cases ha; exact h.1 (List.mem_cons_of_mem _ (List.mem_cons_of_mem _ (List.mem_cons_of_mem _ hm)))
  | 1, _, ha => cases ha; exact h.2.1 (List.mem_cons_of_mem _ (List.mem_cons_of_mem _ hm))
  | 2, _, ha => cases ha; exact h.2.2.1 (List.mem_cons_of_mem _ hm)
  | 3, _, ha => cases ha; exact h.2.2.2.1 hm
set_option maxHeartbeats 4000000 in
set_option maxRecDepth 100000 in
theorem c_Rd_readFormat (l : Launch) {E : hE} (hE : EnvOk E) (hS : EnvS E) {H : Heap} {rd ln bl dg num tr tarr st en ws we : Nat} {dr : DA} {past brk : Bool} {ow : Option Nat} {txt : List Nat} {ot : Bool} (hR : RdO E H rd ln bl dg dr.1 num past brk ow) (hln : Ln E H ln tr st en ws we) (hr : Rw E H tr tarr 480 txt ot) (hN : (rd :: ln :: tr :: tarr :: fpD dr).Nodup) (h1 : ws ≤ we) (h2 : we ≤ en) (h3 : en ≤ txt.length) {y fm : Nat} (hb : hOb (eD E) classes H bl 5 [.ref y, .int (nI fm)]) (hbB : eB E ≤ bl) (hbN : bl ∉ rd :: ln :: tr :: tarr :: fpD dr) (hfm : fm = 1 ∨ fm = 2) (hO : Old E H) : Ct l E y_Rd_readFormat b_Rd_readFormat 2 (some .boolean) (rmA 5 0 0) [.ref rd] H (hQi (fun r H1 => r = bI (rdF txt en ws we).1.isSome ∧ Ln E H1 ln tr st en (rdF txt en ws we).2.1 (rdF txt en ws we).2.2 ∧ hOb (eD E) classes H1 bl 5 [.ref y, .int (nI ((rdF txt en ws we).1.getD fm))] ∧ hCh (fun q => q = ln ∨ q = bl) H H1 ∧ H1.size = H.size)) := by
  refine hx_enter hE (by decide) (Nat.le_of_ble_eq_true rfl) ?_
  intro p e s m args below meth c ls cx hnm hl
  have hl : lv_has ls 2 [(0, .ref rd)] := hl
  have hlo : hLo (eB E) [] := hLo.nil
  generalize hQ : MQ below _ args s _ _ _ = Q
  have hN0 := hN
  clear hN
  have hlen := len_take h3
  obtain ⟨G, hG⟩ : ∃ G, (rdF txt en ws we) = G := ⟨_, rfl⟩
  rw [hG] at hQ
  unfold rdF at hG
  have a1 := wdS_le (L := txt.take en) (i := we) (by omega)
  have a2 := wdE_le (L := txt.take en) (i := wdS (txt.take en) we) (by omega)
  generalize hs1 : wdS (txt.take en) we = s1 at a1 a2 hG
  generalize he1 : wdE (txt.take en) s1 = e1 at a2 hG
  have a3 := wdS_le (L := txt.take en) (i := e1) (by omega)
  have a4 := wdE_le (L := txt.take en) (i := wdS (txt.take en) e1) (by omega)
  refine lv_aload_n cx.x cx.b d_Rd_readFormat_0 rfl (lv_at hl 0 rfl) ?_
  refine gf_Rd_23_Rd cx hR.1 rfl d_Rd_readFormat_1 ?_
  refine va_ldcS cx.x cx.b cx.o (cx.X.2.2.2.2.2.1 ("BaselineText$Reader", 83, "#sig", 0) (List.mem_of_getElem? (i := 0) rfl)) d_Rd_readFormat_4 ?_
  refine hx_calli (iv_Rd_85_Ln cx (c_Ln_isAt l hE hS hln hr (ndn hN0 2 1 rfl rfl (by decide)) (ndn hN0 3 1 rfl rfl (by decide)) hO (i := 0) (by omega) h1 (by omega)) hln.1 rfl hl.1 rfl (Nat.le_of_ble_eq_true rfl) d_Rd_readFormat_6 ⟨Nat.le_of_ble_eq_true rfl, Nat.le_of_ble_eq_true rfl⟩ ⟨Nat.le_of_ble_eq_true rfl, Nat.le_of_ble_eq_true rfl⟩) hlo (fun _ h => h) (fun r154 H153 locs hp152 hlo => ?_)
  obtain ⟨hp152, hH9⟩ := hp152
  have hH9 := hH9.symm
  subst hH9
  subst hp152
  by_cases c1 : wdO txt ws we = strL 0
  · rw [show decide (wdO txt ws we = strL 0) = true from decide_eq_true c1]
    refine lv_if_ne (tgt := 14) cx.x cx.b d_Rd_readFormat_9 (by decide) (fun _ => ?_) (fun c => absurd c (by decide))
    rw [if_pos c1] at hG
    refine lv_aload_n cx.x cx.b d_Rd_readFormat_14 rfl (lv_at hl 0 rfl) ?_
    refine gf_Rd_23_Rd cx hR.1 rfl d_Rd_readFormat_15 ?_
    refine hx_callv (iv_Rd_89_Ln cx (c_Ln_toNextWord l hE hln hr (ndn hN0 2 1 rfl rfl (by decide)) (ndn hN0 3 1 rfl rfl (by decide)) h2 h3) hln.1 rfl hl.1 rfl (Nat.le_of_ble_eq_true rfl) d_Rd_readFormat_18 ⟨Nat.le_of_ble_eq_true rfl, Nat.le_of_ble_eq_true rfl⟩ ⟨Nat.le_of_ble_eq_true rfl, Nat.le_of_ble_eq_true rfl⟩) hlo (fun _ h => h) (fun H156 locs hp155 hlo => ?_)
    obtain ⟨l2, k2, z2⟩ := hp155
    rw [hs1, he1] at l2
    have hR2 := hR.ch k2 (ndn hN0 0 1 rfl rfl (by decide))
    have hr2 := hr.ch k2 (ndn hN0 2 1 rfl rfl (by decide)) (ndn hN0 3 1 rfl rfl (by decide))
    have hb2 := hb.ch k2 (fun e => hbN (e ▸ List.mem_of_getElem? (i := 1) rfl))
    have hO2 := hO.ch k2 (fun q e => by rw [e]; exact hln.2)
    refine lv_aload_n cx.x cx.b d_Rd_readFormat_21 rfl (lv_at hl 0 rfl) ?_
    refine gf_Rd_23_Rd cx hR2.1 rfl d_Rd_readFormat_22 ?_
    refine va_ldcS cx.x cx.b cx.o (cx.X.2.2.2.2.2.1 ("BaselineText$Reader", 92, "1", 1) (List.mem_of_getElem? (i := 1) rfl)) d_Rd_readFormat_25 ?_
    refine hx_calli (iv_Rd_85_Ln cx (c_Ln_isAt l hE hS l2 hr2 (ndn hN0 2 1 rfl rfl (by decide)) (ndn hN0 3 1 rfl rfl (by decide)) hO2 (i := 1) (by omega) (by omega) (by omega)) l2.1 rfl hl.1 rfl (Nat.le_of_ble_eq_true rfl) d_Rd_readFormat_27 ⟨Nat.le_of_ble_eq_true rfl, Nat.le_of_ble_eq_true rfl⟩ ⟨Nat.le_of_ble_eq_true rfl, Nat.le_of_ble_eq_true rfl⟩) hlo (fun _ h => h) (fun r159 H158 locs hp157 hlo => ?_)
    obtain ⟨hp157, hH9⟩ := hp157
    have hH9 := hH9.symm
    subst hH9
    subst hp157
    by_cases c2 : wdO txt s1 e1 = strL 1
    · rw [show decide (wdO txt s1 e1 = strL 1) = true from decide_eq_true c2]
      refine lv_if_eq (tgt := 37) cx.x cx.b d_Rd_readFormat_30 (by decide) (fun c => absurd c (by decide)) (fun _ => ?_)
      refine lv_iconst (v := 1) cx.x cx.b d_Rd_readFormat_33 (by decide) ?_
      refine lv_goto (tgt := 54) cx.x cx.b d_Rd_readFormat_34 (by decide) ?_
      have hfw : fmtW (wdO txt s1 e1) = some 1 := by unfold fmtW; rw [if_pos c2]
      rw [hfw] at hG
      unfold rdF2 at hG
      refine lv_istore_n (lv' := [(1, .int 1), (0, .ref rd)]) cx.x cx.b d_Rd_readFormat_54 rfl hl (by decide) rfl (fun ls hl => ?_)
      refine lv_aload_n cx.x cx.b d_Rd_readFormat_55 rfl (lv_at hl 1 rfl) ?_
      refine gf_Rd_23_Rd cx hR2.1 rfl d_Rd_readFormat_56 ?_
      refine hx_callv (iv_Rd_89_Ln cx (c_Ln_toNextWord l hE l2 hr2 (ndn hN0 2 1 rfl rfl (by decide)) (ndn hN0 3 1 rfl rfl (by decide)) (by omega) h3) l2.1 rfl hl.1 rfl (Nat.le_of_ble_eq_true rfl) d_Rd_readFormat_59 ⟨Nat.le_of_ble_eq_true rfl, Nat.le_of_ble_eq_true rfl⟩ ⟨Nat.le_of_ble_eq_true rfl, Nat.le_of_ble_eq_true rfl⟩) hlo (fun _ h => h) (fun H161 locs hp160 hlo => ?_)
      obtain ⟨l3, k3, z3⟩ := hp160
      have k23 := k2.tr k3
      have hR3 := hR.ch k23 (ndn hN0 0 1 rfl rfl (by decide))
      have hr3 := hr.ch k23 (ndn hN0 2 1 rfl rfl (by decide)) (ndn hN0 3 1 rfl rfl (by decide))
      have hb3 := hb.ch k23 (fun e => hbN (e ▸ List.mem_of_getElem? (i := 1) rfl))
      have hO3 := hO.ch k23 (fun q e => by rw [e]; exact hln.2)
      generalize hs2 : wdS (txt.take en) e1 = s2 at a3 a4 hG l3
      generalize he2 : wdE (txt.take en) s2 = e2 at a4 hG l3
      refine lv_iload_n cx.x cx.b d_Rd_readFormat_62 rfl (lv_at hl 0 rfl) ?_
      refine lv_iconst (v := (-1)) cx.x cx.b d_Rd_readFormat_63 (by decide) ?_
      refine lv_icmp_eq (tgt := 77) cx.x cx.b d_Rd_readFormat_64 (by decide) (fun c => absurd c (by decide)) (fun _ => ?_)
      refine lv_aload_n cx.x cx.b d_Rd_readFormat_67 rfl (lv_at hl 1 rfl) ?_
      refine gf_Rd_23_Rd cx hR3.1 rfl d_Rd_readFormat_68 ?_
      refine hx_calli (iv_Rd_96_Ln cx (c_Ln_hasWord l hE l3 (by have := hr.le; omega) (by have := hr.le; omega)) l3.1 rfl hl.1 rfl (Nat.le_of_ble_eq_true rfl) d_Rd_readFormat_71 ⟨Nat.le_of_ble_eq_true rfl, Nat.le_of_ble_eq_true rfl⟩ ⟨Nat.le_of_ble_eq_true rfl, Nat.le_of_ble_eq_true rfl⟩) hlo (fun _ h => h) (fun r164 H163 locs hp162 hlo => ?_)
      obtain ⟨hp162, hH9⟩ := hp162
      have hH9 := hH9.symm
      subst hH9
      subst hp162
      by_cases c9 : s2 < e2
      · rw [show decide (s2 < e2) = true from decide_eq_true c9]
        rw [if_pos (Or.inr c9)] at hG
        rw [← hG] at hQ
        refine lv_if_eq (tgt := 79) cx.x cx.b d_Rd_readFormat_74 (by decide) (fun c => absurd c (by decide)) (fun _ => ?_)
        refine lv_iconst (v := 0) cx.x cx.b d_Rd_readFormat_77 (by decide) ?_
        rw [← hQ]
        exact hx_reti cx.x cx.b cx.r cx.k rfl hlo (fun _ h => h) (Nat.le_of_ble_eq_true rfl) (Nat.le_of_ble_eq_true rfl) d_Rd_readFormat_78 (⟨rfl, l3, hb3, k23.mono (fun q _ e => Or.inl e), z3.trans z2⟩)
      · rw [show decide (s2 < e2) = false from decide_eq_false c9]
        rw [if_neg (fun q => by rcases q with q | q; cases q; exact c9 q)] at hG
        rw [← hG] at hQ
        refine lv_if_eq (tgt := 79) cx.x cx.b d_Rd_readFormat_74 (by decide) (fun _ => ?_) (fun c => absurd (by decide) c)
        refine lv_aload_n cx.x cx.b d_Rd_readFormat_79 rfl (lv_at hl 1 rfl) ?_
        refine gf_Rd_27_Rd cx hR3.1 rfl d_Rd_readFormat_80 ?_
        refine lv_iload_n cx.x cx.b d_Rd_readFormat_83 rfl (lv_at hl 0 rfl) ?_
        refine pf_Rd_99_Bl cx hb3 hlo hbB (Nat.le_of_ble_eq_true rfl) d_Rd_readFormat_84 (fun H165 locs ho166 z_H165 o_H165 hlo => ?_)
        have ho166 : hOb (eD E) classes H165 bl 5 [.ref y, .int 1] := ho166
        refine lv_iconst (v := 1) cx.x cx.b d_Rd_readFormat_87 (by decide) ?_
        have k4 : hCh (fun q => q = bl) H161 H165 := hCh.put z_H165 o_H165 rfl
        rw [← hQ]
        exact hx_reti cx.x cx.b cx.r cx.k rfl hlo (fun _ h => h) (Nat.le_of_ble_eq_true rfl) (Nat.le_of_ble_eq_true rfl) d_Rd_readFormat_88 (⟨rfl, l3.ch k4 (Ne.symm (fun e => hbN (e ▸ List.mem_of_getElem? (i := 1) rfl))), ho166, (k23.mono (fun q _ e => Or.inl e)).tr (k4.mono (fun q _ e => Or.inr e)), z_H165.trans (z3.trans z2)⟩)
    · rw [show decide (wdO txt s1 e1 = strL 1) = false from decide_eq_false c2]
      refine lv_if_eq (tgt := 37) cx.x cx.b d_Rd_readFormat_30 (by decide) (fun _ => ?_) (fun c => absurd (by decide) c)
      refine lv_aload_n cx.x cx.b d_Rd_readFormat_37 rfl (lv_at hl 0 rfl) ?_
      refine gf_Rd_23_Rd cx hR2.1 rfl d_Rd_readFormat_38 ?_
      refine va_ldcS cx.x cx.b cx.o (cx.X.2.2.2.2.2.1 ("BaselineText$Reader", 94, "2", 2) (List.mem_of_getElem? (i := 2) rfl)) d_Rd_readFormat_41 ?_
      refine hx_calli (iv_Rd_85_Ln cx (c_Ln_isAt l hE hS l2 hr2 (ndn hN0 2 1 rfl rfl (by decide)) (ndn hN0 3 1 rfl rfl (by decide)) hO2 (i := 2) (by omega) (by omega) (by omega)) l2.1 rfl hl.1 rfl (Nat.le_of_ble_eq_true rfl) d_Rd_readFormat_43 ⟨Nat.le_of_ble_eq_true rfl, Nat.le_of_ble_eq_true rfl⟩ ⟨Nat.le_of_ble_eq_true rfl, Nat.le_of_ble_eq_true rfl⟩) hlo (fun _ h => h) (fun r169 H168 locs hp167 hlo => ?_)
      obtain ⟨hp167, hH9⟩ := hp167
      have hH9 := hH9.symm
      subst hH9
      subst hp167
      by_cases c3 : wdO txt s1 e1 = strL 2
      · rw [show decide (wdO txt s1 e1 = strL 2) = true from decide_eq_true c3]
        refine lv_if_eq (tgt := 53) cx.x cx.b d_Rd_readFormat_46 (by decide) (fun c => absurd c (by decide)) (fun _ => ?_)
        refine lv_iconst (v := 2) cx.x cx.b d_Rd_readFormat_49 (by decide) ?_
        refine lv_goto (tgt := 54) cx.x cx.b d_Rd_readFormat_50 (by decide) ?_
        have hfw : fmtW (wdO txt s1 e1) = some 2 := by unfold fmtW; rw [if_neg c2, if_pos c3]
        rw [hfw] at hG
        unfold rdF2 at hG
        refine lv_istore_n (lv' := [(1, .int 2), (0, .ref rd)]) cx.x cx.b d_Rd_readFormat_54 rfl hl (by decide) rfl (fun ls hl => ?_)
        refine lv_aload_n cx.x cx.b d_Rd_readFormat_55 rfl (lv_at hl 1 rfl) ?_
        refine gf_Rd_23_Rd cx hR2.1 rfl d_Rd_readFormat_56 ?_
        refine hx_callv (iv_Rd_89_Ln cx (c_Ln_toNextWord l hE l2 hr2 (ndn hN0 2 1 rfl rfl (by decide)) (ndn hN0 3 1 rfl rfl (by decide)) (by omega) h3) l2.1 rfl hl.1 rfl (Nat.le_of_ble_eq_true rfl) d_Rd_readFormat_59 ⟨Nat.le_of_ble_eq_true rfl, Nat.le_of_ble_eq_true rfl⟩ ⟨Nat.le_of_ble_eq_true rfl, Nat.le_of_ble_eq_true rfl⟩) hlo (fun _ h => h) (fun H171 locs hp170 hlo => ?_)
        obtain ⟨l3, k3, z3⟩ := hp170
        have k23 := k2.tr k3
        have hR3 := hR.ch k23 (ndn hN0 0 1 rfl rfl (by decide))
        have hr3 := hr.ch k23 (ndn hN0 2 1 rfl rfl (by decide)) (ndn hN0 3 1 rfl rfl (by decide))
        have hb3 := hb.ch k23 (fun e => hbN (e ▸ List.mem_of_getElem? (i := 1) rfl))
        have hO3 := hO.ch k23 (fun q e => by rw [e]; exact hln.2)
        generalize hs2 : wdS (txt.take en) e1 = s2 at a3 a4 hG l3
        generalize he2 : wdE (txt.take en) s2 = e2 at a4 hG l3
        refine lv_iload_n cx.x cx.b d_Rd_readFormat_62 rfl (lv_at hl 0 rfl) ?_
        refine lv_iconst (v := (-1)) cx.x cx.b d_Rd_readFormat_63 (by decide) ?_
        refine lv_icmp_eq (tgt := 77) cx.x cx.b d_Rd_readFormat_64 (by decide) (fun c => absurd c (by decide)) (fun _ => ?_)
        refine lv_aload_n cx.x cx.b d_Rd_readFormat_67 rfl (lv_at hl 1 rfl) ?_
        refine gf_Rd_23_Rd cx hR3.1 rfl d_Rd_readFormat_68 ?_
        refine hx_calli (iv_Rd_96_Ln cx (c_Ln_hasWord l hE l3 (by have := hr.le; omega) (by have := hr.le; omega)) l3.1 rfl hl.1 rfl (Nat.le_of_ble_eq_true rfl) d_Rd_readFormat_71 ⟨Nat.le_of_ble_eq_true rfl, Nat.le_of_ble_eq_true rfl⟩ ⟨Nat.le_of_ble_eq_true rfl, Nat.le_of_ble_eq_true rfl⟩) hlo (fun _ h => h) (fun r174 H173 locs hp172 hlo => ?_)
        obtain ⟨hp172, hH9⟩ := hp172
        have hH9 := hH9.symm
        subst hH9
        subst hp172
        by_cases c9 : s2 < e2
        · rw [show decide (s2 < e2) = true from decide_eq_true c9]
          rw [if_pos (Or.inr c9)] at hG
          rw [← hG] at hQ
          refine lv_if_eq (tgt := 79) cx.x cx.b d_Rd_readFormat_74 (by decide) (fun c => absurd c (by decide)) (fun _ => ?_)
          refine lv_iconst (v := 0) cx.x cx.b d_Rd_readFormat_77 (by decide) ?_
          rw [← hQ]
          exact hx_reti cx.x cx.b cx.r cx.k rfl hlo (fun _ h => h) (Nat.le_of_ble_eq_true rfl) (Nat.le_of_ble_eq_true rfl) d_Rd_readFormat_78 (⟨rfl, l3, hb3, k23.mono (fun q _ e => Or.inl e), z3.trans z2⟩)
        · rw [show decide (s2 < e2) = false from decide_eq_false c9]
          rw [if_neg (fun q => by rcases q with q | q; cases q; exact c9 q)] at hG
          rw [← hG] at hQ
          refine lv_if_eq (tgt := 79) cx.x cx.b d_Rd_readFormat_74 (by decide) (fun _ => ?_) (fun c => absurd (by decide) c)
          refine lv_aload_n cx.x cx.b d_Rd_readFormat_79 rfl (lv_at hl 1 rfl) ?_
          refine gf_Rd_27_Rd cx hR3.1 rfl d_Rd_readFormat_80 ?_
          refine lv_iload_n cx.x cx.b d_Rd_readFormat_83 rfl (lv_at hl 0 rfl) ?_
          refine pf_Rd_99_Bl cx hb3 hlo hbB (Nat.le_of_ble_eq_true rfl) d_Rd_readFormat_84 (fun H175 locs ho176 z_H175 o_H175 hlo => ?_)
          have ho176 : hOb (eD E) classes H175 bl 5 [.ref y, .int 2] := ho176
          refine lv_iconst (v := 1) cx.x cx.b d_Rd_readFormat_87 (by decide) ?_
          have k4 : hCh (fun q => q = bl) H171 H175 := hCh.put z_H175 o_H175 rfl
          rw [← hQ]
          exact hx_reti cx.x cx.b cx.r cx.k rfl hlo (fun _ h => h) (Nat.le_of_ble_eq_true rfl) (Nat.le_of_ble_eq_true rfl) d_Rd_readFormat_88 (⟨rfl, l3.ch k4 (Ne.symm (fun e => hbN (e ▸ List.mem_of_getElem? (i := 1) rfl))), ho176, (k23.mono (fun q _ e => Or.inl e)).tr (k4.mono (fun q _ e => Or.inr e)), z_H175.trans (z3.trans z2)⟩)
      · rw [show decide (wdO txt s1 e1 = strL 2) = false from decide_eq_false c3]
        refine lv_if_eq (tgt := 53) cx.x cx.b d_Rd_readFormat_46 (by decide) (fun _ => ?_) (fun c => absurd (by decide) c)
        refine lv_iconst (v := (-1)) cx.x cx.b d_Rd_readFormat_53 (by decide) ?_
        have hfw : fmtW (wdO txt s1 e1) = none := by unfold fmtW; rw [if_neg c2, if_neg c3]
        rw [hfw] at hG
        unfold rdF2 at hG
        refine lv_istore_n (lv' := [(1, .int (-1)), (0, .ref rd)]) cx.x cx.b d_Rd_readFormat_54 rfl hl (by decide) rfl (fun ls hl => ?_)
        refine lv_aload_n cx.x cx.b d_Rd_readFormat_55 rfl (lv_at hl 1 rfl) ?_
        refine gf_Rd_23_Rd cx hR2.1 rfl d_Rd_readFormat_56 ?_
        refine hx_callv (iv_Rd_89_Ln cx (c_Ln_toNextWord l hE l2 hr2 (ndn hN0 2 1 rfl rfl (by decide)) (ndn hN0 3 1 rfl rfl (by decide)) (by omega) h3) l2.1 rfl hl.1 rfl (Nat.le_of_ble_eq_true rfl) d_Rd_readFormat_59 ⟨Nat.le_of_ble_eq_true rfl, Nat.le_of_ble_eq_true rfl⟩ ⟨Nat.le_of_ble_eq_true rfl, Nat.le_of_ble_eq_true rfl⟩) hlo (fun _ h => h) (fun H178 locs hp177 hlo => ?_)
        obtain ⟨l3, k3, z3⟩ := hp177
        have k23 := k2.tr k3
        have hR3 := hR.ch k23 (ndn hN0 0 1 rfl rfl (by decide))
        have hr3 := hr.ch k23 (ndn hN0 2 1 rfl rfl (by decide)) (ndn hN0 3 1 rfl rfl (by decide))
        have hb3 := hb.ch k23 (fun e => hbN (e ▸ List.mem_of_getElem? (i := 1) rfl))
        have hO3 := hO.ch k23 (fun q e => by rw [e]; exact hln.2)
        generalize hs2 : wdS (txt.take en) e1 = s2 at a3 a4 hG l3
        generalize he2 : wdE (txt.take en) s2 = e2 at a4 hG l3
        refine lv_iload_n cx.x cx.b d_Rd_readFormat_62 rfl (lv_at hl 0 rfl) ?_
        refine lv_iconst (v := (-1)) cx.x cx.b d_Rd_readFormat_63 (by decide) ?_
        refine lv_icmp_eq (tgt := 77) cx.x cx.b d_Rd_readFormat_64 (by decide) (fun _ => ?_) (fun c => absurd (by decide) c)
        rw [if_pos (Or.inl rfl)] at hG
        rw [← hG] at hQ
        refine lv_iconst (v := 0) cx.x cx.b d_Rd_readFormat_77 (by decide) ?_
        rw [← hQ]
        exact hx_reti cx.x cx.b cx.r cx.k rfl hlo (fun _ h => h) (Nat.le_of_ble_eq_true rfl) (Nat.le_of_ble_eq_true rfl) d_Rd_readFormat_78 (⟨rfl, l3, hb3, k23.mono (fun q _ e => Or.inl e), z3.trans z2⟩)
  · rw [show decide (wdO txt ws we = strL 0) = false from decide_eq_false c1]
    refine lv_if_ne (tgt := 14) cx.x cx.b d_Rd_readFormat_9 (by decide) (fun c => absurd (by decide) c) (fun _ => ?_)
    rw [if_neg c1] at hG
    rw [← hG] at hQ
    refine lv_iconst (v := 0) cx.x cx.b d_Rd_readFormat_12 (by decide) ?_
    rw [← hQ]
    exact hx_reti cx.x cx.b cx.r cx.k rfl hlo (fun _ h => h) (Nat.le_of_ble_eq_true rfl) (Nat.le_of_ble_eq_true rfl) d_Rd_readFormat_13 (⟨rfl, hln, hb, hCh.rf, rfl⟩)

set_option maxHeartbeats 4000000 in
set_option maxRecDepth 100000 in
theorem c_Rd_readWords (l : Launch) {E : hE} (hE : EnvOk E) (hS : EnvS E) {H : Heap} {rd ln bl dg num tr tarr st en ws we : Nat} {dr : DA} {past brk : Bool} {ow : Option Nat} {txt : List Nat} {ot : Bool} (hR : RdO E H rd ln bl dg dr.1 num past brk ow) (hln : Ln E H ln tr st en ws we) (hr : Rw E H tr tarr 480 txt ot) (hN : (rd :: ln :: tr :: tarr :: fpD dr).Nodup) (h1 : ws ≤ we) (h2 : we ≤ en) (h3 : en ≤ txt.length) {y fm : Nat} (hb : hOb (eD E) classes H bl 5 [.ref y, .int (nI fm)]) (hbB : eB E ≤ bl) (hbN : bl ∉ rd :: ln :: tr :: tarr :: fpD dr) (hfm : fm = 1 ∨ fm = 2) {kI : Int32} {mk0 : Nat} {nx dx : List Nat} {o1 o2 : Bool} (hd : Dr E H dr kI mk0 nx dx o1 o2) (hO : Old E H) (mem : Bool) : Ct l E y_Rd_readWords b_Rd_readWords 3 (some .int) (rmA 7 0 0) [.ref rd, .int (bI mem)] H (hQi (fun r H1 => r = nI (rdW mem fm txt en ws we).1 ∧ Ln E H1 ln tr st en (rdW mem fm txt en ws we).2.1 (rdW mem fm txt en ws we).2.2.1 ∧ ((rdW mem fm txt en ws we).1 = 0 → Dc E H1 dr none (rdW mem fm txt en ws we).2.2.2 false false ∧ (rdW mem fm txt en ws we).2.2.2.2.2.1 < nKinds mem) ∧ (∃ (kJ : Int32) (mj : Nat) (n2 d2 : List Nat) (p1 p2 : Bool), Dr E H1 dr kJ mj n2 d2 p1 p2) ∧ hCh (fun q => q = ln ∨ dcS dr q) H H1 ∧ H1.size = H.size)) := by
  refine hx_enter hE (by decide) (Nat.le_of_ble_eq_true rfl) ?_
  intro p e s m args below meth c ls cx hnm hl
  have hl : lv_has ls 3 [(0, .ref rd), (1, .int (bI mem))] := hl
  have hlo : hLo (eB E) [] := hLo.nil
  generalize hQ : MQ below _ args s _ _ _ = Q
  have hN0 := hN
  clear hN
  have hlen := len_take h3
  have hle := hr.le
  obtain ⟨G, hG⟩ : ∃ G, rdW mem fm txt en ws we = G := ⟨_, rfl⟩
  rw [hG] at hQ
  unfold rdW rdW0 at hG
  have hrk := rmk_le (mem := mem) h3 (nMarks mem + 1) 0 ws we (by omega) h1 h2
  have hBd := hd.2.2.2.1
  have hloS : ∀ q, (fun q => q = ln ∨ dcS dr q) q → eB E ≤ q := fun q hq => by rcases hq with e | e | e | e; rw [e]; exact hln.2; rw [e]; exact hBd; exact rS.lo hd.2.1 q e; exact rS.lo hd.2.2.1 q e
  have hndD : (fpD dr).Nodup := (List.nodup_cons.mp (List.nodup_cons.mp (List.nodup_cons.mp (List.nodup_cons.mp hN0).2).2).2).2
  have hR0 := hR.ch (hCh.rf (S := fun q => q = ln ∨ dcS dr q)) (fun q => by rcases q with e | e; exact (ndn hN0 0 1 rfl rfl (by decide)) e; exact nin hN0 0 (by decide) rfl (fpD_dc.mpr e))
  have hr0 := hr.ch (hCh.rf (S := fun q => q = ln ∨ dcS dr q)) (fun q => by rcases q with e | e; exact (ndn hN0 2 1 rfl rfl (by decide)) e; exact nin hN0 2 (by decide) rfl (fpD_dc.mpr e)) (fun q => by rcases q with e | e; exact (ndn hN0 3 1 rfl rfl (by decide)) e; exact nin hN0 3 (by decide) rfl (fpD_dc.mpr e))
  have hb0 := hb.ch (hCh.rf (S := fun q => q = ln ∨ dcS dr q)) (fun q => by rcases q with e | e; exact hbN (e ▸ List.mem_of_getElem? (i := 1) rfl); exact hbN (List.mem_cons_of_mem _ (List.mem_cons_of_mem _ (List.mem_cons_of_mem _ (List.mem_cons_of_mem _ (fpD_dc.mpr e))))))
  have hO0 := hO.ch (hCh.rf (S := fun q => q = ln ∨ dcS dr q)) hloS
  refine lv_aload_n cx.x cx.b d_Rd_readWords_0 rfl (lv_at hl 0 rfl) ?_
  refine lv_iload_n cx.x cx.b d_Rd_readWords_1 rfl (lv_at hl 1 rfl) ?_
  refine hx_calli (iv_Rd_104_Rd cx (c_Rd_readMarks l hE hS hR hln hr hN0 h1 h2 h3 hd hO mem) hR0.1 rfl hl.1 rfl (Nat.le_of_ble_eq_true rfl) d_Rd_readWords_2 ⟨Nat.le_of_ble_eq_true rfl, Nat.le_of_ble_eq_true rfl⟩ ⟨Nat.le_of_ble_eq_true rfl, Nat.le_of_ble_eq_true rfl⟩) hlo (fun _ h => h) (fun r181 H180 locs hp179 hlo => ?_)
  obtain ⟨e0, d1, l1, k1, z1⟩ := hp179
  generalize hM : rmk mem txt en (nMarks mem + 1) 0 ws we = M at e0 d1 l1 hrk hG
  obtain ⟨ok, mq, s1, e1⟩ := M
  simp only at e0 d1 l1 hrk hG
  subst e0
  have hch : hCh (fun q => q = ln ∨ dcS dr q) H H180 := k1.mono (fun q _ e => by rcases e with e | e; exact Or.inl e; exact Or.inr (Or.inl e))
  have hR1 := hR.ch hch (fun q => by rcases q with e | e; exact (ndn hN0 0 1 rfl rfl (by decide)) e; exact nin hN0 0 (by decide) rfl (fpD_dc.mpr e))
  have hr1 := hr.ch hch (fun q => by rcases q with e | e; exact (ndn hN0 2 1 rfl rfl (by decide)) e; exact nin hN0 2 (by decide) rfl (fpD_dc.mpr e)) (fun q => by rcases q with e | e; exact (ndn hN0 3 1 rfl rfl (by decide)) e; exact nin hN0 3 (by decide) rfl (fpD_dc.mpr e))
  have hb1 := hb.ch hch (fun q => by rcases q with e | e; exact hbN (e ▸ List.mem_of_getElem? (i := 1) rfl); exact hbN (List.mem_cons_of_mem _ (List.mem_cons_of_mem _ (List.mem_cons_of_mem _ (List.mem_cons_of_mem _ (fpD_dc.mpr e))))))
  have hO1 := hO.ch hch hloS
  cases ok
  · refine lv_if_ne (tgt := 10) cx.x cx.b d_Rd_readWords_5 (by decide) (fun c => absurd (by decide) c) (fun _ => ?_)
    rw [if_neg (by decide)] at hG
    rw [← hG] at hQ
    refine lv_iconst (v := 2) cx.x cx.b d_Rd_readWords_8 (by decide) ?_
    rw [← hQ]
    exact hx_reti cx.x cx.b cx.r cx.k rfl hlo (fun _ h => h) (Nat.le_of_ble_eq_true rfl) (Nat.le_of_ble_eq_true rfl) d_Rd_readWords_9 (⟨rfl, l1, fun z => Nat.noConfusion z, ⟨_, _, _, _, _, _, d1⟩, hch, z1⟩)
  · refine lv_if_ne (tgt := 10) cx.x cx.b d_Rd_readWords_5 (by decide) (fun _ => ?_) (fun c => absurd c (by decide))
    rw [if_pos rfl] at hG
    refine lv_aload_n cx.x cx.b d_Rd_readWords_10 rfl (lv_at hl 0 rfl) ?_
    refine gf_Rd_12_Rd cx hR1.1 rfl d_Rd_readWords_11 ?_
    refine lv_aload_n cx.x cx.b d_Rd_readWords_14 rfl (lv_at hl 0 rfl) ?_
    refine lv_iload_n cx.x cx.b d_Rd_readWords_15 rfl (lv_at hl 1 rfl) ?_
    refine hx_calli (iv_Rd_108_Rd cx (c_Rd_kindHere l hE hS hR1 l1 hr1 hN0 hrk.2.1 hrk.2.2.1 h3 hO1 mem) hR1.1 rfl hl.1 rfl (Nat.le_of_ble_eq_true rfl) d_Rd_readWords_16 ⟨Nat.le_of_ble_eq_true rfl, Nat.le_of_ble_eq_true rfl⟩ ⟨Nat.le_of_ble_eq_true rfl, Nat.le_of_ble_eq_true rfl⟩) hlo (fun _ h => h) (fun r184 H183 locs hp182 hlo => ?_)
    obtain ⟨hp182, hH9⟩ := hp182
    have hH9 := hH9.symm
    subst hH9
    subst hp182
    refine pf_Rd_111_Dc cx d1.1 hlo hBd (Nat.le_of_ble_eq_true rfl) d_Rd_readWords_19 (fun H185 locs ho186 z_H185 o_H185 hlo => ?_)
    have ho186 : hOb (eD E) classes H185 dr.1 1 [.ref dr.2.1, .ref dr.2.2.2.1, .int (oI (kdH mem (wdO txt s1 e1))), .int (nI mq)] := ho186
    have kd : hCh (fun q => q = dr.1) H180 H185 := hCh.put z_H185 o_H185 rfl
    have d2 : Dr E H185 dr (oI (kdH mem (wdO txt s1 e1))) mq nx dx o1 o2 := ⟨ho186, d1.2.1.ch kd (ndn hN0 5 4 rfl rfl (by decide)) (ndn hN0 6 4 rfl rfl (by decide)), d1.2.2.1.ch kd (ndn hN0 7 4 rfl rfl (by decide)) (ndn hN0 8 4 rfl rfl (by decide)), hBd, hrk.1⟩
    have hch := hch.tr (kd.mono (S' := fun q => q = ln ∨ dcS dr q) (fun q _ e => Or.inr (Or.inl e)))
    have z2 := z_H185.trans z1
    have hR2 := hR.ch hch (fun q => by rcases q with e | e; exact (ndn hN0 0 1 rfl rfl (by decide)) e; exact nin hN0 0 (by decide) rfl (fpD_dc.mpr e))
    have hr2 := hr.ch hch (fun q => by rcases q with e | e; exact (ndn hN0 2 1 rfl rfl (by decide)) e; exact nin hN0 2 (by decide) rfl (fpD_dc.mpr e)) (fun q => by rcases q with e | e; exact (ndn hN0 3 1 rfl rfl (by decide)) e; exact nin hN0 3 (by decide) rfl (fpD_dc.mpr e))
    have hb2 := hb.ch hch (fun q => by rcases q with e | e; exact hbN (e ▸ List.mem_of_getElem? (i := 1) rfl); exact hbN (List.mem_cons_of_mem _ (List.mem_cons_of_mem _ (List.mem_cons_of_mem _ (List.mem_cons_of_mem _ (fpD_dc.mpr e))))))
    have hO2 := hO.ch hch hloS
    have l2 := l1.ch kd (ndn hN0 1 4 rfl rfl (by decide))
    cases hkd : kdH mem (wdO txt s1 e1)
    · rw [hkd] at d2 hG
      have d2 : Dr E H185 dr (-1) mq nx dx o1 o2 := d2
      have hG : (3, s1, e1, default) = G := hG
      refine lv_aload_n cx.x cx.b d_Rd_readWords_22 rfl (lv_at hl 0 rfl) ?_
      refine gf_Rd_12_Rd cx hR2.1 rfl d_Rd_readWords_23 ?_
      refine gf_Rd_111_Dc cx d2.1 rfl d_Rd_readWords_26 ?_
      refine lv_iconst (v := (-1)) cx.x cx.b d_Rd_readWords_29 (by decide) ?_
      refine lv_icmp_ne (tgt := 35) cx.x cx.b d_Rd_readWords_30 (by decide) (fun c => absurd (by decide) c) (fun _ => ?_)
      rw [← hG] at hQ
      refine lv_iconst (v := 3) cx.x cx.b d_Rd_readWords_33 (by decide) ?_
      rw [← hQ]
      exact hx_reti cx.x cx.b cx.r cx.k rfl hlo (fun _ h => h) (Nat.le_of_ble_eq_true rfl) (Nat.le_of_ble_eq_true rfl) d_Rd_readWords_34 (⟨rfl, l2, fun z => Nat.noConfusion z, ⟨_, _, _, _, _, _, d2⟩, hch, z2⟩)
    · rename_i kk
      rw [hkd] at d2 hG
      have d2 : Dr E H185 dr (nI kk) mq nx dx o1 o2 := d2
      have hkl := kdH_lt hkd
      have hk4 : nKinds mem ≤ 4 := by cases mem <;> decide
      have hG : rdW1 mem fm txt en mq kk e1 = G := hG
      unfold rdW1 at hG
      refine lv_aload_n cx.x cx.b d_Rd_readWords_22 rfl (lv_at hl 0 rfl) ?_
      refine gf_Rd_12_Rd cx hR2.1 rfl d_Rd_readWords_23 ?_
      refine gf_Rd_111_Dc cx d2.1 rfl d_Rd_readWords_26 ?_
      refine lv_iconst (v := (-1)) cx.x cx.b d_Rd_readWords_29 (by decide) ?_
      refine lv_icmp_ne (tgt := 35) cx.x cx.b d_Rd_readWords_30 (by decide) (fun _ => ?_) (fun c => absurd c (nI_nm1 (by omega)))
      have a1 := wdS_le (L := txt.take en) (i := e1) (by omega)
      have a2 := wdE_le (L := txt.take en) (i := wdS (txt.take en) e1) (by omega)
      refine lv_aload_n cx.x cx.b d_Rd_readWords_35 rfl (lv_at hl 0 rfl) ?_
      refine gf_Rd_23_Rd cx hR2.1 rfl d_Rd_readWords_36 ?_
      refine hx_callv (iv_Rd_89_Ln cx (c_Ln_toNextWord l hE l2 hr2 (ndn hN0 2 1 rfl rfl (by decide)) (ndn hN0 3 1 rfl rfl (by decide)) (by omega) h3) l2.1 rfl hl.1 rfl (Nat.le_of_ble_eq_true rfl) d_Rd_readWords_39 ⟨Nat.le_of_ble_eq_true rfl, Nat.le_of_ble_eq_true rfl⟩ ⟨Nat.le_of_ble_eq_true rfl, Nat.le_of_ble_eq_true rfl⟩) hlo (fun _ h => h) (fun H188 locs hp187 hlo => ?_)
      obtain ⟨l3, k3, z9⟩ := hp187
      generalize hs2 : wdS (txt.take en) e1 = s2 at a1 a2 hG l3
      generalize he2 : wdE (txt.take en) s2 = e2 at a2 hG l3
      have hch := hch.tr (k3.mono (S' := fun q => q = ln ∨ dcS dr q) (fun q _ e => Or.inl e))
      have z3 := z9.trans z2
      have hR3 := hR.ch hch (fun q => by rcases q with e | e; exact (ndn hN0 0 1 rfl rfl (by decide)) e; exact nin hN0 0 (by decide) rfl (fpD_dc.mpr e))
      have hr3 := hr.ch hch (fun q => by rcases q with e | e; exact (ndn hN0 2 1 rfl rfl (by decide)) e; exact nin hN0 2 (by decide) rfl (fpD_dc.mpr e)) (fun q => by rcases q with e | e; exact (ndn hN0 3 1 rfl rfl (by decide)) e; exact nin hN0 3 (by decide) rfl (fpD_dc.mpr e))
      have hb3 := hb.ch hch (fun q => by rcases q with e | e; exact hbN (e ▸ List.mem_of_getElem? (i := 1) rfl); exact hbN (List.mem_cons_of_mem _ (List.mem_cons_of_mem _ (List.mem_cons_of_mem _ (List.mem_cons_of_mem _ (fpD_dc.mpr e))))))
      have hO3 := hO.ch hch hloS
      have d3 := d2.ch k3 (dnl hN0)
      refine lv_aload_n cx.x cx.b d_Rd_readWords_42 rfl (lv_at hl 0 rfl) ?_
      refine gf_Rd_23_Rd cx hR3.1 rfl d_Rd_readWords_43 ?_
      refine lv_aload_n cx.x cx.b d_Rd_readWords_46 rfl (lv_at hl 0 rfl) ?_
      refine gf_Rd_12_Rd cx hR3.1 rfl d_Rd_readWords_47 ?_
      refine gf_Rd_114_Dc cx d3.1 rfl d_Rd_readWords_50 ?_
      refine lv_aload_n cx.x cx.b d_Rd_readWords_53 rfl (lv_at hl 0 rfl) ?_
      refine gf_Rd_27_Rd cx hR3.1 rfl d_Rd_readWords_54 ?_
      refine gf_Rd_99_Bl cx hb3 rfl d_Rd_readWords_57 ?_
      refine hx_callv (iv_Rd_118_Ln cx (c_Ln_copyName l hE l3 hr3 (ndn hN0 2 1 rfl rfl (by decide)) (ndn hN0 3 1 rfl rfl (by decide)) d3.2.1 (ndn hN0 1 5 rfl rfl (by decide)) (ndn hN0 1 6 rfl rfl (by decide)) (ndn hN0 2 5 rfl rfl (by decide)) (ndn hN0 2 6 rfl rfl (by decide)) (ndn hN0 3 5 rfl rfl (by decide)) (ndn hN0 3 6 rfl rfl (by decide)) (by omega) (by omega) (by omega)) l3.1 rfl hl.1 rfl (Nat.le_of_ble_eq_true rfl) d_Rd_readWords_60 ⟨Nat.le_of_ble_eq_true rfl, Nat.le_of_ble_eq_true rfl⟩ ⟨Nat.le_of_ble_eq_true rfl, Nat.le_of_ble_eq_true rfl⟩) hlo (fun _ h => h) (fun H190 locs hp189 hlo => ?_)
      obtain ⟨r4, k4, z9⟩ := hp189
      have r4 : Rw E H190 dr.2.1 dr.2.2.1 20 (cnR fm txt s2 e2).1 (cnR fm txt s2 e2).2 := r4
      generalize hnm9 : cnR fm txt s2 e2 = nm at r4 hG
      have hch := hch.tr (k4.mono (S' := fun q => q = ln ∨ dcS dr q) (fun q _ e => Or.inr (Or.inr (Or.inl e))))
      have z4 := z9.trans z3
      have hR4 := hR.ch hch (fun q => by rcases q with e | e; exact (ndn hN0 0 1 rfl rfl (by decide)) e; exact nin hN0 0 (by decide) rfl (fpD_dc.mpr e))
      have hr4 := hr.ch hch (fun q => by rcases q with e | e; exact (ndn hN0 2 1 rfl rfl (by decide)) e; exact nin hN0 2 (by decide) rfl (fpD_dc.mpr e)) (fun q => by rcases q with e | e; exact (ndn hN0 3 1 rfl rfl (by decide)) e; exact nin hN0 3 (by decide) rfl (fpD_dc.mpr e))
      have hb4 := hb.ch hch (fun q => by rcases q with e | e; exact hbN (e ▸ List.mem_of_getElem? (i := 1) rfl); exact hbN (List.mem_cons_of_mem _ (List.mem_cons_of_mem _ (List.mem_cons_of_mem _ (List.mem_cons_of_mem _ (fpD_dc.mpr e))))))
      have hO4 := hO.ch hch hloS
      have d4 : Dr E H190 dr (nI kk) mq nm.1 dx nm.2 o2 := ⟨d3.1.ch k4 (fun e => by rcases e with e | e; exact (ndn hN0 4 5 rfl rfl (by decide)) e; exact (ndn hN0 4 6 rfl rfl (by decide)) e), r4, d3.2.2.1.ch k4 (fun e => by rcases e with e | e; exact (ndn hN0 7 5 rfl rfl (by decide)) e; exact (ndn hN0 7 6 rfl rfl (by decide)) e) (fun e => by rcases e with e | e; exact (ndn hN0 8 5 rfl rfl (by decide)) e; exact (ndn hN0 8 6 rfl rfl (by decide)) e), hBd, hrk.1⟩
      have l4 := l3.ch k4 (fun e => by rcases e with e | e; exact (ndn hN0 1 5 rfl rfl (by decide)) e; exact (ndn hN0 1 6 rfl rfl (by decide)) e)
      cases mem
      · refine lv_aload_n cx.x cx.b d_Rd_readWords_63 rfl (lv_at hl 0 rfl) ?_
        refine gf_Rd_12_Rd cx hR4.1 rfl d_Rd_readWords_64 ?_
        refine gf_Rd_114_Dc cx d4.1 rfl d_Rd_readWords_67 ?_
        refine lv_iload_n cx.x cx.b d_Rd_readWords_70 rfl (lv_at hl 1 rfl) ?_
        refine lv_aload_n cx.x cx.b d_Rd_readWords_71 rfl (lv_at hl 0 rfl) ?_
        refine gf_Rd_12_Rd cx hR4.1 rfl d_Rd_readWords_72 ?_
        refine gf_Rd_111_Dc cx d4.1 rfl d_Rd_readWords_75 ?_
        refine hx_calli (iv_Rd_122 cx (c_Gr_isName_false l hE hS d4.2.1 hO4 (kd := kk) (by omega)) rfl hl.1 rfl (Nat.le_of_ble_eq_true rfl) d_Rd_readWords_78 ⟨Nat.le_of_ble_eq_true rfl, Nat.le_of_ble_eq_true rfl⟩ ⟨Nat.le_of_ble_eq_true rfl, Nat.le_of_ble_eq_true rfl⟩) hlo (fun _ h => h) (fun r193 H192 locs hp191 hlo => ?_)
        obtain ⟨hp191, hH9⟩ := hp191
        have hH9 := hH9.symm
        subst hH9
        have hp191 : r193 = bI (okN false kk nm) := hp191
        subst hp191
        cases hon : okN false kk nm
        · refine lv_if_ne (tgt := 86) cx.x cx.b d_Rd_readWords_81 (by decide) (fun c => absurd (by decide) c) (fun _ => ?_)
          rw [hon, if_neg (by decide)] at hG
          rw [← hG] at hQ
          refine lv_iconst (v := 4) cx.x cx.b d_Rd_readWords_84 (by decide) ?_
          rw [← hQ]
          exact hx_reti cx.x cx.b cx.r cx.k rfl hlo (fun _ h => h) (Nat.le_of_ble_eq_true rfl) (Nat.le_of_ble_eq_true rfl) d_Rd_readWords_85 (⟨rfl, l4, fun z => Nat.noConfusion z, ⟨_, _, _, _, _, _, d4⟩, hch, z4⟩)
        · refine lv_if_ne (tgt := 86) cx.x cx.b d_Rd_readWords_81 (by decide) (fun _ => ?_) (fun c => absurd c (by decide))
          rw [hon, if_pos rfl] at hG
          unfold rdW2 at hG
          have hnf : nm.2 = false := by rw [← hnm9] at hon ⊢; exact okN_fits hon
          have b1 := wdS_le (L := txt.take en) (i := e2) (by omega)
          have b2 := wdE_le (L := txt.take en) (i := wdS (txt.take en) e2) (by omega)
          refine lv_aload_n cx.x cx.b d_Rd_readWords_86 rfl (lv_at hl 0 rfl) ?_
          refine gf_Rd_23_Rd cx hR4.1 rfl d_Rd_readWords_87 ?_
          refine hx_callv (iv_Rd_89_Ln cx (c_Ln_toNextWord l hE l4 hr4 (ndn hN0 2 1 rfl rfl (by decide)) (ndn hN0 3 1 rfl rfl (by decide)) (by omega) h3) l4.1 rfl hl.1 rfl (Nat.le_of_ble_eq_true rfl) d_Rd_readWords_90 ⟨Nat.le_of_ble_eq_true rfl, Nat.le_of_ble_eq_true rfl⟩ ⟨Nat.le_of_ble_eq_true rfl, Nat.le_of_ble_eq_true rfl⟩) hlo (fun _ h => h) (fun H195 locs hp194 hlo => ?_)
          obtain ⟨l5, k5, z9⟩ := hp194
          have hch := hch.tr (k5.mono (S' := fun q => q = ln ∨ dcS dr q) (fun q _ e => Or.inl e))
          have z5 := z9.trans z4
          have hR5 := hR.ch hch (fun q => by rcases q with e | e; exact (ndn hN0 0 1 rfl rfl (by decide)) e; exact nin hN0 0 (by decide) rfl (fpD_dc.mpr e))
          have hr5 := hr.ch hch (fun q => by rcases q with e | e; exact (ndn hN0 2 1 rfl rfl (by decide)) e; exact nin hN0 2 (by decide) rfl (fpD_dc.mpr e)) (fun q => by rcases q with e | e; exact (ndn hN0 3 1 rfl rfl (by decide)) e; exact nin hN0 3 (by decide) rfl (fpD_dc.mpr e))
          have hb5 := hb.ch hch (fun q => by rcases q with e | e; exact hbN (e ▸ List.mem_of_getElem? (i := 1) rfl); exact hbN (List.mem_cons_of_mem _ (List.mem_cons_of_mem _ (List.mem_cons_of_mem _ (List.mem_cons_of_mem _ (fpD_dc.mpr e))))))
          have hO5 := hO.ch hch hloS
          have d5 := d4.ch k5 (dnl hN0)
          refine lv_aload_n cx.x cx.b d_Rd_readWords_93 rfl (lv_at hl 0 rfl) ?_
          refine gf_Rd_12_Rd cx hR5.1 rfl d_Rd_readWords_94 ?_
          refine gf_Rd_128_Dc cx d5.1 rfl d_Rd_readWords_97 ?_
          refine hx_callv (iv_Rd_131_Rw cx (c_Rw_empty l hE d5.2.2.1) d5.2.2.1.1 rfl hl.1 rfl (Nat.le_of_ble_eq_true rfl) d_Rd_readWords_100 ⟨Nat.le_of_ble_eq_true rfl, Nat.le_of_ble_eq_true rfl⟩ ⟨Nat.le_of_ble_eq_true rfl, Nat.le_of_ble_eq_true rfl⟩) hlo (fun _ h => h) (fun H197 locs hp196 hlo => ?_)
          obtain ⟨r6, k6, z9⟩ := hp196
          have hch := hch.tr (k6.mono (S' := fun q => q = ln ∨ dcS dr q) (fun q _ e => Or.inr (Or.inr (Or.inr e))))
          have z6 := z9.trans z5
          have hR6 := hR.ch hch (fun q => by rcases q with e | e; exact (ndn hN0 0 1 rfl rfl (by decide)) e; exact nin hN0 0 (by decide) rfl (fpD_dc.mpr e))
          have hr6 := hr.ch hch (fun q => by rcases q with e | e; exact (ndn hN0 2 1 rfl rfl (by decide)) e; exact nin hN0 2 (by decide) rfl (fpD_dc.mpr e)) (fun q => by rcases q with e | e; exact (ndn hN0 3 1 rfl rfl (by decide)) e; exact nin hN0 3 (by decide) rfl (fpD_dc.mpr e))
          have hb6 := hb.ch hch (fun q => by rcases q with e | e; exact hbN (e ▸ List.mem_of_getElem? (i := 1) rfl); exact hbN (List.mem_cons_of_mem _ (List.mem_cons_of_mem _ (List.mem_cons_of_mem _ (List.mem_cons_of_mem _ (fpD_dc.mpr e))))))
          have hO6 := hO.ch hch hloS
          have d6 : Dr E H197 dr (nI kk) mq nm.1 [] nm.2 false := ⟨d5.1.ch k6 (fun e => by rcases e with e | e; exact (ndn hN0 4 7 rfl rfl (by decide)) e; exact (ndn hN0 4 8 rfl rfl (by decide)) e), d5.2.1.ch k6 (fun e => by rcases e with e | e; exact (ndn hN0 5 7 rfl rfl (by decide)) e; exact (ndn hN0 5 8 rfl rfl (by decide)) e) (fun e => by rcases e with e | e; exact (ndn hN0 6 7 rfl rfl (by decide)) e; exact (ndn hN0 6 8 rfl rfl (by decide)) e), r6, hBd, hrk.1⟩
          have l6 := l5.ch k6 (fun e => by rcases e with e | e; exact (ndn hN0 1 7 rfl rfl (by decide)) e; exact (ndn hN0 1 8 rfl rfl (by decide)) e)
          generalize hs3 : wdS (txt.take en) e2 = s3 at b1 b2 hG l6
          generalize he3 : wdE (txt.take en) s3 = e3 at b2 hG l6
          refine lv_iload_n cx.x cx.b d_Rd_readWords_103 rfl (lv_at hl 1 rfl) ?_
          refine lv_if_eq (tgt := 176) cx.x cx.b d_Rd_readWords_104 (by decide) (fun _ => ?_) (fun c => absurd (by decide) c)
          rw [if_neg (by decide)] at hG
          unfold rdW3 at hG
          rw [hs3, he3] at hG
          refine lv_aload_n cx.x cx.b d_Rd_readWords_176 rfl (lv_at hl 0 rfl) ?_
          refine gf_Rd_23_Rd cx hR6.1 rfl d_Rd_readWords_177 ?_
          refine hx_calli (iv_Rd_96_Ln cx (c_Ln_hasWord l hE l6 (by omega) (by omega)) l6.1 rfl hl.1 rfl (Nat.le_of_ble_eq_true rfl) d_Rd_readWords_180 ⟨Nat.le_of_ble_eq_true rfl, Nat.le_of_ble_eq_true rfl⟩ ⟨Nat.le_of_ble_eq_true rfl, Nat.le_of_ble_eq_true rfl⟩) hlo (fun _ h => h) (fun r200 H199 locs hp198 hlo => ?_)
          obtain ⟨hp198, hH9⟩ := hp198
          have hH9 := hH9.symm
          subst hH9
          subst hp198
          by_cases c9 : s3 < e3
          · rw [show decide (s3 < e3) = true from decide_eq_true c9]
            rw [if_pos c9] at hG
            rw [← hG] at hQ
            refine lv_if_eq (tgt := 191) cx.x cx.b d_Rd_readWords_183 (by decide) (fun c => absurd c (by decide)) (fun _ => ?_)
            refine lv_bipush (v := 6) cx.x cx.b d_Rd_readWords_186 (by decide) ?_
            refine lv_goto (tgt := 192) cx.x cx.b d_Rd_readWords_188 (by decide) ?_
            rw [← hQ]
            exact hx_reti cx.x cx.b cx.r cx.k rfl hlo (fun _ h => h) (Nat.le_of_ble_eq_true rfl) (Nat.le_of_ble_eq_true rfl) d_Rd_readWords_192 (⟨rfl, l6, fun z => Nat.noConfusion z, ⟨_, _, _, _, _, _, d6⟩, hch, z6⟩)
          · rw [show decide (s3 < e3) = false from decide_eq_false c9]
            rw [if_neg c9] at hG
            rw [← hG] at hQ
            refine lv_if_eq (tgt := 191) cx.x cx.b d_Rd_readWords_183 (by decide) (fun _ => ?_) (fun c => absurd (by decide) c)
            refine lv_iconst (v := 0) cx.x cx.b d_Rd_readWords_191 (by decide) ?_
            rw [← hQ]
            exact hx_reti cx.x cx.b cx.r cx.k rfl hlo (fun _ h => h) (Nat.le_of_ble_eq_true rfl) (Nat.le_of_ble_eq_true rfl) d_Rd_readWords_192 (⟨rfl, l6, fun _ => ⟨by have := d6.dc (by omega) hndD; rw [hnf] at this; exact this, hkl⟩, ⟨_, _, _, _, _, _, d6⟩, hch, z6⟩)
      · refine lv_aload_n cx.x cx.b d_Rd_readWords_63 rfl (lv_at hl 0 rfl) ?_
        refine gf_Rd_12_Rd cx hR4.1 rfl d_Rd_readWords_64 ?_
        refine gf_Rd_114_Dc cx d4.1 rfl d_Rd_readWords_67 ?_
        refine lv_iload_n cx.x cx.b d_Rd_readWords_70 rfl (lv_at hl 1 rfl) ?_
        refine lv_aload_n cx.x cx.b d_Rd_readWords_71 rfl (lv_at hl 0 rfl) ?_
        refine gf_Rd_12_Rd cx hR4.1 rfl d_Rd_readWords_72 ?_
        refine gf_Rd_111_Dc cx d4.1 rfl d_Rd_readWords_75 ?_
        refine hx_calli (iv_Rd_122 cx (c_Gr_isName_true l hE hS d4.2.1 hO4 (kd := kk) (by omega)) rfl hl.1 rfl (Nat.le_of_ble_eq_true rfl) d_Rd_readWords_78 ⟨Nat.le_of_ble_eq_true rfl, Nat.le_of_ble_eq_true rfl⟩ ⟨Nat.le_of_ble_eq_true rfl, Nat.le_of_ble_eq_true rfl⟩) hlo (fun _ h => h) (fun r203 H202 locs hp201 hlo => ?_)
        obtain ⟨hp201, hH9⟩ := hp201
        have hH9 := hH9.symm
        subst hH9
        have hp201 : r203 = bI (okN true kk nm) := hp201
        subst hp201
        cases hon : okN true kk nm
        · refine lv_if_ne (tgt := 86) cx.x cx.b d_Rd_readWords_81 (by decide) (fun c => absurd (by decide) c) (fun _ => ?_)
          rw [hon, if_neg (by decide)] at hG
          rw [← hG] at hQ
          refine lv_iconst (v := 4) cx.x cx.b d_Rd_readWords_84 (by decide) ?_
          rw [← hQ]
          exact hx_reti cx.x cx.b cx.r cx.k rfl hlo (fun _ h => h) (Nat.le_of_ble_eq_true rfl) (Nat.le_of_ble_eq_true rfl) d_Rd_readWords_85 (⟨rfl, l4, fun z => Nat.noConfusion z, ⟨_, _, _, _, _, _, d4⟩, hch, z4⟩)
        · refine lv_if_ne (tgt := 86) cx.x cx.b d_Rd_readWords_81 (by decide) (fun _ => ?_) (fun c => absurd c (by decide))
          rw [hon, if_pos rfl] at hG
          unfold rdW2 at hG
          have hnf : nm.2 = false := by rw [← hnm9] at hon ⊢; exact okN_fits hon
          have b1 := wdS_le (L := txt.take en) (i := e2) (by omega)
          have b2 := wdE_le (L := txt.take en) (i := wdS (txt.take en) e2) (by omega)
          refine lv_aload_n cx.x cx.b d_Rd_readWords_86 rfl (lv_at hl 0 rfl) ?_
          refine gf_Rd_23_Rd cx hR4.1 rfl d_Rd_readWords_87 ?_
          refine hx_callv (iv_Rd_89_Ln cx (c_Ln_toNextWord l hE l4 hr4 (ndn hN0 2 1 rfl rfl (by decide)) (ndn hN0 3 1 rfl rfl (by decide)) (by omega) h3) l4.1 rfl hl.1 rfl (Nat.le_of_ble_eq_true rfl) d_Rd_readWords_90 ⟨Nat.le_of_ble_eq_true rfl, Nat.le_of_ble_eq_true rfl⟩ ⟨Nat.le_of_ble_eq_true rfl, Nat.le_of_ble_eq_true rfl⟩) hlo (fun _ h => h) (fun H205 locs hp204 hlo => ?_)
          obtain ⟨l5, k5, z9⟩ := hp204
          have hch := hch.tr (k5.mono (S' := fun q => q = ln ∨ dcS dr q) (fun q _ e => Or.inl e))
          have z5 := z9.trans z4
          have hR5 := hR.ch hch (fun q => by rcases q with e | e; exact (ndn hN0 0 1 rfl rfl (by decide)) e; exact nin hN0 0 (by decide) rfl (fpD_dc.mpr e))
          have hr5 := hr.ch hch (fun q => by rcases q with e | e; exact (ndn hN0 2 1 rfl rfl (by decide)) e; exact nin hN0 2 (by decide) rfl (fpD_dc.mpr e)) (fun q => by rcases q with e | e; exact (ndn hN0 3 1 rfl rfl (by decide)) e; exact nin hN0 3 (by decide) rfl (fpD_dc.mpr e))
          have hb5 := hb.ch hch (fun q => by rcases q with e | e; exact hbN (e ▸ List.mem_of_getElem? (i := 1) rfl); exact hbN (List.mem_cons_of_mem _ (List.mem_cons_of_mem _ (List.mem_cons_of_mem _ (List.mem_cons_of_mem _ (fpD_dc.mpr e))))))
          have hO5 := hO.ch hch hloS
          have d5 := d4.ch k5 (dnl hN0)
          refine lv_aload_n cx.x cx.b d_Rd_readWords_93 rfl (lv_at hl 0 rfl) ?_
          refine gf_Rd_12_Rd cx hR5.1 rfl d_Rd_readWords_94 ?_
          refine gf_Rd_128_Dc cx d5.1 rfl d_Rd_readWords_97 ?_
          refine hx_callv (iv_Rd_131_Rw cx (c_Rw_empty l hE d5.2.2.1) d5.2.2.1.1 rfl hl.1 rfl (Nat.le_of_ble_eq_true rfl) d_Rd_readWords_100 ⟨Nat.le_of_ble_eq_true rfl, Nat.le_of_ble_eq_true rfl⟩ ⟨Nat.le_of_ble_eq_true rfl, Nat.le_of_ble_eq_true rfl⟩) hlo (fun _ h => h) (fun H207 locs hp206 hlo => ?_)
          obtain ⟨r6, k6, z9⟩ := hp206
          have hch := hch.tr (k6.mono (S' := fun q => q = ln ∨ dcS dr q) (fun q _ e => Or.inr (Or.inr (Or.inr e))))
          have z6 := z9.trans z5
          have hR6 := hR.ch hch (fun q => by rcases q with e | e; exact (ndn hN0 0 1 rfl rfl (by decide)) e; exact nin hN0 0 (by decide) rfl (fpD_dc.mpr e))
          have hr6 := hr.ch hch (fun q => by rcases q with e | e; exact (ndn hN0 2 1 rfl rfl (by decide)) e; exact nin hN0 2 (by decide) rfl (fpD_dc.mpr e)) (fun q => by rcases q with e | e; exact (ndn hN0 3 1 rfl rfl (by decide)) e; exact nin hN0 3 (by decide) rfl (fpD_dc.mpr e))
          have hb6 := hb.ch hch (fun q => by rcases q with e | e; exact hbN (e ▸ List.mem_of_getElem? (i := 1) rfl); exact hbN (List.mem_cons_of_mem _ (List.mem_cons_of_mem _ (List.mem_cons_of_mem _ (List.mem_cons_of_mem _ (fpD_dc.mpr e))))))
          have hO6 := hO.ch hch hloS
          have d6 : Dr E H207 dr (nI kk) mq nm.1 [] nm.2 false := ⟨d5.1.ch k6 (fun e => by rcases e with e | e; exact (ndn hN0 4 7 rfl rfl (by decide)) e; exact (ndn hN0 4 8 rfl rfl (by decide)) e), d5.2.1.ch k6 (fun e => by rcases e with e | e; exact (ndn hN0 5 7 rfl rfl (by decide)) e; exact (ndn hN0 5 8 rfl rfl (by decide)) e) (fun e => by rcases e with e | e; exact (ndn hN0 6 7 rfl rfl (by decide)) e; exact (ndn hN0 6 8 rfl rfl (by decide)) e), r6, hBd, hrk.1⟩
          have l6 := l5.ch k6 (fun e => by rcases e with e | e; exact (ndn hN0 1 7 rfl rfl (by decide)) e; exact (ndn hN0 1 8 rfl rfl (by decide)) e)
          generalize hs3 : wdS (txt.take en) e2 = s3 at b1 b2 hG l6
          generalize he3 : wdE (txt.take en) s3 = e3 at b2 hG l6
          refine lv_iload_n cx.x cx.b d_Rd_readWords_103 rfl (lv_at hl 1 rfl) ?_
          refine lv_if_eq (tgt := 176) cx.x cx.b d_Rd_readWords_104 (by decide) (fun c => absurd c (by decide)) (fun _ => ?_)
          rw [if_pos rfl] at hG
          refine lv_aload_n cx.x cx.b d_Rd_readWords_107 rfl (lv_at hl 0 rfl) ?_
          refine gf_Rd_23_Rd cx hR6.1 rfl d_Rd_readWords_108 ?_
          refine lv_aload_n cx.x cx.b d_Rd_readWords_111 rfl (lv_at hl 0 rfl) ?_
          refine gf_Rd_12_Rd cx hR6.1 rfl d_Rd_readWords_112 ?_
          refine gf_Rd_128_Dc cx d6.1 rfl d_Rd_readWords_115 ?_
          refine lv_aload_n cx.x cx.b d_Rd_readWords_118 rfl (lv_at hl 0 rfl) ?_
          refine gf_Rd_27_Rd cx hR6.1 rfl d_Rd_readWords_119 ?_
          refine gf_Rd_99_Bl cx hb6 rfl d_Rd_readWords_122 ?_
          refine hx_callv (iv_Rd_118_Ln cx (c_Ln_copyName l hE l6 hr6 (ndn hN0 2 1 rfl rfl (by decide)) (ndn hN0 3 1 rfl rfl (by decide)) d6.2.2.1 (ndn hN0 1 7 rfl rfl (by decide)) (ndn hN0 1 8 rfl rfl (by decide)) (ndn hN0 2 7 rfl rfl (by decide)) (ndn hN0 2 8 rfl rfl (by decide)) (ndn hN0 3 7 rfl rfl (by decide)) (ndn hN0 3 8 rfl rfl (by decide)) (by omega) (by omega) (by omega)) l6.1 rfl hl.1 rfl (Nat.le_of_ble_eq_true rfl) d_Rd_readWords_125 ⟨Nat.le_of_ble_eq_true rfl, Nat.le_of_ble_eq_true rfl⟩ ⟨Nat.le_of_ble_eq_true rfl, Nat.le_of_ble_eq_true rfl⟩) hlo (fun _ h => h) (fun H209 locs hp208 hlo => ?_)
          obtain ⟨r7, k7, z9⟩ := hp208
          have r7 : Rw E H209 dr.2.2.2.1 dr.2.2.2.2 20 (cnR fm txt s3 e3).1 (cnR fm txt s3 e3).2 := r7
          generalize hds9 : cnR fm txt s3 e3 = dd at r7 hG
          have hch := hch.tr (k7.mono (S' := fun q => q = ln ∨ dcS dr q) (fun q _ e => Or.inr (Or.inr (Or.inr e))))
          have z7 := z9.trans z6
          have hR7 := hR.ch hch (fun q => by rcases q with e | e; exact (ndn hN0 0 1 rfl rfl (by decide)) e; exact nin hN0 0 (by decide) rfl (fpD_dc.mpr e))
          have hr7 := hr.ch hch (fun q => by rcases q with e | e; exact (ndn hN0 2 1 rfl rfl (by decide)) e; exact nin hN0 2 (by decide) rfl (fpD_dc.mpr e)) (fun q => by rcases q with e | e; exact (ndn hN0 3 1 rfl rfl (by decide)) e; exact nin hN0 3 (by decide) rfl (fpD_dc.mpr e))
          have hb7 := hb.ch hch (fun q => by rcases q with e | e; exact hbN (e ▸ List.mem_of_getElem? (i := 1) rfl); exact hbN (List.mem_cons_of_mem _ (List.mem_cons_of_mem _ (List.mem_cons_of_mem _ (List.mem_cons_of_mem _ (fpD_dc.mpr e))))))
          have hO7 := hO.ch hch hloS
          have d7 : Dr E H209 dr (nI kk) mq nm.1 dd.1 nm.2 dd.2 := ⟨d6.1.ch k7 (fun e => by rcases e with e | e; exact (ndn hN0 4 7 rfl rfl (by decide)) e; exact (ndn hN0 4 8 rfl rfl (by decide)) e), d6.2.1.ch k7 (fun e => by rcases e with e | e; exact (ndn hN0 5 7 rfl rfl (by decide)) e; exact (ndn hN0 5 8 rfl rfl (by decide)) e) (fun e => by rcases e with e | e; exact (ndn hN0 6 7 rfl rfl (by decide)) e; exact (ndn hN0 6 8 rfl rfl (by decide)) e), r7, hBd, hrk.1⟩
          have l7 := l6.ch k7 (fun e => by rcases e with e | e; exact (ndn hN0 1 7 rfl rfl (by decide)) e; exact (ndn hN0 1 8 rfl rfl (by decide)) e)
          refine lv_aload_n cx.x cx.b d_Rd_readWords_128 rfl (lv_at hl 0 rfl) ?_
          refine gf_Rd_12_Rd cx hR7.1 rfl d_Rd_readWords_129 ?_
          refine gf_Rd_111_Dc cx d7.1 rfl d_Rd_readWords_132 ?_
          refine lv_iconst (v := 1) cx.x cx.b d_Rd_readWords_135 (by decide) ?_
          refine lv_icmp_ne (tgt := 152) cx.x cx.b d_Rd_readWords_136 (by decide) (fun c5 => ?_) (fun c5 => ?_)
          · have c5 : kk ≠ 1 := fun zz => c5 ((nI_eq (a := kk) (b := 1) (by omega) (by omega)).mpr zz)
            refine lv_aload_n cx.x cx.b d_Rd_readWords_152 rfl (lv_at hl 0 rfl) ?_
            refine gf_Rd_12_Rd cx hR7.1 rfl d_Rd_readWords_153 ?_
            refine gf_Rd_128_Dc cx d7.1 rfl d_Rd_readWords_156 ?_
            refine hx_calli (iv_Rd_140 cx (c_Gr_isFieldDescriptor l hE d7.2.2.1) rfl hl.1 rfl (Nat.le_of_ble_eq_true rfl) d_Rd_readWords_159 ⟨Nat.le_of_ble_eq_true rfl, Nat.le_of_ble_eq_true rfl⟩ ⟨Nat.le_of_ble_eq_true rfl, Nat.le_of_ble_eq_true rfl⟩) hlo (fun _ h => h) (fun r212 H211 locs hp210 hlo => ?_)
            obtain ⟨hp210, hH9⟩ := hp210
            have hH9 := hH9.symm
            subst hH9
            have hp210 : r212 = bI (okD kk dd) := by rw [hp210]; unfold okD; rw [if_neg c5]
            subst hp210
            refine lv_istore_n (lv' := [(2, .int (bI (okD kk dd))), (0, .ref rd), (1, .int (bI true))]) cx.x cx.b d_Rd_readWords_162 rfl hl (by decide) rfl (fun ls hl => ?_)
            refine lv_iload_n cx.x cx.b d_Rd_readWords_163 rfl (lv_at hl 0 rfl) ?_
            cases hod : okD kk dd
            · rw [hod] at hl
              refine lv_if_ne (tgt := 169) cx.x cx.b d_Rd_readWords_164 (by decide) (fun c => absurd (by decide) c) (fun _ => ?_)
              rw [hod, if_neg (by decide)] at hG
              rw [← hG] at hQ
              refine lv_iconst (v := 5) cx.x cx.b d_Rd_readWords_167 (by decide) ?_
              rw [← hQ]
              exact hx_reti cx.x cx.b cx.r cx.k rfl hlo (fun _ h => h) (Nat.le_of_ble_eq_true rfl) (Nat.le_of_ble_eq_true rfl) d_Rd_readWords_168 (⟨rfl, l7, fun z => Nat.noConfusion z, ⟨_, _, _, _, _, _, d7⟩, hch, z7⟩)
            · rw [hod] at hl
              refine lv_if_ne (tgt := 169) cx.x cx.b d_Rd_readWords_164 (by decide) (fun _ => ?_) (fun c => absurd c (by decide))
              rw [hod, if_pos rfl] at hG
              unfold rdW3 at hG
              have hdf := okD_fits hod
              have g1 := wdS_le (L := txt.take en) (i := e3) (by omega)
              have g2 := wdE_le (L := txt.take en) (i := wdS (txt.take en) e3) (by omega)
              refine lv_aload_n cx.x cx.b d_Rd_readWords_169 rfl (lv_at hl 1 rfl) ?_
              refine gf_Rd_23_Rd cx hR7.1 rfl d_Rd_readWords_170 ?_
              refine hx_callv (iv_Rd_89_Ln cx (c_Ln_toNextWord l hE l7 hr7 (ndn hN0 2 1 rfl rfl (by decide)) (ndn hN0 3 1 rfl rfl (by decide)) (by omega) h3) l7.1 rfl hl.1 rfl (Nat.le_of_ble_eq_true rfl) d_Rd_readWords_173 ⟨Nat.le_of_ble_eq_true rfl, Nat.le_of_ble_eq_true rfl⟩ ⟨Nat.le_of_ble_eq_true rfl, Nat.le_of_ble_eq_true rfl⟩) hlo (fun _ h => h) (fun H214 locs hp213 hlo => ?_)
              obtain ⟨l8, k8, z9⟩ := hp213
              generalize hs4 : wdS (txt.take en) e3 = s4 at g1 g2 hG l8
              generalize he4 : wdE (txt.take en) s4 = e4 at g2 hG l8
              have hch := hch.tr (k8.mono (S' := fun q => q = ln ∨ dcS dr q) (fun q _ e => Or.inl e))
              have z8 := z9.trans z7
              have hR8 := hR.ch hch (fun q => by rcases q with e | e; exact (ndn hN0 0 1 rfl rfl (by decide)) e; exact nin hN0 0 (by decide) rfl (fpD_dc.mpr e))
              have hr8 := hr.ch hch (fun q => by rcases q with e | e; exact (ndn hN0 2 1 rfl rfl (by decide)) e; exact nin hN0 2 (by decide) rfl (fpD_dc.mpr e)) (fun q => by rcases q with e | e; exact (ndn hN0 3 1 rfl rfl (by decide)) e; exact nin hN0 3 (by decide) rfl (fpD_dc.mpr e))
              have hb8 := hb.ch hch (fun q => by rcases q with e | e; exact hbN (e ▸ List.mem_of_getElem? (i := 1) rfl); exact hbN (List.mem_cons_of_mem _ (List.mem_cons_of_mem _ (List.mem_cons_of_mem _ (List.mem_cons_of_mem _ (fpD_dc.mpr e))))))
              have hO8 := hO.ch hch hloS
              have d8 := d7.ch k8 (dnl hN0)
              refine lv_aload_n cx.x cx.b d_Rd_readWords_176 rfl (lv_at hl 1 rfl) ?_
              refine gf_Rd_23_Rd cx hR8.1 rfl d_Rd_readWords_177 ?_
              refine hx_calli (iv_Rd_96_Ln cx (c_Ln_hasWord l hE l8 (by omega) (by omega)) l8.1 rfl hl.1 rfl (Nat.le_of_ble_eq_true rfl) d_Rd_readWords_180 ⟨Nat.le_of_ble_eq_true rfl, Nat.le_of_ble_eq_true rfl⟩ ⟨Nat.le_of_ble_eq_true rfl, Nat.le_of_ble_eq_true rfl⟩) hlo (fun _ h => h) (fun r217 H216 locs hp215 hlo => ?_)
              obtain ⟨hp215, hH9⟩ := hp215
              have hH9 := hH9.symm
              subst hH9
              subst hp215
              by_cases c9 : s4 < e4
              · rw [show decide (s4 < e4) = true from decide_eq_true c9]
                rw [if_pos c9] at hG
                rw [← hG] at hQ
                refine lv_if_eq (tgt := 191) cx.x cx.b d_Rd_readWords_183 (by decide) (fun c => absurd c (by decide)) (fun _ => ?_)
                refine lv_bipush (v := 6) cx.x cx.b d_Rd_readWords_186 (by decide) ?_
                refine lv_goto (tgt := 192) cx.x cx.b d_Rd_readWords_188 (by decide) ?_
                rw [← hQ]
                exact hx_reti cx.x cx.b cx.r cx.k rfl hlo (fun _ h => h) (Nat.le_of_ble_eq_true rfl) (Nat.le_of_ble_eq_true rfl) d_Rd_readWords_192 (⟨rfl, l8, fun z => Nat.noConfusion z, ⟨_, _, _, _, _, _, d8⟩, hch, z8⟩)
              · rw [show decide (s4 < e4) = false from decide_eq_false c9]
                rw [if_neg c9] at hG
                rw [← hG] at hQ
                refine lv_if_eq (tgt := 191) cx.x cx.b d_Rd_readWords_183 (by decide) (fun _ => ?_) (fun c => absurd (by decide) c)
                refine lv_iconst (v := 0) cx.x cx.b d_Rd_readWords_191 (by decide) ?_
                rw [← hQ]
                exact hx_reti cx.x cx.b cx.r cx.k rfl hlo (fun _ h => h) (Nat.le_of_ble_eq_true rfl) (Nat.le_of_ble_eq_true rfl) d_Rd_readWords_192 (⟨rfl, l8, fun _ => ⟨by have := d8.dc (by omega) hndD; rw [hnf, hdf] at this; exact this, hkl⟩, ⟨_, _, _, _, _, _, d8⟩, hch, z8⟩)
          · have c5 : kk = 1 := (nI_eq (a := kk) (b := 1) (by omega) (by omega)).mp c5
            refine lv_aload_n cx.x cx.b d_Rd_readWords_139 rfl (lv_at hl 0 rfl) ?_
            refine gf_Rd_12_Rd cx hR7.1 rfl d_Rd_readWords_140 ?_
            refine gf_Rd_128_Dc cx d7.1 rfl d_Rd_readWords_143 ?_
            refine hx_calli (iv_Rd_136 cx (c_Gr_isMethodDescriptor l hE d7.2.2.1) rfl hl.1 rfl (Nat.le_of_ble_eq_true rfl) d_Rd_readWords_146 ⟨Nat.le_of_ble_eq_true rfl, Nat.le_of_ble_eq_true rfl⟩ ⟨Nat.le_of_ble_eq_true rfl, Nat.le_of_ble_eq_true rfl⟩) hlo (fun _ h => h) (fun r220 H219 locs hp218 hlo => ?_)
            obtain ⟨hp218, hH9⟩ := hp218
            have hH9 := hH9.symm
            subst hH9
            have hp218 : r220 = bI (okD kk dd) := by rw [hp218]; unfold okD; rw [if_pos c5]
            subst hp218
            refine lv_goto (tgt := 162) cx.x cx.b d_Rd_readWords_149 (by decide) ?_
            refine lv_istore_n (lv' := [(2, .int (bI (okD kk dd))), (0, .ref rd), (1, .int (bI true))]) cx.x cx.b d_Rd_readWords_162 rfl hl (by decide) rfl (fun ls hl => ?_)
            refine lv_iload_n cx.x cx.b d_Rd_readWords_163 rfl (lv_at hl 0 rfl) ?_
            cases hod : okD kk dd
            · rw [hod] at hl
              refine lv_if_ne (tgt := 169) cx.x cx.b d_Rd_readWords_164 (by decide) (fun c => absurd (by decide) c) (fun _ => ?_)
              rw [hod, if_neg (by decide)] at hG
              rw [← hG] at hQ
              refine lv_iconst (v := 5) cx.x cx.b d_Rd_readWords_167 (by decide) ?_
              rw [← hQ]
              exact hx_reti cx.x cx.b cx.r cx.k rfl hlo (fun _ h => h) (Nat.le_of_ble_eq_true rfl) (Nat.le_of_ble_eq_true rfl) d_Rd_readWords_168 (⟨rfl, l7, fun z => Nat.noConfusion z, ⟨_, _, _, _, _, _, d7⟩, hch, z7⟩)
            · rw [hod] at hl
              refine lv_if_ne (tgt := 169) cx.x cx.b d_Rd_readWords_164 (by decide) (fun _ => ?_) (fun c => absurd c (by decide))
              rw [hod, if_pos rfl] at hG
              unfold rdW3 at hG
              have hdf := okD_fits hod
              have g1 := wdS_le (L := txt.take en) (i := e3) (by omega)
              have g2 := wdE_le (L := txt.take en) (i := wdS (txt.take en) e3) (by omega)
              refine lv_aload_n cx.x cx.b d_Rd_readWords_169 rfl (lv_at hl 1 rfl) ?_
              refine gf_Rd_23_Rd cx hR7.1 rfl d_Rd_readWords_170 ?_
              refine hx_callv (iv_Rd_89_Ln cx (c_Ln_toNextWord l hE l7 hr7 (ndn hN0 2 1 rfl rfl (by decide)) (ndn hN0 3 1 rfl rfl (by decide)) (by omega) h3) l7.1 rfl hl.1 rfl (Nat.le_of_ble_eq_true rfl) d_Rd_readWords_173 ⟨Nat.le_of_ble_eq_true rfl, Nat.le_of_ble_eq_true rfl⟩ ⟨Nat.le_of_ble_eq_true rfl, Nat.le_of_ble_eq_true rfl⟩) hlo (fun _ h => h) (fun H222 locs hp221 hlo => ?_)
              obtain ⟨l8, k8, z9⟩ := hp221
              generalize hs4 : wdS (txt.take en) e3 = s4 at g1 g2 hG l8
              generalize he4 : wdE (txt.take en) s4 = e4 at g2 hG l8
              have hch := hch.tr (k8.mono (S' := fun q => q = ln ∨ dcS dr q) (fun q _ e => Or.inl e))
              have z8 := z9.trans z7
              have hR8 := hR.ch hch (fun q => by rcases q with e | e; exact (ndn hN0 0 1 rfl rfl (by decide)) e; exact nin hN0 0 (by decide) rfl (fpD_dc.mpr e))
              have hr8 := hr.ch hch (fun q => by rcases q with e | e; exact (ndn hN0 2 1 rfl rfl (by decide)) e; exact nin hN0 2 (by decide) rfl (fpD_dc.mpr e)) (fun q => by rcases q with e | e; exact (ndn hN0 3 1 rfl rfl (by decide)) e; exact nin hN0 3 (by decide) rfl (fpD_dc.mpr e))
              have hb8 := hb.ch hch (fun q => by rcases q with e | e; exact hbN (e ▸ List.mem_of_getElem? (i := 1) rfl); exact hbN (List.mem_cons_of_mem _ (List.mem_cons_of_mem _ (List.mem_cons_of_mem _ (List.mem_cons_of_mem _ (fpD_dc.mpr e))))))
              have hO8 := hO.ch hch hloS
              have d8 := d7.ch k8 (dnl hN0)
              refine lv_aload_n cx.x cx.b d_Rd_readWords_176 rfl (lv_at hl 1 rfl) ?_
              refine gf_Rd_23_Rd cx hR8.1 rfl d_Rd_readWords_177 ?_
              refine hx_calli (iv_Rd_96_Ln cx (c_Ln_hasWord l hE l8 (by omega) (by omega)) l8.1 rfl hl.1 rfl (Nat.le_of_ble_eq_true rfl) d_Rd_readWords_180 ⟨Nat.le_of_ble_eq_true rfl, Nat.le_of_ble_eq_true rfl⟩ ⟨Nat.le_of_ble_eq_true rfl, Nat.le_of_ble_eq_true rfl⟩) hlo (fun _ h => h) (fun r225 H224 locs hp223 hlo => ?_)
              obtain ⟨hp223, hH9⟩ := hp223
              have hH9 := hH9.symm
              subst hH9
              subst hp223
              by_cases c9 : s4 < e4
              · rw [show decide (s4 < e4) = true from decide_eq_true c9]
                rw [if_pos c9] at hG
                rw [← hG] at hQ
                refine lv_if_eq (tgt := 191) cx.x cx.b d_Rd_readWords_183 (by decide) (fun c => absurd c (by decide)) (fun _ => ?_)
                refine lv_bipush (v := 6) cx.x cx.b d_Rd_readWords_186 (by decide) ?_
                refine lv_goto (tgt := 192) cx.x cx.b d_Rd_readWords_188 (by decide) ?_
                rw [← hQ]
                exact hx_reti cx.x cx.b cx.r cx.k rfl hlo (fun _ h => h) (Nat.le_of_ble_eq_true rfl) (Nat.le_of_ble_eq_true rfl) d_Rd_readWords_192 (⟨rfl, l8, fun z => Nat.noConfusion z, ⟨_, _, _, _, _, _, d8⟩, hch, z8⟩)
              · rw [show decide (s4 < e4) = false from decide_eq_false c9]
                rw [if_neg c9] at hG
                rw [← hG] at hQ
                refine lv_if_eq (tgt := 191) cx.x cx.b d_Rd_readWords_183 (by decide) (fun _ => ?_) (fun c => absurd (by decide) c)
                refine lv_iconst (v := 0) cx.x cx.b d_Rd_readWords_191 (by decide) ?_
                rw [← hQ]
                exact hx_reti cx.x cx.b cx.r cx.k rfl hlo (fun _ h => h) (Nat.le_of_ble_eq_true rfl) (Nat.le_of_ble_eq_true rfl) d_Rd_readWords_192 (⟨rfl, l8, fun _ => ⟨by have := d8.dc (by omega) hndD; rw [hnf, hdf] at this; exact this, hkl⟩, ⟨_, _, _, _, _, _, d8⟩, hch, z8⟩)
