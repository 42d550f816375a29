theorem rdW3_lt {txt : List Nat} {en we : Nat} {x : DV} : (rdW3 txt en we x).1 ≤ 6 := by
  unfold rdW3
  by_cases c : wdS (txt.take en) we < wdE (txt.take en) (wdS (txt.take en) we)
  · rw [if_pos c]; exact Nat.le_refl _
  · rw [if_neg c]; exact Nat.zero_le _
theorem rdW_lt {mem : Bool} {fm : Nat} {txt : List Nat} {en ws we : Nat} : (rdW mem fm txt en ws we).1 ≤ 6 := by
  unfold rdW rdW0
  generalize rmk mem txt en (nMarks mem + 1) 0 ws we = M
  by_cases c1 : M.1 = true
  · rw [if_pos c1]
    cases hk : kdH mem (wdO txt M.2.2.1 M.2.2.2) with
    | none => exact Nat.le_of_ble_eq_true rfl
    | some k =>
      show (rdW1 mem fm txt en M.2.1 k M.2.2.2).1 ≤ 6
      unfold rdW1
      generalize wdS (txt.take en) M.2.2.2 = s1
      generalize wdE (txt.take en) s1 = e1
      by_cases c2 : okN mem k (cnR fm txt s1 e1) = true
      · rw [if_pos c2]
        unfold rdW2
        by_cases c3 : mem = true
        · rw [if_pos c3]
          generalize wdS (txt.take en) e1 = s2
          generalize wdE (txt.take en) s2 = e2
          by_cases c4 : okD k (cnR fm txt s2 e2) = true
          · rw [if_pos c4]; exact rdW3_lt
          · rw [if_neg c4]; exact Nat.le_of_ble_eq_true rfl
        · rw [if_neg c3]; exact rdW3_lt
      · rw [if_neg c2]; exact Nat.le_of_ble_eq_true rfl
  · rw [if_neg c1]; exact Nat.le_of_ble_eq_true rfl
theorem tkT_lt (U : List TU) (x : DV) : tkT U x ≤ 9 := by
  unfold tkT
  by_cases c : ∃ u ∈ U, cmpL u.1.1 x.1 = 0
  · rw [if_pos c]; exact Nat.le_of_ble_eq_true rfl
  · rw [if_neg c]
    by_cases c2 : 12 ≤ U.length
    · rw [if_pos c2]; exact Nat.le_of_ble_eq_true rfl
    · rw [if_neg c2]; exact Nat.zero_le _
theorem tkM_lt (U : List TU) (x : DV) : tkM U x ≤ 9 := by
  rcases List.eq_nil_or_concat U with e | ⟨V, u, e⟩
  · subst e; exact Nat.le_refl _
  · rw [List.concat_eq_append] at e
    subst e
    rw [tkM_snoc]
    by_cases c : ∃ d ∈ u.2, cmpD d x = 0
    · rw [if_pos c]; exact Nat.le_of_ble_eq_true rfl
    · rw [if_neg c]
      by_cases c2 : 8 ≤ u.2.length
      · rw [if_pos c2]; exact Nat.le_of_ble_eq_true rfl
      · rw [if_neg c2]; exact Nat.zero_le _
theorem cost_T (U : List TU) (x : DV) : cC (U ++ [(x, [])]) = cC U + 8 ∧ cN (U ++ [(x, [])]) = cN U + 72 := by
  unfold cC cN
  rw [totM_app, List.length_append, List.length_singleton, show totM [(x, [])] = 0 from rfl]
  omega
theorem cost_M (U : List TU) (x : DV) (h : tkM U x = 0) : cC (adM U x) = cC U + 6 ∧ cN (adM U x) = cN U + 65 := by
  rcases List.eq_nil_or_concat U with e | ⟨V, u, e⟩
  · subst e; exact absurd (show (9 : Nat) = 0 from h) (by decide)
  · rw [List.concat_eq_append] at e
    subst e
    rw [adM_snoc]
    unfold cC cN
    rw [totM_app, totM_app, List.length_append, List.length_append, List.length_singleton, List.length_singleton]
    have e1 : totM [(u.1, u.2 ++ [x])] = u.2.length + 1 := by show (u.2 ++ [x]).length + 0 = _; rw [List.length_append, List.length_singleton]
    have e2 : totM [u] = u.2.length := by show u.2.length + 0 = _; omega
    rw [e1, e2]
    omega
/-- where a reading stands -/
def RG (E : hE) (H : Heap) (rd ln tr tarr : Nat) (dr : DA) (dg n1 n2 n3 bl : Nat) (txt : List Nat) (ot : Bool) (num : Nat) (g : RSt) (sa : SA) (us sp : List TV) : Prop := ∃ (ow : Option Nat) (kI : Int32) (mk : Nat) (nx dx : List Nat) (o1 o2 : Bool) (st en ws we : Nat), RdO E H rd ln bl dg dr.1 num g.2.1 g.2.2.1 ow ∧ Ln E H ln tr st en ws we ∧ Rw E H tr tarr 480 txt ot ∧ Dr E H dr kI mk nx dx o1 o2 ∧ Bs E H bl g.1 sa us sp ∧ Dg E H dg n1 n2 n3 g.2.2.2.2 ∧ RelT us g.2.2.2.1 ∧ OwR us g.2.2.2.1 ow ∧ (grR E rd ln tr tarr dr dg n1 n2 n3 bl sa us sp).flatten.Nodup
theorem rdF_fm (txt : List Nat) (en ws we : Nat) : (rdF txt en ws we).1 = none ∨ (rdF txt en ws we).1 = some 1 ∨ (rdF txt en ws we).1 = some 2 := by
  unfold rdF
  by_cases c : wdO txt ws we = strL 0
  · rw [if_pos c]
    unfold rdF2
    generalize wdO txt (wdS (txt.take en) we) (wdE (txt.take en) (wdS (txt.take en) we)) = x
    by_cases c2 : fmtW x = none ∨ wdS (txt.take en) (wdE (txt.take en) (wdS (txt.take en) we)) < wdE (txt.take en) (wdS (txt.take en) (wdE (txt.take en) (wdS (txt.take en) we)))
    · rw [if_pos c2]; exact Or.inl rfl
    · rw [if_neg c2]
      show fmtW x = none ∨ fmtW x = some 1 ∨ fmtW x = some 2
      unfold fmtW
      by_cases c3 : x = strL 1
      · rw [if_pos c3]; exact Or.inr (Or.inl rfl)
      · rw [if_neg c3]
        by_cases c4 : x = strL 2
        · rw [if_pos c4]; exact Or.inr (Or.inr rfl)
        · rw [if_neg c4]; exact Or.inl rfl
  · rw [if_neg c]; exact Or.inl rfl
set_option maxHeartbeats 4000000 in
set_option maxRecDepth 100000 in
theorem c_Rd_readLine (l : Launch) {E : hE} (hE : EnvOk E) (hS : EnvS E) (hL : EnvL E) {H : Heap} {rd ln bl dg n1 n2 n3 num tr tarr st en ws we : Nat} {dr : DA} {past brk : Bool} {ow : Option Nat} {txt : List Nat} {ot : Bool} (hR : RdO E H rd ln bl dg dr.1 num past brk ow) (hln : Ln E H ln tr st en ws we) (hr : Rw E H tr tarr 480 txt ot) {kI : Int32} {mk0 : Nat} {nx dx : List Nat} {o1 o2 : Bool} (hd : Dr E H dr kI mk0 nx dx o1 o2) {fm : Nat} {sa : SA} {us sp : List TV} (hb : Bs E H bl fm sa us sp) {ds : List (Nat × Nat × Nat)} (hg : Dg E H dg n1 n2 n3 ds) (hN : (grR E rd ln tr tarr dr dg n1 n2 n3 bl sa us sp).flatten.Nodup) {U : List TU} (rel : RelT us U) (own : OwR us U ow) (hO : Old E H) (hdl : ds.length < 890) (hnum : num < 1000) {i j : Nat} (hij : i ≤ j) (hj : j ≤ txt.length) {G : RSt} (hG : rdLn txt (num + 1) i j (fm, past, brk, U, ds) = G) : Ct l E y_Rd_readLine b_Rd_readLine 5 none (rmA 10 (cC G.2.2.2.1 - cC U) (cN G.2.2.2.1 - cN U)) [.ref rd, .int (nI i), .int (nI j)] H (hQv (fun H1 => ∃ (sa2 : SA) (us2 sp2 : List TV), RG E H1 rd ln tr tarr dr dg n1 n2 n3 bl txt ot (num + 1) G sa2 us2 sp2 ∧ (∀ q ∈ fpB E bl sa2 us2 sp2, q ∈ fpB E bl sa us sp ∨ H.size ≤ q) ∧ hCh (fun q => q = rd ∨ q = ln ∨ dcS dr q ∨ dS dg n1 n2 n3 q ∨ q ∈ fpB E bl sa us sp) H H1)) := by
  refine hx_enter hE (by decide) (Nat.le_of_ble_eq_true rfl) ?_
  intro p e s m args below meth c ls cx hnm hl
  have hl : lv_has ls 5 [(0, .ref rd), (1, .int (nI i)), (2, .int (nI j))] := hl
  have hlo : hLo (eB E) [] := hLo.nil
  generalize hQ : MQ below _ args s _ _ _ = Q
  have hN0 := grR_N0 hN
  have hle := hr.le
  have ht1 := trimE_le txt i j
  unfold rdLn at hG
  have hen : trimE txt i j ≤ txt.length := by omega
  have hst := ht1.2 hij
  generalize he9 : trimE txt i j = en9 at hG hen hst
  have hlen := len_take hen
  have a1 := wdS_le (L := txt.take en9) (i := i) (by omega)
  have a2 := wdE_le (L := txt.take en9) (i := wdS (txt.take en9) i) (by omega)
  generalize hs9 : wdS (txt.take en9) i = ws9 at hG a1 a2
  generalize hx9 : wdE (txt.take en9) ws9 = we9 at hG a2
  have hfm9 := hb.2.2.1
  have hbN9 : bl ∉ rd :: ln :: tr :: tarr :: fpD dr := fun z => by rcases List.mem_cons.mp z with z | z; exact gdj hN 0 5 rfl rfl (by decide) (List.mem_singleton.mpr z) List.mem_cons_self; rcases List.mem_cons.mp z with z | z; exact gdj hN 1 5 rfl rfl (by decide) (List.mem_singleton.mpr z) List.mem_cons_self; rcases List.mem_cons.mp z with z | z; exact gdj hN 2 5 rfl rfl (by decide) (by rw [z]; exact List.mem_cons_self) List.mem_cons_self; rcases List.mem_cons.mp z with z | z; exact gdj hN 2 5 rfl rfl (by decide) (by rw [z]; exact List.mem_cons_of_mem _ List.mem_cons_self) List.mem_cons_self; exact gdj hN 3 5 rfl rfl (by decide) z List.mem_cons_self
  have BD : ∀ (H2 : Heap) (locs : List Loc) (ds2 : List (Nat × Nat × Nat)), hLo (eB E) locs → RdO E H2 rd ln bl dg dr.1 (num + 1) true brk ow → Ln E H2 ln tr i en9 ws9 we9 → Rw E H2 tr tarr 480 txt ot → Dr E H2 dr kI mk0 nx dx o1 o2 → Bs E H2 bl fm sa us sp → Dg E H2 dg n1 n2 n3 ds2 → Old E H2 → hCh (fun q => q = rd ∨ q = ln ∨ dcS dr q ∨ dS dg n1 n2 n3 q ∨ q ∈ fpB E bl sa us sp) H H2 → H2.size = H.size → ds2.length < 895 → rdB txt (num + 1) i en9 ws9 we9 (fm, true, brk, U, ds2) = G → ∀ ls, lv_has ls 5 [(0, .ref rd), (1, .int (nI i)), (2, .int (nI j))] → W p l e (rmA 10 (cC G.2.2.2.1 - cC U) (cN G.2.2.2.1 - cN U)) s m args below meth c H2 locs 0 0 Q (F0 m 37 ls []) := by
    intro H2 locs ds2 hlo hR2 hln2 hr2 hd2 hb2 hg2 hO2 k2 z2 hdl2 hG2 ls hl
    unfold rdB at hG2
    refine lv_aload_n cx.x cx.b d_Rd_readLine_37 rfl (lv_at hl 0 rfl) ?_
    refine gf_Rd_23_Rd cx hR2.1 rfl d_Rd_readLine_38 ?_
    refine hx_calli (iv_Rd_50_Ln cx (c_Ln_place l hE hln2 a1.1 (by omega)) hln2.1 rfl hl.1 rfl (Nat.le_of_ble_eq_true rfl) d_Rd_readLine_41 ⟨Nat.le_of_ble_eq_true rfl, Nat.le_of_ble_eq_true rfl⟩ ⟨Nat.zero_le _, Nat.zero_le _⟩) hlo (fun _ h => h) (fun r118 H117 locs hp116 hlo => ?_)
    obtain ⟨hp116, hH9⟩ := hp116
    have hH9 := hH9.symm
    subst hH9
    subst hp116
    refine lv_iconst (v := 1) cx.x cx.b d_Rd_readLine_44 (by decide) ?_
    refine lv_icmp_le (tgt := 52) cx.x cx.b d_Rd_readLine_45 (by decide) (fun c1 => ?_) (fun c1 => ?_)
    · have c1 : (ws9 - i + 1) ≤ 1 := (nI_leI (a := (ws9 - i + 1)) (b := 1) (by omega) (by omega)).mp c1
      rw [show decide (i < ws9) = false from decide_eq_false (by omega)] at hG2
      refine lv_iconst (v := 0) cx.x cx.b d_Rd_readLine_52 (by decide) ?_
      refine lv_istore_n (lv' := [(3, .int 0), (0, .ref rd), (1, .int (nI i)), (2, .int (nI j))]) cx.x cx.b d_Rd_readLine_53 rfl hl (by decide) rfl (fun ls hl => ?_)
      refine lv_iload_n cx.x cx.b d_Rd_readLine_54 rfl (lv_at hl 0 rfl) ?_
      refine lv_if_eq (tgt := 66) cx.x cx.b d_Rd_readLine_55 (by decide) (fun _ => ?_) (fun c => absurd (by decide) c)
      rw [Bool.false_and, if_neg (by decide)] at hG2
      have hwl := rdW_le (mem := false) (fm := fm) hen a2.1 (show we9 ≤ en9 by omega)
      have hw6 := rdW_lt (mem := false) (fm := fm) (txt := txt) (en := en9) (ws := ws9) (we := we9)
      refine lv_aload_n cx.x cx.b d_Rd_readLine_66 rfl (lv_at hl 1 rfl) ?_
      refine lv_iload_n cx.x cx.b d_Rd_readLine_67 rfl (lv_at hl 0 rfl) ?_
      refine hx_calli (iv_Rd_58_Rd cx (c_Rd_readWords l hE hS hR2 hln2 hr2 hN0 a2.1 (by omega) hen hb2.1 hb2.2.1 hbN9 hfm9 hd2 hO2 false) hR2.1 rfl hl.1 rfl (Nat.le_of_ble_eq_true rfl) d_Rd_readLine_68 ⟨Nat.le_of_ble_eq_true rfl, Nat.le_of_ble_eq_true rfl⟩ ⟨Nat.zero_le _, Nat.zero_le _⟩) hlo (fun _ h => h) (fun r121 H120 locs hp119 hlo => ?_)
      obtain ⟨e3, hln3, hfi, ⟨kJ, mj, nq, dq, pq1, pq2, hd3⟩, k3, z3⟩ := hp119
      have k3 : hCh (fun q => q = ln ∨ dcS dr q) H2 H120 := k3
      have hR3 := hR2.ch k3 (fun z => by rcases z with z | z; exact gdj hN 0 1 rfl rfl (by decide) (List.mem_singleton.mpr rfl) (List.mem_singleton.mpr z); exact gdj hN 0 3 rfl rfl (by decide) (List.mem_singleton.mpr rfl) (fpD_dc.mpr z))
      have hr3 := hr2.ch k3 (fun z => by rcases z with z | z; exact gdj hN 2 1 rfl rfl (by decide) List.mem_cons_self (List.mem_singleton.mpr z); exact gdj hN 2 3 rfl rfl (by decide) List.mem_cons_self (fpD_dc.mpr z)) (fun z => by rcases z with z | z; exact gdj hN 2 1 rfl rfl (by decide) (List.mem_cons_of_mem _ List.mem_cons_self) (List.mem_singleton.mpr z); exact gdj hN 2 3 rfl rfl (by decide) (List.mem_cons_of_mem _ List.mem_cons_self) (fpD_dc.mpr z))
      have hb3 := hb2.ch k3 (fun q hq z => by rcases z with z | z; exact gdj hN 5 1 rfl rfl (by decide) hq (List.mem_singleton.mpr z); exact gdj hN 5 3 rfl rfl (by decide) hq (fpD_dc.mpr z))
      have hg3 := hg2.ch k3 (fun q hq z => by rcases z with z | z; exact gdj hN 4 1 rfl rfl (by decide) (dS_mem.mpr hq) (List.mem_singleton.mpr z); exact gdj hN 4 3 rfl rfl (by decide) (dS_mem.mpr hq) (fpD_dc.mpr z))
      have hO3 := hO2.ch k3 (fun q z => by rcases z with z | z; rw [z]; exact hln2.2; exact hd2.lo q z)
      have kk3 := k2.tr (k3.mono (S' := fun q => q = rd ∨ q = ln ∨ dcS dr q ∨ dS dg n1 n2 n3 q ∨ q ∈ fpB E bl sa us sp) (fun q _ z => by rcases z with z | z; exact Or.inr (Or.inl z); exact Or.inr (Or.inr (Or.inl z))))
      have k3 := kk3
      generalize hV : rdW false fm txt en9 ws9 we9 = V at e3 hln3 hfi hG2 hwl hw6
      obtain ⟨vf, vs, ve, vd⟩ := V
      simp only at e3 hln3 hfi hwl hw6
      subst e3
      unfold rdC rdK at hG2
      refine lv_istore (lv' := [(4, .int (nI vf)), (3, .int (bI false)), (0, .ref rd), (1, .int (nI i)), (2, .int (nI j))]) cx.x cx.b d_Rd_readLine_71 hl (by decide) rfl (fun ls hl => ?_)
      refine lv_iload cx.x cx.b d_Rd_readLine_73 (lv_at hl 0 rfl) ?_
      by_cases hfz : vf = 0
      · subst hfz
        obtain ⟨hdc, hkl⟩ := hfi rfl
        simp only [if_true] at hG2
        refine lv_if_ne (tgt := 102) cx.x cx.b d_Rd_readLine_75 (by decide) (fun c => absurd rfl c) (fun _ => ?_)
        refine lv_aload_n cx.x cx.b d_Rd_readLine_78 rfl (lv_at hl 2 rfl) ?_
        refine gf_Rd_23_Rd cx hR3.1 rfl d_Rd_readLine_79 ?_
        refine hx_callv (iv_Rd_62_Ln cx (c_Ln_toFirstWord l hE hln3 hr3 (ndn hN0 2 1 rfl rfl (by decide)) (ndn hN0 3 1 rfl rfl (by decide)) (by omega) hen) hln3.1 rfl hl.1 rfl (Nat.le_of_ble_eq_true rfl) d_Rd_readLine_82 ⟨Nat.le_of_ble_eq_true rfl, Nat.le_of_ble_eq_true rfl⟩ ⟨Nat.zero_le _, Nat.zero_le _⟩) hlo (fun _ h => h) (fun H130 locs hp129 hlo => ?_)
        obtain ⟨hln4, k4, z4⟩ := hp129
        rw [hs9, hx9] at hln4
        have hR4 := hR3.ch k4 (fun z => by exact gdj hN 0 1 rfl rfl (by decide) (List.mem_singleton.mpr rfl) (List.mem_singleton.mpr z))
        have hr4 := hr3.ch k4 (fun z => by exact gdj hN 2 1 rfl rfl (by decide) List.mem_cons_self (List.mem_singleton.mpr z)) (fun z => by exact gdj hN 2 1 rfl rfl (by decide) (List.mem_cons_of_mem _ List.mem_cons_self) (List.mem_singleton.mpr z))
        have hb4 := hb3.ch k4 (fun q hq z => by exact gdj hN 5 1 rfl rfl (by decide) hq (List.mem_singleton.mpr z))
        have hg4 := hg3.ch k4 (fun q hq z => by exact gdj hN 4 1 rfl rfl (by decide) (dS_mem.mpr hq) (List.mem_singleton.mpr z))
        have hd4 := hd3.ch k4 (fun q hq z => by exact gdj hN 3 1 rfl rfl (by decide) (fpD_dc.mpr hq) (List.mem_singleton.mpr z))
        have hdc4 := hdc.ch k4 (fun q hq z => by exact gdj hN 3 1 rfl rfl (by decide) (fpD_dc.mpr hq) (List.mem_singleton.mpr z))
        have hO4 := hO3.ch k4 (fun q z => by rw [z]; exact hln3.2)
        have kk4 := k3.tr (k4.mono (S' := fun q => q = rd ∨ q = ln ∨ dcS dr q ∨ dS dg n1 n2 n3 q ∨ q ∈ fpB E bl sa us sp) (fun q _ z => Or.inr (Or.inl z)))
        have k4 := kk4
        refine lv_iload_n cx.x cx.b d_Rd_readLine_85 rfl (lv_at hl 1 rfl) ?_
        refine lv_if_eq (tgt := 96) cx.x cx.b d_Rd_readLine_86 (by decide) (fun _ => ?_) (fun c => absurd (by decide) c)
        refine lv_aload_n cx.x cx.b d_Rd_readLine_96 rfl (lv_at hl 2 rfl) ?_
        have htl := tkT_lt U vd
        have hrd4 : rd ∉ fpB E bl sa us sp := fun z => gdj hN 0 5 rfl rfl (by decide) (List.mem_singleton.mpr rfl) z
        have hap4 : ∀ q, dcS dr q → q ∉ fpB E bl sa us sp := fun q hq z => gdj hN 3 5 rfl rfl (by decide) (fpD_dc.mpr hq) z
        by_cases hfz : tkT U vd = 0
        · have hG2 : ((fm, true, false, U ++ [(vd, [])], ds2) : RSt) = G := by simpa only [if_pos hfz, Bool.false_eq_true, if_false] using hG2
          obtain ⟨hc1, hc2⟩ := cost_T U vd
          have hcc1 : 8 ≤ cC G.2.2.2.1 - cC U := by rw [← hG2]; show 8 ≤ cC (U ++ [(vd, [])]) - cC U; omega
          have hcc2 : 72 ≤ cN G.2.2.2.1 - cN U := by rw [← hG2]; show 72 ≤ cN (U ++ [(vd, [])]) - cN U; omega
          refine hx_calli (iv_Rd_68_Rd cx (c_Rd_takeTypeB l hE hL hR4 hb4 hdc4 hrd4 hap4 rel hO4 hfz) hR4.1 rfl hl.1 rfl (Nat.le_of_ble_eq_true rfl) d_Rd_readLine_97 ⟨Nat.le_of_ble_eq_true rfl, Nat.le_of_ble_eq_true rfl⟩ ⟨hcc1, hcc2⟩) hlo (fun _ h => h) (fun r143 H142 locs hp141 hlo => ?_)
          have hall := grR_lt hL hR4 hln4 hr4 hd4 hb4 hg4
          obtain ⟨e5, sa2, us2, sp2, ow2, hR5, hb5, rel2, own2, sub5, k5⟩ := hp141
          subst e5
          have hN5 := grR_repl hN hb5.nd sub5 hall
          have hln5 := hln4.ch k5 (fun z => by rcases z with z | z; exact gdj hN 1 0 rfl rfl (by decide) (List.mem_singleton.mpr rfl) (List.mem_singleton.mpr z); exact gdj hN 1 5 rfl rfl (by decide) (List.mem_singleton.mpr rfl) z)
          have hr5 := hr4.ch k5 (fun z => by rcases z with z | z; exact gdj hN 2 0 rfl rfl (by decide) List.mem_cons_self (List.mem_singleton.mpr z); exact gdj hN 2 5 rfl rfl (by decide) List.mem_cons_self z) (fun z => by rcases z with z | z; exact gdj hN 2 0 rfl rfl (by decide) (List.mem_cons_of_mem _ List.mem_cons_self) (List.mem_singleton.mpr z); exact gdj hN 2 5 rfl rfl (by decide) (List.mem_cons_of_mem _ List.mem_cons_self) z)
          have hd5 := hd4.ch k5 (fun q hq z => by rcases z with z | z; exact gdj hN 3 0 rfl rfl (by decide) (fpD_dc.mpr hq) (List.mem_singleton.mpr z); exact gdj hN 3 5 rfl rfl (by decide) (fpD_dc.mpr hq) z)
          have hg5 := hg4.ch k5 (fun q hq z => by rcases z with z | z; exact gdj hN 4 0 rfl rfl (by decide) (dS_mem.mpr hq) (List.mem_singleton.mpr z); exact gdj hN 4 5 rfl rfl (by decide) (dS_mem.mpr hq) z)
          have kk5 := k4.tr (k5.mono (S' := fun q => q = rd ∨ q = ln ∨ dcS dr q ∨ dS dg n1 n2 n3 q ∨ q ∈ fpB E bl sa us sp) (fun q _ z => by rcases z with z | z; exact Or.inl z; exact Or.inr (Or.inr (Or.inr (Or.inr z)))))
          have k5 := kk5
          have nsub : ∀ q ∈ fpB E bl sa2 us2 sp2, q ∈ fpB E bl sa us sp ∨ H.size ≤ q := fun q hq => by rcases sub5 q hq with y | y; exact Or.inl y; exact Or.inr (by omega)
          rw [← hG2] at hQ
          refine lv_istore (lv' := [(4, .int 0), (3, .int (bI false)), (0, .ref rd), (1, .int (nI i)), (2, .int (nI j))]) cx.x cx.b d_Rd_readLine_100 hl (by decide) rfl (fun ls hl => ?_)
          refine lv_iload cx.x cx.b d_Rd_readLine_102 (lv_at hl 0 rfl) ?_
          refine lv_if_eq (tgt := 127) cx.x cx.b d_Rd_readLine_104 (by decide) (fun _ => ?_) (fun c => absurd (by decide) c)
          refine lv_iload_n cx.x cx.b d_Rd_readLine_127 rfl (lv_at hl 1 rfl) ?_
          refine lv_if_ne (tgt := 145) cx.x cx.b d_Rd_readLine_128 (by decide) (fun c => absurd (by decide) c) (fun _ => ?_)
          refine lv_aload_n cx.x cx.b d_Rd_readLine_131 rfl (lv_at hl 2 rfl) ?_
          refine lv_iload cx.x cx.b d_Rd_readLine_132 (lv_at hl 0 rfl) ?_
          refine lv_if_eq (tgt := 141) cx.x cx.b d_Rd_readLine_134 (by decide) (fun _ => ?_) (fun c => absurd (by decide) c)
          refine lv_iconst (v := 0) cx.x cx.b d_Rd_readLine_141 (by decide) ?_
          refine pf_Rd_54_Rd cx hR5.1 hlo hR5.2 (bI_z false) (Nat.le_of_ble_eq_true rfl) d_Rd_readLine_142 (fun H144 locs ho145 z_H144 o_H144 hlo => ?_)
          have ho145 : hOb (eD E) classes H144 rd 8 [.ref ln, .ref bl, .ref dg, .ref dr.1, .int (nI (num + 1)), .int (bI true), .int (bI false), va_rf ow2] := ho145
          have k11 : hCh (fun q => q = rd) H142 H144 := hCh.put z_H144 o_H144 rfl
          have hR11 : RdO E H144 rd ln bl dg dr.1 (num + 1) true false ow2 := ⟨ho145, hR5.2⟩
          have hln11 := hln5.ch k11 (fun z => by exact gdj hN5 1 0 rfl rfl (by decide) (List.mem_singleton.mpr rfl) (List.mem_singleton.mpr z))
          have hr11 := hr5.ch k11 (fun z => by exact gdj hN5 2 0 rfl rfl (by decide) List.mem_cons_self (List.mem_singleton.mpr z)) (fun z => by exact gdj hN5 2 0 rfl rfl (by decide) (List.mem_cons_of_mem _ List.mem_cons_self) (List.mem_singleton.mpr z))
          have hd11 := hd5.ch k11 (fun q hq z => by exact gdj hN5 3 0 rfl rfl (by decide) (fpD_dc.mpr hq) (List.mem_singleton.mpr z))
          have hb11 := hb5.ch k11 (fun q hq z => by exact gdj hN5 5 0 rfl rfl (by decide) hq (List.mem_singleton.mpr z))
          have hg11 := hg5.ch k11 (fun q hq z => by exact gdj hN5 4 0 rfl rfl (by decide) (dS_mem.mpr hq) (List.mem_singleton.mpr z))
          have k12 := k5.tr (k11.mono (S' := fun q => q = rd ∨ q = ln ∨ dcS dr q ∨ dS dg n1 n2 n3 q ∨ q ∈ fpB E bl sa us sp) (fun q _ z => Or.inl z))
          rw [← hQ]
          exact hx_retv cx.x cx.b cx.r cx.k hlo (fun _ h => h) (by have h9 := hcc1; rw [← hG2] at h9; exact h9) (by have h9 := hcc2; rw [← hG2] at h9; exact h9) d_Rd_readLine_145 (⟨sa2, us2, sp2, ⟨_, _, _, _, _, _, _, _, _, _, _, hR11, hln11, hr11, hd11, hb11, hg11, rel2, own2, hN5⟩, nsub, k12⟩)
        · simp only [if_neg hfz, Bool.false_eq_true, if_false] at hG2
          rw [← hG2] at hQ
          refine hx_calli (iv_Rd_68_Rd cx (c_Rd_takeTypeA l hE hL hR4 hb4 hdc4 hrd4 hap4 rel hfz) hR4.1 rfl hl.1 rfl (Nat.le_of_ble_eq_true rfl) d_Rd_readLine_97 ⟨Nat.le_of_ble_eq_true rfl, Nat.le_of_ble_eq_true rfl⟩ ⟨Nat.zero_le _, Nat.zero_le _⟩) hlo (fun _ h => h) (fun r133 H132 locs hp131 hlo => ?_)
          obtain ⟨hp131, hH9⟩ := hp131
          have hH9 := hH9.symm
          subst hH9
          subst hp131
          refine lv_istore (lv' := [(4, .int (nI (tkT U vd))), (3, .int (bI false)), (0, .ref rd), (1, .int (nI i)), (2, .int (nI j))]) cx.x cx.b d_Rd_readLine_100 hl (by decide) rfl (fun ls hl => ?_)
          refine lv_iload cx.x cx.b d_Rd_readLine_102 (lv_at hl 0 rfl) ?_
          refine lv_if_eq (tgt := 127) cx.x cx.b d_Rd_readLine_104 (by decide) (fun c => absurd ((nI_eq (a := tkT U vd) (b := 0) (by omega) (by omega)).mp c) hfz) (fun _ => ?_)
          refine lv_aload_n cx.x cx.b d_Rd_readLine_107 rfl (lv_at hl 2 rfl) ?_
          refine gf_Rd_31_Rd cx hR4.1 rfl d_Rd_readLine_108 ?_
          refine lv_iload cx.x cx.b d_Rd_readLine_111 (lv_at hl 0 rfl) ?_
          refine lv_aload_n cx.x cx.b d_Rd_readLine_113 rfl (lv_at hl 2 rfl) ?_
          refine gf_Rd_35_Rd cx hR4.1 rfl d_Rd_readLine_114 ?_
          refine lv_aload_n cx.x cx.b d_Rd_readLine_117 rfl (lv_at hl 2 rfl) ?_
          refine gf_Rd_23_Rd cx hR4.1 rfl d_Rd_readLine_118 ?_
          refine hx_calli (iv_Rd_50_Ln cx (c_Ln_place l hE hln4 (by omega) (by omega)) hln4.1 rfl hl.1 rfl (Nat.le_of_ble_eq_true rfl) d_Rd_readLine_121 ⟨Nat.le_of_ble_eq_true rfl, Nat.le_of_ble_eq_true rfl⟩ ⟨Nat.zero_le _, Nat.zero_le _⟩) hlo (fun _ h => h) (fun r136 H135 locs hp134 hlo => ?_)
          obtain ⟨hp134, hH9⟩ := hp134
          have hH9 := hH9.symm
          subst hH9
          subst hp134
          refine hx_callv (iv_Rd_71_Dg cx (c_Dg_add l hE hg4 (by omega) (tkT U vd) (num + 1) (ws9 - i + 1)) hg4.1 rfl hl.1 rfl (Nat.le_of_ble_eq_true rfl) d_Rd_readLine_124 ⟨Nat.le_of_ble_eq_true rfl, Nat.le_of_ble_eq_true rfl⟩ ⟨Nat.zero_le _, Nat.zero_le _⟩) hlo (fun _ h => h) (fun H138 locs hp137 hlo => ?_)
          obtain ⟨g8, k8, z8⟩ := hp137
          have hR8 := hR4.ch k8 (fun z => by exact gdj hN 0 4 rfl rfl (by decide) (List.mem_singleton.mpr rfl) (dS_mem.mpr z))
          have hln8 := hln4.ch k8 (fun z => by exact gdj hN 1 4 rfl rfl (by decide) (List.mem_singleton.mpr rfl) (dS_mem.mpr z))
          have hr8 := hr4.ch k8 (fun z => by exact gdj hN 2 4 rfl rfl (by decide) List.mem_cons_self (dS_mem.mpr z)) (fun z => by exact gdj hN 2 4 rfl rfl (by decide) (List.mem_cons_of_mem _ List.mem_cons_self) (dS_mem.mpr z))
          have hd8 := hd4.ch k8 (fun q hq z => by exact gdj hN 3 4 rfl rfl (by decide) (fpD_dc.mpr hq) (dS_mem.mpr z))
          have hb8 := hb4.ch k8 (fun q hq z => by exact gdj hN 5 4 rfl rfl (by decide) hq (dS_mem.mpr z))
          have k9 := k4.tr (k8.mono (S' := fun q => q = rd ∨ q = ln ∨ dcS dr q ∨ dS dg n1 n2 n3 q ∨ q ∈ fpB E bl sa us sp) (fun q _ z => Or.inr (Or.inr (Or.inr (Or.inl z)))))
          refine lv_iload_n cx.x cx.b d_Rd_readLine_127 rfl (lv_at hl 1 rfl) ?_
          refine lv_if_ne (tgt := 145) cx.x cx.b d_Rd_readLine_128 (by decide) (fun c => absurd (by decide) c) (fun _ => ?_)
          refine lv_aload_n cx.x cx.b d_Rd_readLine_131 rfl (lv_at hl 2 rfl) ?_
          refine lv_iload cx.x cx.b d_Rd_readLine_132 (lv_at hl 0 rfl) ?_
          refine lv_if_eq (tgt := 141) cx.x cx.b d_Rd_readLine_134 (by decide) (fun c => absurd ((nI_eq (a := tkT U vd) (b := 0) (by omega) (by omega)).mp c) hfz) (fun _ => ?_)
          refine lv_iconst (v := 1) cx.x cx.b d_Rd_readLine_137 (by decide) ?_
          refine lv_goto (tgt := 142) cx.x cx.b d_Rd_readLine_138 (by decide) ?_
          refine pf_Rd_54_Rd cx hR8.1 hlo hR8.2 (bI_z true) (Nat.le_of_ble_eq_true rfl) d_Rd_readLine_142 (fun H139 locs ho140 z_H139 o_H139 hlo => ?_)
          have ho140 : hOb (eD E) classes H139 rd 8 [.ref ln, .ref bl, .ref dg, .ref dr.1, .int (nI (num + 1)), .int (bI true), .int (bI true), va_rf ow] := ho140
          have k11 : hCh (fun q => q = rd) H138 H139 := hCh.put z_H139 o_H139 rfl
          have hR11 : RdO E H139 rd ln bl dg dr.1 (num + 1) true true ow := ⟨ho140, hR8.2⟩
          have hln11 := hln8.ch k11 (fun z => by exact gdj hN 1 0 rfl rfl (by decide) (List.mem_singleton.mpr rfl) (List.mem_singleton.mpr z))
          have hr11 := hr8.ch k11 (fun z => by exact gdj hN 2 0 rfl rfl (by decide) List.mem_cons_self (List.mem_singleton.mpr z)) (fun z => by exact gdj hN 2 0 rfl rfl (by decide) (List.mem_cons_of_mem _ List.mem_cons_self) (List.mem_singleton.mpr z))
          have hd11 := hd8.ch k11 (fun q hq z => by exact gdj hN 3 0 rfl rfl (by decide) (fpD_dc.mpr hq) (List.mem_singleton.mpr z))
          have hb11 := hb8.ch k11 (fun q hq z => by exact gdj hN 5 0 rfl rfl (by decide) hq (List.mem_singleton.mpr z))
          have hg11 := g8.ch k11 (fun q hq z => by exact gdj hN 4 0 rfl rfl (by decide) (dS_mem.mpr hq) (List.mem_singleton.mpr z))
          have k12 := k9.tr (k11.mono (S' := fun q => q = rd ∨ q = ln ∨ dcS dr q ∨ dS dg n1 n2 n3 q ∨ q ∈ fpB E bl sa us sp) (fun q _ z => Or.inl z))
          rw [← hQ]
          exact hx_retv cx.x cx.b cx.r cx.k hlo (fun _ h => h) (Nat.zero_le _) (Nat.zero_le _) d_Rd_readLine_145 (⟨sa, us, sp, ⟨_, _, _, _, _, _, _, _, _, _, _, hR11, hln11, hr11, hd11, hb11, hg11, rel, own, hN⟩, fun q hq => Or.inl hq, k12⟩)
      · simp only [if_neg hfz] at hG2
        rw [← hG2] at hQ
        refine lv_if_ne (tgt := 102) cx.x cx.b d_Rd_readLine_75 (by decide) (fun _ => ?_) (fun c => absurd ((nI_eq (a := vf) (b := 0) (by omega) (by omega)).mp c) hfz)
        refine lv_iload cx.x cx.b d_Rd_readLine_102 (lv_at hl 0 rfl) ?_
        refine lv_if_eq (tgt := 127) cx.x cx.b d_Rd_readLine_104 (by decide) (fun c => absurd ((nI_eq (a := vf) (b := 0) (by omega) (by omega)).mp c) hfz) (fun _ => ?_)
        refine lv_aload_n cx.x cx.b d_Rd_readLine_107 rfl (lv_at hl 2 rfl) ?_
        refine gf_Rd_31_Rd cx hR3.1 rfl d_Rd_readLine_108 ?_
        refine lv_iload cx.x cx.b d_Rd_readLine_111 (lv_at hl 0 rfl) ?_
        refine lv_aload_n cx.x cx.b d_Rd_readLine_113 rfl (lv_at hl 2 rfl) ?_
        refine gf_Rd_35_Rd cx hR3.1 rfl d_Rd_readLine_114 ?_
        refine lv_aload_n cx.x cx.b d_Rd_readLine_117 rfl (lv_at hl 2 rfl) ?_
        refine gf_Rd_23_Rd cx hR3.1 rfl d_Rd_readLine_118 ?_
        refine hx_calli (iv_Rd_50_Ln cx (c_Ln_place l hE hln3 (by omega) (by omega)) hln3.1 rfl hl.1 rfl (Nat.le_of_ble_eq_true rfl) d_Rd_readLine_121 ⟨Nat.le_of_ble_eq_true rfl, Nat.le_of_ble_eq_true rfl⟩ ⟨Nat.zero_le _, Nat.zero_le _⟩) hlo (fun _ h => h) (fun r124 H123 locs hp122 hlo => ?_)
        obtain ⟨hp122, hH9⟩ := hp122
        have hH9 := hH9.symm
        subst hH9
        subst hp122
        refine hx_callv (iv_Rd_71_Dg cx (c_Dg_add l hE hg3 (by omega) (vf) (num + 1) (vs - i + 1)) hg3.1 rfl hl.1 rfl (Nat.le_of_ble_eq_true rfl) d_Rd_readLine_124 ⟨Nat.le_of_ble_eq_true rfl, Nat.le_of_ble_eq_true rfl⟩ ⟨Nat.zero_le _, Nat.zero_le _⟩) hlo (fun _ h => h) (fun H126 locs hp125 hlo => ?_)
        obtain ⟨g8, k8, z8⟩ := hp125
        have hR8 := hR3.ch k8 (fun z => by exact gdj hN 0 4 rfl rfl (by decide) (List.mem_singleton.mpr rfl) (dS_mem.mpr z))
        have hln8 := hln3.ch k8 (fun z => by exact gdj hN 1 4 rfl rfl (by decide) (List.mem_singleton.mpr rfl) (dS_mem.mpr z))
        have hr8 := hr3.ch k8 (fun z => by exact gdj hN 2 4 rfl rfl (by decide) List.mem_cons_self (dS_mem.mpr z)) (fun z => by exact gdj hN 2 4 rfl rfl (by decide) (List.mem_cons_of_mem _ List.mem_cons_self) (dS_mem.mpr z))
        have hd8 := hd3.ch k8 (fun q hq z => by exact gdj hN 3 4 rfl rfl (by decide) (fpD_dc.mpr hq) (dS_mem.mpr z))
        have hb8 := hb3.ch k8 (fun q hq z => by exact gdj hN 5 4 rfl rfl (by decide) hq (dS_mem.mpr z))
        have k9 := k3.tr (k8.mono (S' := fun q => q = rd ∨ q = ln ∨ dcS dr q ∨ dS dg n1 n2 n3 q ∨ q ∈ fpB E bl sa us sp) (fun q _ z => Or.inr (Or.inr (Or.inr (Or.inl z)))))
        refine lv_iload_n cx.x cx.b d_Rd_readLine_127 rfl (lv_at hl 1 rfl) ?_
        refine lv_if_ne (tgt := 145) cx.x cx.b d_Rd_readLine_128 (by decide) (fun c => absurd (by decide) c) (fun _ => ?_)
        refine lv_aload_n cx.x cx.b d_Rd_readLine_131 rfl (lv_at hl 2 rfl) ?_
        refine lv_iload cx.x cx.b d_Rd_readLine_132 (lv_at hl 0 rfl) ?_
        refine lv_if_eq (tgt := 141) cx.x cx.b d_Rd_readLine_134 (by decide) (fun c => absurd ((nI_eq (a := vf) (b := 0) (by omega) (by omega)).mp c) hfz) (fun _ => ?_)
        refine lv_iconst (v := 1) cx.x cx.b d_Rd_readLine_137 (by decide) ?_
        refine lv_goto (tgt := 142) cx.x cx.b d_Rd_readLine_138 (by decide) ?_
        refine pf_Rd_54_Rd cx hR8.1 hlo hR8.2 (bI_z true) (Nat.le_of_ble_eq_true rfl) d_Rd_readLine_142 (fun H127 locs ho128 z_H127 o_H127 hlo => ?_)
        have ho128 : hOb (eD E) classes H127 rd 8 [.ref ln, .ref bl, .ref dg, .ref dr.1, .int (nI (num + 1)), .int (bI true), .int (bI true), va_rf ow] := ho128
        have k11 : hCh (fun q => q = rd) H126 H127 := hCh.put z_H127 o_H127 rfl
        have hR11 : RdO E H127 rd ln bl dg dr.1 (num + 1) true true ow := ⟨ho128, hR8.2⟩
        have hln11 := hln8.ch k11 (fun z => by exact gdj hN 1 0 rfl rfl (by decide) (List.mem_singleton.mpr rfl) (List.mem_singleton.mpr z))
        have hr11 := hr8.ch k11 (fun z => by exact gdj hN 2 0 rfl rfl (by decide) List.mem_cons_self (List.mem_singleton.mpr z)) (fun z => by exact gdj hN 2 0 rfl rfl (by decide) (List.mem_cons_of_mem _ List.mem_cons_self) (List.mem_singleton.mpr z))
        have hd11 := hd8.ch k11 (fun q hq z => by exact gdj hN 3 0 rfl rfl (by decide) (fpD_dc.mpr hq) (List.mem_singleton.mpr z))
        have hb11 := hb8.ch k11 (fun q hq z => by exact gdj hN 5 0 rfl rfl (by decide) hq (List.mem_singleton.mpr z))
        have hg11 := g8.ch k11 (fun q hq z => by exact gdj hN 4 0 rfl rfl (by decide) (dS_mem.mpr hq) (List.mem_singleton.mpr z))
        have k12 := k9.tr (k11.mono (S' := fun q => q = rd ∨ q = ln ∨ dcS dr q ∨ dS dg n1 n2 n3 q ∨ q ∈ fpB E bl sa us sp) (fun q _ z => Or.inl z))
        rw [← hQ]
        exact hx_retv cx.x cx.b cx.r cx.k hlo (fun _ h => h) (Nat.zero_le _) (Nat.zero_le _) d_Rd_readLine_145 (⟨sa, us, sp, ⟨_, _, _, _, _, _, _, _, _, _, _, hR11, hln11, hr11, hd11, hb11, hg11, rel, own, hN⟩, fun q hq => Or.inl hq, k12⟩)
    · have c1 : 1 < (ws9 - i + 1) := Nat.not_le.mp (fun zz => c1 ((nI_leI (a := (ws9 - i + 1)) (b := 1) (by omega) (by omega)).mpr zz))
      rw [show decide (i < ws9) = true from decide_eq_true (by omega)] at hG2
      refine lv_iconst (v := 1) cx.x cx.b d_Rd_readLine_48 (by decide) ?_
      refine lv_goto (tgt := 53) cx.x cx.b d_Rd_readLine_49 (by decide) ?_
      refine lv_istore_n (lv' := [(3, .int 1), (0, .ref rd), (1, .int (nI i)), (2, .int (nI j))]) cx.x cx.b d_Rd_readLine_53 rfl hl (by decide) rfl (fun ls hl => ?_)
      refine lv_iload_n cx.x cx.b d_Rd_readLine_54 rfl (lv_at hl 0 rfl) ?_
      refine lv_if_eq (tgt := 66) cx.x cx.b d_Rd_readLine_55 (by decide) (fun c => absurd c (by decide)) (fun _ => ?_)
      refine lv_aload_n cx.x cx.b d_Rd_readLine_58 rfl (lv_at hl 1 rfl) ?_
      refine gf_Rd_54_Rd cx hR2.1 rfl d_Rd_readLine_59 ?_
      cases brk
      · refine lv_if_eq (tgt := 66) cx.x cx.b d_Rd_readLine_62 (by decide) (fun _ => ?_) (fun c => absurd (by decide) c)
        rw [if_neg (fun z => by cases z)] at hG2
        have hwl := rdW_le (mem := true) (fm := fm) hen a2.1 (show we9 ≤ en9 by omega)
        have hw6 := rdW_lt (mem := true) (fm := fm) (txt := txt) (en := en9) (ws := ws9) (we := we9)
        refine lv_aload_n cx.x cx.b d_Rd_readLine_66 rfl (lv_at hl 1 rfl) ?_
        refine lv_iload_n cx.x cx.b d_Rd_readLine_67 rfl (lv_at hl 0 rfl) ?_
        refine hx_calli (iv_Rd_58_Rd cx (c_Rd_readWords l hE hS hR2 hln2 hr2 hN0 a2.1 (by omega) hen hb2.1 hb2.2.1 hbN9 hfm9 hd2 hO2 true) hR2.1 rfl hl.1 rfl (Nat.le_of_ble_eq_true rfl) d_Rd_readLine_68 ⟨Nat.le_of_ble_eq_true rfl, Nat.le_of_ble_eq_true rfl⟩ ⟨Nat.zero_le _, Nat.zero_le _⟩) hlo (fun _ h => h) (fun r148 H147 locs hp146 hlo => ?_)
        obtain ⟨e3, hln3, hfi, ⟨kJ, mj, nq, dq, pq1, pq2, hd3⟩, k3, z3⟩ := hp146
        have k3 : hCh (fun q => q = ln ∨ dcS dr q) H2 H147 := k3
        have hR3 := hR2.ch k3 (fun z => by rcases z with z | z; exact gdj hN 0 1 rfl rfl (by decide) (List.mem_singleton.mpr rfl) (List.mem_singleton.mpr z); exact gdj hN 0 3 rfl rfl (by decide) (List.mem_singleton.mpr rfl) (fpD_dc.mpr z))
        have hr3 := hr2.ch k3 (fun z => by rcases z with z | z; exact gdj hN 2 1 rfl rfl (by decide) List.mem_cons_self (List.mem_singleton.mpr z); exact gdj hN 2 3 rfl rfl (by decide) List.mem_cons_self (fpD_dc.mpr z)) (fun z => by rcases z with z | z; exact gdj hN 2 1 rfl rfl (by decide) (List.mem_cons_of_mem _ List.mem_cons_self) (List.mem_singleton.mpr z); exact gdj hN 2 3 rfl rfl (by decide) (List.mem_cons_of_mem _ List.mem_cons_self) (fpD_dc.mpr z))
        have hb3 := hb2.ch k3 (fun q hq z => by rcases z with z | z; exact gdj hN 5 1 rfl rfl (by decide) hq (List.mem_singleton.mpr z); exact gdj hN 5 3 rfl rfl (by decide) hq (fpD_dc.mpr z))
        have hg3 := hg2.ch k3 (fun q hq z => by rcases z with z | z; exact gdj hN 4 1 rfl rfl (by decide) (dS_mem.mpr hq) (List.mem_singleton.mpr z); exact gdj hN 4 3 rfl rfl (by decide) (dS_mem.mpr hq) (fpD_dc.mpr z))
        have hO3 := hO2.ch k3 (fun q z => by rcases z with z | z; rw [z]; exact hln2.2; exact hd2.lo q z)
        have kk3 := k2.tr (k3.mono (S' := fun q => q = rd ∨ q = ln ∨ dcS dr q ∨ dS dg n1 n2 n3 q ∨ q ∈ fpB E bl sa us sp) (fun q _ z => by rcases z with z | z; exact Or.inr (Or.inl z); exact Or.inr (Or.inr (Or.inl z))))
        have k3 := kk3
        generalize hV : rdW true fm txt en9 ws9 we9 = V at e3 hln3 hfi hG2 hwl hw6
        obtain ⟨vf, vs, ve, vd⟩ := V
        simp only at e3 hln3 hfi hwl hw6
        subst e3
        unfold rdC rdK at hG2
        refine lv_istore (lv' := [(4, .int (nI vf)), (3, .int (bI true)), (0, .ref rd), (1, .int (nI i)), (2, .int (nI j))]) cx.x cx.b d_Rd_readLine_71 hl (by decide) rfl (fun ls hl => ?_)
        refine lv_iload cx.x cx.b d_Rd_readLine_73 (lv_at hl 0 rfl) ?_
        by_cases hfz : vf = 0
        · subst hfz
          obtain ⟨hdc, hkl⟩ := hfi rfl
          simp only [if_true] at hG2
          refine lv_if_ne (tgt := 102) cx.x cx.b d_Rd_readLine_75 (by decide) (fun c => absurd rfl c) (fun _ => ?_)
          refine lv_aload_n cx.x cx.b d_Rd_readLine_78 rfl (lv_at hl 2 rfl) ?_
          refine gf_Rd_23_Rd cx hR3.1 rfl d_Rd_readLine_79 ?_
          refine hx_callv (iv_Rd_62_Ln cx (c_Ln_toFirstWord l hE hln3 hr3 (ndn hN0 2 1 rfl rfl (by decide)) (ndn hN0 3 1 rfl rfl (by decide)) (by omega) hen) hln3.1 rfl hl.1 rfl (Nat.le_of_ble_eq_true rfl) d_Rd_readLine_82 ⟨Nat.le_of_ble_eq_true rfl, Nat.le_of_ble_eq_true rfl⟩ ⟨Nat.zero_le _, Nat.zero_le _⟩) hlo (fun _ h => h) (fun H155 locs hp154 hlo => ?_)
          obtain ⟨hln4, k4, z4⟩ := hp154
          rw [hs9, hx9] at hln4
          have hR4 := hR3.ch k4 (fun z => by exact gdj hN 0 1 rfl rfl (by decide) (List.mem_singleton.mpr rfl) (List.mem_singleton.mpr z))
          have hr4 := hr3.ch k4 (fun z => by exact gdj hN 2 1 rfl rfl (by decide) List.mem_cons_self (List.mem_singleton.mpr z)) (fun z => by exact gdj hN 2 1 rfl rfl (by decide) (List.mem_cons_of_mem _ List.mem_cons_self) (List.mem_singleton.mpr z))
          have hb4 := hb3.ch k4 (fun q hq z => by exact gdj hN 5 1 rfl rfl (by decide) hq (List.mem_singleton.mpr z))
          have hg4 := hg3.ch k4 (fun q hq z => by exact gdj hN 4 1 rfl rfl (by decide) (dS_mem.mpr hq) (List.mem_singleton.mpr z))
          have hd4 := hd3.ch k4 (fun q hq z => by exact gdj hN 3 1 rfl rfl (by decide) (fpD_dc.mpr hq) (List.mem_singleton.mpr z))
          have hdc4 := hdc.ch k4 (fun q hq z => by exact gdj hN 3 1 rfl rfl (by decide) (fpD_dc.mpr hq) (List.mem_singleton.mpr z))
          have hO4 := hO3.ch k4 (fun q z => by rw [z]; exact hln3.2)
          have kk4 := k3.tr (k4.mono (S' := fun q => q = rd ∨ q = ln ∨ dcS dr q ∨ dS dg n1 n2 n3 q ∨ q ∈ fpB E bl sa us sp) (fun q _ z => Or.inr (Or.inl z)))
          have k4 := kk4
          refine lv_iload_n cx.x cx.b d_Rd_readLine_85 rfl (lv_at hl 1 rfl) ?_
          refine lv_if_eq (tgt := 96) cx.x cx.b d_Rd_readLine_86 (by decide) (fun c => absurd c (by decide)) (fun _ => ?_)
          refine lv_aload_n cx.x cx.b d_Rd_readLine_89 rfl (lv_at hl 2 rfl) ?_
          have htl := tkM_lt U vd
          have hrd4 : rd ∉ fpB E bl sa us sp := fun z => gdj hN 0 5 rfl rfl (by decide) (List.mem_singleton.mpr rfl) z
          have hap4 : ∀ q, dcS dr q → q ∉ fpB E bl sa us sp := fun q hq z => gdj hN 3 5 rfl rfl (by decide) (fpD_dc.mpr hq) z
          by_cases hfz : tkM U vd = 0
          · have hG2 : ((fm, true, false, adM U vd, ds2) : RSt) = G := by simpa only [if_pos hfz, Bool.false_eq_true, if_false] using hG2
            obtain ⟨hc1, hc2⟩ := cost_M U vd hfz
            have hcc1 : 6 ≤ cC G.2.2.2.1 - cC U := by rw [← hG2]; show 6 ≤ cC (adM U vd) - cC U; omega
            have hcc2 : 65 ≤ cN G.2.2.2.1 - cN U := by rw [← hG2]; show 65 ≤ cN (adM U vd) - cN U; omega
            refine hx_calli (iv_Rd_65_Rd cx (c_Rd_takeMemberB l hE hL hR4 hb4 hdc4 hrd4 hap4 rel own hO4 hfz) hR4.1 rfl hl.1 rfl (Nat.le_of_ble_eq_true rfl) d_Rd_readLine_90 ⟨Nat.le_of_ble_eq_true rfl, Nat.le_of_ble_eq_true rfl⟩ ⟨hcc1, hcc2⟩) hlo (fun _ h => h) (fun r166 H165 locs hp164 hlo => ?_)
            have hall := grR_lt hL hR4 hln4 hr4 hd4 hb4 hg4
            obtain ⟨e5, us2, hR5, hb5, rel2, own2, sub5, k5⟩ := hp164
            subst e5
            have hN5 := grR_repl hN hb5.nd sub5 hall
            have hln5 := hln4.ch k5 (fun z => by exact gdj hN 1 5 rfl rfl (by decide) (List.mem_singleton.mpr rfl) z)
            have hr5 := hr4.ch k5 (fun z => by exact gdj hN 2 5 rfl rfl (by decide) List.mem_cons_self z) (fun z => by exact gdj hN 2 5 rfl rfl (by decide) (List.mem_cons_of_mem _ List.mem_cons_self) z)
            have hd5 := hd4.ch k5 (fun q hq z => by exact gdj hN 3 5 rfl rfl (by decide) (fpD_dc.mpr hq) z)
            have hg5 := hg4.ch k5 (fun q hq z => by exact gdj hN 4 5 rfl rfl (by decide) (dS_mem.mpr hq) z)
            have kk5 := k4.tr (k5.mono (S' := fun q => q = rd ∨ q = ln ∨ dcS dr q ∨ dS dg n1 n2 n3 q ∨ q ∈ fpB E bl sa us sp) (fun q _ z => Or.inr (Or.inr (Or.inr (Or.inr z)))))
            have k5 := kk5
            have nsub : ∀ q ∈ fpB E bl sa us2 sp, q ∈ fpB E bl sa us sp ∨ H.size ≤ q := fun q hq => by rcases sub5 q hq with y | y; exact Or.inl y; exact Or.inr (by omega)
            rw [← hG2] at hQ
            refine lv_goto (tgt := 100) cx.x cx.b d_Rd_readLine_93 (by decide) ?_
            refine lv_istore (lv' := [(4, .int 0), (3, .int (bI true)), (0, .ref rd), (1, .int (nI i)), (2, .int (nI j))]) cx.x cx.b d_Rd_readLine_100 hl (by decide) rfl (fun ls hl => ?_)
            refine lv_iload cx.x cx.b d_Rd_readLine_102 (lv_at hl 0 rfl) ?_
            refine lv_if_eq (tgt := 127) cx.x cx.b d_Rd_readLine_104 (by decide) (fun _ => ?_) (fun c => absurd (by decide) c)
            refine lv_iload_n cx.x cx.b d_Rd_readLine_127 rfl (lv_at hl 1 rfl) ?_
            refine lv_if_ne (tgt := 145) cx.x cx.b d_Rd_readLine_128 (by decide) (fun _ => ?_) (fun c => absurd c (by decide))
            rw [← hQ]
            exact hx_retv cx.x cx.b cx.r cx.k hlo (fun _ h => h) (by have h9 := hcc1; rw [← hG2] at h9; exact h9) (by have h9 := hcc2; rw [← hG2] at h9; exact h9) d_Rd_readLine_145 (⟨sa, us2, sp, ⟨_, _, _, _, _, _, _, _, _, _, _, hR5, hln5, hr5, hd5, hb5, hg5, rel2, own2, hN5⟩, nsub, k5⟩)
          · simp only [if_neg hfz, Bool.false_eq_true, if_false] at hG2
            rw [← hG2] at hQ
            refine hx_calli (iv_Rd_65_Rd cx (c_Rd_takeMemberA l hE hL hR4 hb4 hdc4 hrd4 hap4 rel own hfz) hR4.1 rfl hl.1 rfl (Nat.le_of_ble_eq_true rfl) d_Rd_readLine_90 ⟨Nat.le_of_ble_eq_true rfl, Nat.le_of_ble_eq_true rfl⟩ ⟨Nat.zero_le _, Nat.zero_le _⟩) hlo (fun _ h => h) (fun r158 H157 locs hp156 hlo => ?_)
            obtain ⟨hp156, hH9⟩ := hp156
            have hH9 := hH9.symm
            subst hH9
            subst hp156
            refine lv_goto (tgt := 100) cx.x cx.b d_Rd_readLine_93 (by decide) ?_
            refine lv_istore (lv' := [(4, .int (nI (tkM U vd))), (3, .int (bI true)), (0, .ref rd), (1, .int (nI i)), (2, .int (nI j))]) cx.x cx.b d_Rd_readLine_100 hl (by decide) rfl (fun ls hl => ?_)
            refine lv_iload cx.x cx.b d_Rd_readLine_102 (lv_at hl 0 rfl) ?_
            refine lv_if_eq (tgt := 127) cx.x cx.b d_Rd_readLine_104 (by decide) (fun c => absurd ((nI_eq (a := tkM U vd) (b := 0) (by omega) (by omega)).mp c) hfz) (fun _ => ?_)
            refine lv_aload_n cx.x cx.b d_Rd_readLine_107 rfl (lv_at hl 2 rfl) ?_
            refine gf_Rd_31_Rd cx hR4.1 rfl d_Rd_readLine_108 ?_
            refine lv_iload cx.x cx.b d_Rd_readLine_111 (lv_at hl 0 rfl) ?_
            refine lv_aload_n cx.x cx.b d_Rd_readLine_113 rfl (lv_at hl 2 rfl) ?_
            refine gf_Rd_35_Rd cx hR4.1 rfl d_Rd_readLine_114 ?_
            refine lv_aload_n cx.x cx.b d_Rd_readLine_117 rfl (lv_at hl 2 rfl) ?_
            refine gf_Rd_23_Rd cx hR4.1 rfl d_Rd_readLine_118 ?_
            refine hx_calli (iv_Rd_50_Ln cx (c_Ln_place l hE hln4 (by omega) (by omega)) hln4.1 rfl hl.1 rfl (Nat.le_of_ble_eq_true rfl) d_Rd_readLine_121 ⟨Nat.le_of_ble_eq_true rfl, Nat.le_of_ble_eq_true rfl⟩ ⟨Nat.zero_le _, Nat.zero_le _⟩) hlo (fun _ h => h) (fun r161 H160 locs hp159 hlo => ?_)
            obtain ⟨hp159, hH9⟩ := hp159
            have hH9 := hH9.symm
            subst hH9
            subst hp159
            refine hx_callv (iv_Rd_71_Dg cx (c_Dg_add l hE hg4 (by omega) (tkM U vd) (num + 1) (ws9 - i + 1)) hg4.1 rfl hl.1 rfl (Nat.le_of_ble_eq_true rfl) d_Rd_readLine_124 ⟨Nat.le_of_ble_eq_true rfl, Nat.le_of_ble_eq_true rfl⟩ ⟨Nat.zero_le _, Nat.zero_le _⟩) hlo (fun _ h => h) (fun H163 locs hp162 hlo => ?_)
            obtain ⟨g8, k8, z8⟩ := hp162
            have hR8 := hR4.ch k8 (fun z => by exact gdj hN 0 4 rfl rfl (by decide) (List.mem_singleton.mpr rfl) (dS_mem.mpr z))
            have hln8 := hln4.ch k8 (fun z => by exact gdj hN 1 4 rfl rfl (by decide) (List.mem_singleton.mpr rfl) (dS_mem.mpr z))
            have hr8 := hr4.ch k8 (fun z => by exact gdj hN 2 4 rfl rfl (by decide) List.mem_cons_self (dS_mem.mpr z)) (fun z => by exact gdj hN 2 4 rfl rfl (by decide) (List.mem_cons_of_mem _ List.mem_cons_self) (dS_mem.mpr z))
            have hd8 := hd4.ch k8 (fun q hq z => by exact gdj hN 3 4 rfl rfl (by decide) (fpD_dc.mpr hq) (dS_mem.mpr z))
            have hb8 := hb4.ch k8 (fun q hq z => by exact gdj hN 5 4 rfl rfl (by decide) hq (dS_mem.mpr z))
            have k9 := k4.tr (k8.mono (S' := fun q => q = rd ∨ q = ln ∨ dcS dr q ∨ dS dg n1 n2 n3 q ∨ q ∈ fpB E bl sa us sp) (fun q _ z => Or.inr (Or.inr (Or.inr (Or.inl z)))))
            refine lv_iload_n cx.x cx.b d_Rd_readLine_127 rfl (lv_at hl 1 rfl) ?_
            refine lv_if_ne (tgt := 145) cx.x cx.b d_Rd_readLine_128 (by decide) (fun _ => ?_) (fun c => absurd c (by decide))
            rw [← hQ]
            exact hx_retv cx.x cx.b cx.r cx.k hlo (fun _ h => h) (Nat.zero_le _) (Nat.zero_le _) d_Rd_readLine_145 (⟨sa, us, sp, ⟨_, _, _, _, _, _, _, _, _, _, _, hR8, hln8, hr8, hd8, hb8, g8, rel, own, hN⟩, fun q hq => Or.inl hq, k9⟩)
        · simp only [if_neg hfz] at hG2
          rw [← hG2] at hQ
          refine lv_if_ne (tgt := 102) cx.x cx.b d_Rd_readLine_75 (by decide) (fun _ => ?_) (fun c => absurd ((nI_eq (a := vf) (b := 0) (by omega) (by omega)).mp c) hfz)
          refine lv_iload cx.x cx.b d_Rd_readLine_102 (lv_at hl 0 rfl) ?_
          refine lv_if_eq (tgt := 127) cx.x cx.b d_Rd_readLine_104 (by decide) (fun c => absurd ((nI_eq (a := vf) (b := 0) (by omega) (by omega)).mp c) hfz) (fun _ => ?_)
          refine lv_aload_n cx.x cx.b d_Rd_readLine_107 rfl (lv_at hl 2 rfl) ?_
          refine gf_Rd_31_Rd cx hR3.1 rfl d_Rd_readLine_108 ?_
          refine lv_iload cx.x cx.b d_Rd_readLine_111 (lv_at hl 0 rfl) ?_
          refine lv_aload_n cx.x cx.b d_Rd_readLine_113 rfl (lv_at hl 2 rfl) ?_
          refine gf_Rd_35_Rd cx hR3.1 rfl d_Rd_readLine_114 ?_
          refine lv_aload_n cx.x cx.b d_Rd_readLine_117 rfl (lv_at hl 2 rfl) ?_
          refine gf_Rd_23_Rd cx hR3.1 rfl d_Rd_readLine_118 ?_
          refine hx_calli (iv_Rd_50_Ln cx (c_Ln_place l hE hln3 (by omega) (by omega)) hln3.1 rfl hl.1 rfl (Nat.le_of_ble_eq_true rfl) d_Rd_readLine_121 ⟨Nat.le_of_ble_eq_true rfl, Nat.le_of_ble_eq_true rfl⟩ ⟨Nat.zero_le _, Nat.zero_le _⟩) hlo (fun _ h => h) (fun r151 H150 locs hp149 hlo => ?_)
          obtain ⟨hp149, hH9⟩ := hp149
          have hH9 := hH9.symm
          subst hH9
          subst hp149
          refine hx_callv (iv_Rd_71_Dg cx (c_Dg_add l hE hg3 (by omega) (vf) (num + 1) (vs - i + 1)) hg3.1 rfl hl.1 rfl (Nat.le_of_ble_eq_true rfl) d_Rd_readLine_124 ⟨Nat.le_of_ble_eq_true rfl, Nat.le_of_ble_eq_true rfl⟩ ⟨Nat.zero_le _, Nat.zero_le _⟩) hlo (fun _ h => h) (fun H153 locs hp152 hlo => ?_)
          obtain ⟨g8, k8, z8⟩ := hp152
          have hR8 := hR3.ch k8 (fun z => by exact gdj hN 0 4 rfl rfl (by decide) (List.mem_singleton.mpr rfl) (dS_mem.mpr z))
          have hln8 := hln3.ch k8 (fun z => by exact gdj hN 1 4 rfl rfl (by decide) (List.mem_singleton.mpr rfl) (dS_mem.mpr z))
          have hr8 := hr3.ch k8 (fun z => by exact gdj hN 2 4 rfl rfl (by decide) List.mem_cons_self (dS_mem.mpr z)) (fun z => by exact gdj hN 2 4 rfl rfl (by decide) (List.mem_cons_of_mem _ List.mem_cons_self) (dS_mem.mpr z))
          have hd8 := hd3.ch k8 (fun q hq z => by exact gdj hN 3 4 rfl rfl (by decide) (fpD_dc.mpr hq) (dS_mem.mpr z))
          have hb8 := hb3.ch k8 (fun q hq z => by exact gdj hN 5 4 rfl rfl (by decide) hq (dS_mem.mpr z))
          have k9 := k3.tr (k8.mono (S' := fun q => q = rd ∨ q = ln ∨ dcS dr q ∨ dS dg n1 n2 n3 q ∨ q ∈ fpB E bl sa us sp) (fun q _ z => Or.inr (Or.inr (Or.inr (Or.inl z)))))
          refine lv_iload_n cx.x cx.b d_Rd_readLine_127 rfl (lv_at hl 1 rfl) ?_
          refine lv_if_ne (tgt := 145) cx.x cx.b d_Rd_readLine_128 (by decide) (fun _ => ?_) (fun c => absurd c (by decide))
          rw [← hQ]
          exact hx_retv cx.x cx.b cx.r cx.k hlo (fun _ h => h) (Nat.zero_le _) (Nat.zero_le _) d_Rd_readLine_145 (⟨sa, us, sp, ⟨_, _, _, _, _, _, _, _, _, _, _, hR8, hln8, hr8, hd8, hb8, g8, rel, own, hN⟩, fun q hq => Or.inl hq, k9⟩)
      · refine lv_if_eq (tgt := 66) cx.x cx.b d_Rd_readLine_62 (by decide) (fun c => absurd c (by decide)) (fun _ => ?_)
        rw [if_pos (show (true && true) = true from rfl)] at hG2
        rw [← hG2] at hQ
        rw [← hQ]
        exact hx_retv cx.x cx.b cx.r cx.k hlo (fun _ h => h) (Nat.zero_le _) (Nat.zero_le _) d_Rd_readLine_65 (⟨sa, us, sp, ⟨_, _, _, _, _, _, _, _, _, _, _, hR2, hln2, hr2, hd2, hb2, hg2, rel, own, hN⟩, fun q hq => Or.inl hq, k2⟩)
  refine lv_aload_n cx.x cx.b d_Rd_readLine_0 rfl (lv_at hl 0 rfl) ?_
  refine lv_dup cx.x cx.b d_Rd_readLine_1 rfl ?_
  refine gf_Rd_35_Rd cx hR.1 rfl d_Rd_readLine_2 ?_
  refine lv_iconst (v := 1) cx.x cx.b d_Rd_readLine_5 (by decide) ?_
  refine lv_iadd cx.x cx.b d_Rd_readLine_6 ?_
  refine lv_topi (fun x167 e_x167 => ?_)
  have e_x167 : x167 = nI (num + 1) := e_x167.trans (nI_1 num)
  subst e_x167
  refine pf_Rd_35_Rd cx hR.1 hlo hR.2 (Nat.le_of_ble_eq_true rfl) d_Rd_readLine_7 (fun H168 locs ho169 z_H168 o_H168 hlo => ?_)
  have ho169 : hOb (eD E) classes H168 rd 8 [.ref ln, .ref bl, .ref dg, .ref dr.1, .int (nI (num + 1)), .int (bI past), .int (bI brk), va_rf ow] := ho169
  have k2 : hCh (fun q => q = rd) H H168 := hCh.put z_H168 o_H168 rfl
  have hR2 : RdO E H168 rd ln bl dg dr.1 (num + 1) past brk ow := ⟨ho169, hR.2⟩
  have hln2 := hln.ch k2 (fun z => by exact gdj hN 1 0 rfl rfl (by decide) (List.mem_singleton.mpr rfl) (List.mem_singleton.mpr z))
  have hr2 := hr.ch k2 (fun z => by exact gdj hN 2 0 rfl rfl (by decide) List.mem_cons_self (List.mem_singleton.mpr z)) (fun z => by exact gdj hN 2 0 rfl rfl (by decide) (List.mem_cons_of_mem _ List.mem_cons_self) (List.mem_singleton.mpr z))
  have hb2 := hb.ch k2 (fun q hq z => by exact gdj hN 5 0 rfl rfl (by decide) hq (List.mem_singleton.mpr z))
  have hg2 := hg.ch k2 (fun q hq z => by exact gdj hN 4 0 rfl rfl (by decide) (dS_mem.mpr hq) (List.mem_singleton.mpr z))
  have hd2 := hd.ch k2 (fun q hq z => by exact gdj hN 3 0 rfl rfl (by decide) (fpD_dc.mpr hq) (List.mem_singleton.mpr z))
  have hO2 := hO.ch k2 (fun q z => by rw [z]; exact hR.2)
  have kk2 := (k2.mono (S' := fun q => q = rd ∨ q = ln ∨ dcS dr q ∨ dS dg n1 n2 n3 q ∨ q ∈ fpB E bl sa us sp) (fun q _ z => Or.inl z))
  refine lv_aload_n cx.x cx.b d_Rd_readLine_10 rfl (lv_at hl 0 rfl) ?_
  refine gf_Rd_23_Rd cx hR2.1 rfl d_Rd_readLine_11 ?_
  refine lv_iload_n cx.x cx.b d_Rd_readLine_14 rfl (lv_at hl 1 rfl) ?_
  refine lv_iload_n cx.x cx.b d_Rd_readLine_15 rfl (lv_at hl 2 rfl) ?_
  refine hx_callv (iv_Rd_39_Ln cx (c_Ln_frame l hE hln2 hr2 (ndn hN0 2 1 rfl rfl (by decide)) (ndn hN0 3 1 rfl rfl (by decide)) hij hj) hln2.1 rfl hl.1 rfl (Nat.le_of_ble_eq_true rfl) d_Rd_readLine_16 ⟨Nat.le_of_ble_eq_true rfl, Nat.le_of_ble_eq_true rfl⟩ ⟨Nat.zero_le _, Nat.zero_le _⟩) hlo (fun _ h => h) (fun H171 locs hp170 hlo => ?_)
  obtain ⟨hln3, k3, z3⟩ := hp170
  rw [he9, hs9, hx9] at hln3
  have hR3 := hR2.ch k3 (fun z => by exact gdj hN 0 1 rfl rfl (by decide) (List.mem_singleton.mpr rfl) (List.mem_singleton.mpr z))
  have hr3 := hr2.ch k3 (fun z => by exact gdj hN 2 1 rfl rfl (by decide) List.mem_cons_self (List.mem_singleton.mpr z)) (fun z => by exact gdj hN 2 1 rfl rfl (by decide) (List.mem_cons_of_mem _ List.mem_cons_self) (List.mem_singleton.mpr z))
  have hb3 := hb2.ch k3 (fun q hq z => by exact gdj hN 5 1 rfl rfl (by decide) hq (List.mem_singleton.mpr z))
  have hg3 := hg2.ch k3 (fun q hq z => by exact gdj hN 4 1 rfl rfl (by decide) (dS_mem.mpr hq) (List.mem_singleton.mpr z))
  have hd3 := hd2.ch k3 (fun q hq z => by exact gdj hN 3 1 rfl rfl (by decide) (fpD_dc.mpr hq) (List.mem_singleton.mpr z))
  have hO3 := hO2.ch k3 (fun q z => by rw [z]; exact hln2.2)
  have kk3 := kk2.tr (k3.mono (S' := fun q => q = rd ∨ q = ln ∨ dcS dr q ∨ dS dg n1 n2 n3 q ∨ q ∈ fpB E bl sa us sp) (fun q _ z => Or.inr (Or.inl z)))
  unfold rdL1 at hG
  refine lv_aload_n cx.x cx.b d_Rd_readLine_19 rfl (lv_at hl 0 rfl) ?_
  refine gf_Rd_23_Rd cx hR3.1 rfl d_Rd_readLine_20 ?_
  refine hx_calli (iv_Rd_43_Ln cx (c_Ln_isSkipped l hE hln3 hr3 (ndn hN0 2 1 rfl rfl (by decide)) (ndn hN0 3 1 rfl rfl (by decide)) (by omega) (by omega)) hln3.1 rfl hl.1 rfl (Nat.le_of_ble_eq_true rfl) d_Rd_readLine_23 ⟨Nat.le_of_ble_eq_true rfl, Nat.le_of_ble_eq_true rfl⟩ ⟨Nat.zero_le _, Nat.zero_le _⟩) hlo (fun _ h => h) (fun r174 H173 locs hp172 hlo => ?_)
  obtain ⟨hp172, hH9⟩ := hp172
  have hH9 := hH9.symm
  subst hH9
  subst hp172
  by_cases c1 : we9 ≤ ws9 ∨ txt.getD ws9 0 = 33
  · rw [show decide (we9 ≤ ws9 ∨ txt.getD ws9 0 = 33) = true from decide_eq_true c1]
    refine lv_if_ne (tgt := 36) cx.x cx.b d_Rd_readLine_26 (by decide) (fun _ => ?_) (fun c => absurd c (by decide))
    rw [if_pos c1] at hG
    rw [← hG] at hQ
    rw [← hQ]
    exact hx_retv cx.x cx.b cx.r cx.k hlo (fun _ h => h) (Nat.zero_le _) (Nat.zero_le _) d_Rd_readLine_36 (⟨sa, us, sp, ⟨_, _, _, _, _, _, _, _, _, _, _, hR3, hln3, hr3, hd3, hb3, hg3, rel, own, hN⟩, fun q hq => Or.inl hq, kk3⟩)
  · rw [show decide (we9 ≤ ws9 ∨ txt.getD ws9 0 = 33) = false from decide_eq_false c1]
    refine lv_if_ne (tgt := 36) cx.x cx.b d_Rd_readLine_26 (by decide) (fun c => absurd (by decide) c) (fun _ => ?_)
    rw [if_neg c1] at hG
    cases past
    · simp only [Bool.false_eq_true, if_false] at hG
      refine lv_aload_n cx.x cx.b d_Rd_readLine_29 rfl (lv_at hl 0 rfl) ?_
      refine hx_calli (iv_Rd_47_Rd cx (c_Rd_readFirstB l hE hS hR3 hln3 hr3 hd3 hb3 hg3 hN a1.1 a2.1 (by omega) hen hO3 (by omega)) hR3.1 rfl hl.1 rfl (Nat.le_of_ble_eq_true rfl) d_Rd_readLine_30 ⟨Nat.le_of_ble_eq_true rfl, Nat.le_of_ble_eq_true rfl⟩ ⟨Nat.zero_le _, Nat.zero_le _⟩) hlo (fun _ h => h) (fun r180 H179 locs hp178 hlo => ?_)
      obtain ⟨e4, hR4, ⟨a4, b4, hln4, hab⟩, ho4, hg4, k4, z4⟩ := hp178
      rw [hs9] at hab hg4
      rw [hx9] at hab
      have k4 : hCh (fun q => q = rd ∨ q = ln ∨ q = bl ∨ dS dg n1 n2 n3 q) H171 H179 := k4
      have hfF : (rdF txt en9 ws9 we9).1 = none ∨ (rdF txt en9 ws9 we9).1 = some 1 ∨ (rdF txt en9 ws9 we9).1 = some 2 := rdF_fm txt en9 ws9 we9
      generalize hF : (rdF txt en9 ws9 we9).1 = F at e4 hab ho4 hg4 hG hfF
      subst e4
      have hr4 := hr3.ch k4 (fun z => by rcases z with z | z | z | z; exact gdj hN 2 0 rfl rfl (by decide) List.mem_cons_self (List.mem_singleton.mpr z); exact gdj hN 2 1 rfl rfl (by decide) List.mem_cons_self (List.mem_singleton.mpr z); exact gdj hN 2 5 rfl rfl (by decide) List.mem_cons_self (by rw [z]; exact List.mem_cons_self); exact gdj hN 2 4 rfl rfl (by decide) List.mem_cons_self (dS_mem.mpr z)) (fun z => by rcases z with z | z | z | z; exact gdj hN 2 0 rfl rfl (by decide) (List.mem_cons_of_mem _ List.mem_cons_self) (List.mem_singleton.mpr z); exact gdj hN 2 1 rfl rfl (by decide) (List.mem_cons_of_mem _ List.mem_cons_self) (List.mem_singleton.mpr z); exact gdj hN 2 5 rfl rfl (by decide) (List.mem_cons_of_mem _ List.mem_cons_self) (by rw [z]; exact List.mem_cons_self); exact gdj hN 2 4 rfl rfl (by decide) (List.mem_cons_of_mem _ List.mem_cons_self) (dS_mem.mpr z))
      have hd4 := hd3.ch k4 (fun q hq z => by rcases z with z | z | z | z; exact gdj hN 3 0 rfl rfl (by decide) (fpD_dc.mpr hq) (List.mem_singleton.mpr z); exact gdj hN 3 1 rfl rfl (by decide) (fpD_dc.mpr hq) (List.mem_singleton.mpr z); exact gdj hN 3 5 rfl rfl (by decide) (fpD_dc.mpr hq) (by rw [z]; exact List.mem_cons_self); exact gdj hN 3 4 rfl rfl (by decide) (fpD_dc.mpr hq) (dS_mem.mpr z))
      have hO4 := hO3.ch k4 (fun q z => by rcases z with z | z | z | z; rw [z]; exact hR3.2; rw [z]; exact hln3.2; rw [z]; exact hb3.2.1; exact dS.lo hg3 q z)
      have kk4 := kk3.tr (k4.mono (S' := fun q => q = rd ∨ q = ln ∨ dcS dr q ∨ dS dg n1 n2 n3 q ∨ q ∈ fpB E bl sa us sp) (fun q _ z => by rcases z with z | z | z | z; exact Or.inl z; exact Or.inr (Or.inl z); exact Or.inr (Or.inr (Or.inr (Or.inr (by rw [z]; exact List.mem_cons_self)))); exact Or.inr (Or.inr (Or.inr (Or.inl z)))))
      have hb4 : Bs E H179 bl (F.getD fm) sa us sp := ⟨ho4, hb3.2.1, by rcases hfF with e | e | e <;> rw [e]; exact hfm9; exact Or.inl rfl; exact Or.inr rfl, hb3.2.2.2.1.ch k4 (fun q hq z => by rcases z with z | z | z | z; exact gdj hN 0 5 rfl rfl (by decide) (List.mem_singleton.mpr z) (List.mem_cons_of_mem _ hq); exact gdj hN 1 5 rfl rfl (by decide) (List.mem_singleton.mpr z) (List.mem_cons_of_mem _ hq); exact hb3.2.2.2.2 (z ▸ hq); exact gdj hN 4 5 rfl rfl (by decide) (dS_mem.mpr z) (List.mem_cons_of_mem _ hq)), hb3.2.2.2.2⟩
      cases F
      · show W p l e _ s m args below meth c H179 locs _ _ _ (F0 m 33 ls [.int (bI false)])
        refine lv_if_eq (tgt := 37) cx.x cx.b d_Rd_readLine_33 (by decide) (fun _ => ?_) (fun c => absurd (by decide) c)
        rw [if_pos rfl] at hg4
        obtain ⟨ea, eb⟩ := hab rfl
        subst ea
        subst eb
        exact BD _ _ _ hlo hR4 hln4 hr4 hd4 hb4 hg4 hO4 kk4 (by omega) (by rw [List.length_append, List.length_singleton]; omega) hG _ hl
      · rename_i f4
        show W p l e _ s m args below meth c H179 locs _ _ _ (F0 m 33 ls [.int (bI true)])
        refine lv_if_eq (tgt := 37) cx.x cx.b d_Rd_readLine_33 (by decide) (fun c => absurd c (by decide)) (fun _ => ?_)
        have hG : ((f4, true, brk, U, ds) : RSt) = G := hG
        rw [← hG] at hQ
        rw [if_neg (fun z => by cases z)] at hg4
        rw [← hQ]
        exact hx_retv cx.x cx.b cx.r cx.k hlo (fun _ h => h) (Nat.zero_le _) (Nat.zero_le _) d_Rd_readLine_36 (⟨sa, us, sp, ⟨_, _, _, _, _, _, _, _, _, _, _, hR4, hln4, hr4, hd4, hb4, hg4, rel, own, hN⟩, fun q hq => Or.inl hq, kk4⟩)
    · refine lv_aload_n cx.x cx.b d_Rd_readLine_29 rfl (lv_at hl 0 rfl) ?_
      refine hx_calli (iv_Rd_47_Rd cx (c_Rd_readFirstA l hE hR3) hR3.1 rfl hl.1 rfl (Nat.le_of_ble_eq_true rfl) d_Rd_readLine_30 ⟨Nat.le_of_ble_eq_true rfl, Nat.le_of_ble_eq_true rfl⟩ ⟨Nat.zero_le _, Nat.zero_le _⟩) hlo (fun _ h => h) (fun r177 H176 locs hp175 hlo => ?_)
      obtain ⟨hp175, hH9⟩ := hp175
      have hH9 := hH9.symm
      subst hH9
      subst hp175
      refine lv_if_eq (tgt := 37) cx.x cx.b d_Rd_readLine_33 (by decide) (fun _ => ?_) (fun c => absurd (by decide) c)
      simp only [if_true] at hG
      exact BD _ _ ds hlo hR3 hln3 hr3 hd3 hb3 hg3 hO3 kk3 (by omega) (by omega) hG _ hl
