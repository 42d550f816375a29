theorem va_So {E : hE} {H : Heap} {locs : List Loc} (hO : Old E H) (hlo : hLo (eB E) locs) : va_S (fun q => eB E ≤ q) (eH E) H locs := ⟨hO.1, fun q hq _ => hO.2 q hq, fun q hq => hlo q hq⟩
theorem law_gt {L i : Nat} (hL : L ≤ 3072) (hi : i ≤ 3072) : (nI L - 6 < nI i) ↔ L < i + 6 := by
  have e : (nI L - 6).toInt = (L : Int) - 6 := by
    rw [Int32.toInt_sub, nI_toInt (by omega), show (6 : Int32).toInt = 6 from rfl]
    exact Int.bmod_eq_of_le (by omega) (by omega)
  rw [Int32.lt_iff_toInt_lt, e, nI_toInt (by omega)]
  omega
theorem sd_lt (x b : Nat) (hb : b < 2) : (if x = 0 then b else 1 - b) < 2 := by
  by_cases c : x = 0
  · rw [if_pos c]; exact hb
  · rw [if_neg c]; omega
theorem sd_ne (x : Nat) : (if x = 0 then 1 else 1 - 1) ≠ (if x = 0 then 0 else 1 - 0) := by
  by_cases c : x = 0
  · rw [if_pos c, if_pos c]; decide
  · rw [if_neg c, if_neg c]; decide
theorem sd_o0 (x : Nat) : 1 - (if x = 0 then 0 else 1 - 0) = (if x = 0 then 1 else 1 - 1) := by
  by_cases c : x = 0
  · rw [if_pos c, if_pos c]
  · rw [if_neg c, if_neg c]
theorem sd_o1 (x : Nat) : 1 - (if x = 0 then 1 else 1 - 1) = (if x = 0 then 0 else 1 - 0) := by
  by_cases c : x = 0
  · rw [if_pos c, if_pos c]
  · rw [if_neg c, if_neg c]
theorem LR.swap {us vs : List TV} {txt : List Nat} {ds : List (Nat × Nat × Nat)} {fm fn : Nat} {g : MS} {U V : List TU} (h : LR us vs txt ds fm fn g U V) : LR vs us txt ds fn fm (g.1, up g.2 2 (1 - g.2 2)) V U := by
  obtain ⟨h1, h2, h3, h4, h5, h6, h7, h8⟩ := h
  refine ⟨h2, h1, h3, ?_, ?_, ?_, h7, h8⟩
  · show 1 - g.2 2 = 0 ∨ 1 - g.2 2 = 1
    omega
  · have e : (if 1 - g.2 2 = 0 then 0 else 1 - 0) = (if g.2 2 = 0 then 1 else 1 - 1) := by
      rcases h4 with q | q <;> rw [q] <;> rfl
    show Rows g.1 (if 1 - g.2 2 = 0 then 0 else 1 - 0) V ∧ g.1 3 (if 1 - g.2 2 = 0 then 0 else 1 - 0) = fn ∧ _
    rw [e]; exact h6
  · have e : (if 1 - g.2 2 = 0 then 1 else 1 - 1) = (if g.2 2 = 0 then 0 else 1 - 0) := by
      rcases h4 with q | q <;> rw [q] <;> rfl
    show Rows g.1 (if 1 - g.2 2 = 0 then 1 else 1 - 1) U ∧ g.1 3 (if 1 - g.2 2 = 0 then 1 else 1 - 1) = fm ∧ _
    rw [e]; exact h5
theorem LR.read0 {us vs us2 : List TV} {txt : List Nat} {ds : List (Nat × Nat × Nat)} {fm fn : Nat} {g g2 : MS} {U V : List TU} (h : LR us vs txt ds fm fn g U V) (hr : RelT us2 (rdA txt).2.2.2.1) (h1 : Rows g2.1 (if g.2 2 = 0 then 0 else 1 - 0) (rdA txt).2.2.2.1) (h2 : DgR (g2.1 1) (g2.2 1) (rdA txt).2.2.2.2) (h3 : g2.1 3 (if g.2 2 = 0 then 0 else 1 - 0) = (rdA txt).1) (h4 : Rfr (if g.2 2 = 0 then 0 else 1 - 0) g g2) : LR us2 vs txt (rdA txt).2.2.2.2 (rdA txt).1 fn g2 (rdA txt).2.2.2.1 V := by
  obtain ⟨a1, a2, ⟨t1, t2, t3, t4⟩, a4, a5, a6, a7, a8⟩ := h
  obtain ⟨⟨i1, i2⟩, i3, i4⟩ := rdA_all (okC_0 t1)
  have e := h4.2.2.2.2
  refine ⟨⟨hr, i1, i2⟩, a2, ⟨t1, t2, by rw [h4.1]; exact t3, h4.2.2.2.1.trans t4⟩, by rw [e]; exact a4, ?_, ?_, h2, by omega⟩
  · rw [e]; exact ⟨h1, h3, i3⟩
  · rw [e]; exact ⟨h4.2.1 _ _ (sd_lt _ 1 (by decide)) (sd_ne _) a6.1, (h4.2.2.1 _ (sd_ne _)).trans a6.2.1, a6.2.2⟩
theorem LR.read1 {us vs us2 : List TV} {txt : List Nat} {ds : List (Nat × Nat × Nat)} {fm fn : Nat} {g g2 : MS} {U V : List TU} (h : LR us vs txt ds fm fn g U V) (hr : RelT us2 (rdA txt).2.2.2.1) (h1 : Rows g2.1 (if g.2 2 = 0 then 1 else 1 - 1) (rdA txt).2.2.2.1) (h2 : DgR (g2.1 1) (g2.2 1) (rdA txt).2.2.2.2) (h3 : g2.1 3 (if g.2 2 = 0 then 1 else 1 - 1) = (rdA txt).1) (h4 : Rfr (if g.2 2 = 0 then 1 else 1 - 1) g g2) : LR us us2 txt (rdA txt).2.2.2.2 fm (rdA txt).1 g2 U (rdA txt).2.2.2.1 := by
  obtain ⟨a1, a2, ⟨t1, t2, t3, t4⟩, a4, a5, a6, a7, a8⟩ := h
  obtain ⟨⟨i1, i2⟩, i3, i4⟩ := rdA_all (okC_0 t1)
  have e := h4.2.2.2.2
  refine ⟨a1, ⟨hr, i1, i2⟩, ⟨t1, t2, by rw [h4.1]; exact t3, h4.2.2.2.1.trans t4⟩, by rw [e]; exact a4, ?_, ?_, h2, by omega⟩
  · rw [e]; exact ⟨h4.2.1 _ _ (sd_lt _ 0 (by decide)) (Ne.symm (sd_ne _)) a5.1, (h4.2.2.1 _ (Ne.symm (sd_ne _))).trans a5.2.1, a5.2.2⟩
  · rw [e]; exact ⟨h1, h3, i3⟩
theorem LR.fmt0 {us vs : List TV} {txt : List Nat} {ds : List (Nat × Nat × Nat)} {fm fn f1 : Nat} {g : MS} {U V : List TU} (h : LR us vs txt ds fm fn g U V) (hf : f1 = 1 ∨ f1 = 2) : LR us vs txt ds f1 fn (up g.1 3 (updN (g.1 3) (if g.2 2 = 0 then 0 else 1 - 0) f1), g.2) U V := by
  obtain ⟨a1, a2, a3, a4, a5, a6, a7, a8⟩ := h
  exact ⟨a1, a2, a3, a4, ⟨a5.1.cg rfl rfl rfl rfl rfl rfl rfl rfl, updN_s, hf⟩, ⟨a6.1.cg rfl rfl rfl rfl rfl rfl rfl rfl, (updN_n (sd_ne _)).trans a6.2.1, a6.2.2⟩, a7, a8⟩
theorem LR.fmt1 {us vs : List TV} {txt : List Nat} {ds : List (Nat × Nat × Nat)} {fm fn f1 : Nat} {g : MS} {U V : List TU} (h : LR us vs txt ds fm fn g U V) (hf : f1 = 1 ∨ f1 = 2) : LR us vs txt ds fm f1 (up g.1 3 (updN (g.1 3) (if g.2 2 = 0 then 1 else 1 - 1) f1), g.2) U V := by
  obtain ⟨a1, a2, a3, a4, a5, a6, a7, a8⟩ := h
  exact ⟨a1, a2, a3, a4, ⟨a5.1.cg rfl rfl rfl rfl rfl rfl rfl rfl, (updN_n (Ne.symm (sd_ne _))).trans a5.2.1, a5.2.2⟩, ⟨a6.1.cg rfl rfl rfl rfl rfl rfl rfl rfl, updN_s, hf⟩, a7, a8⟩
theorem tyR_ok2 {v : Int64} {n : Int32} {txt : List Nat} (h1 : ∀ x ∈ txt, okC x = true) (h2 : txt.length ≤ 480) : (∀ x ∈ (tyR v n txt).2, okC x = true) ∧ (tyR v n txt).2.length ≤ 480 := by
  unfold tyR
  split
  · rename_i c
    refine ⟨fun x hx => ?_, ?_⟩
    · rcases List.mem_append.mp hx with e | e
      · exact h1 x e
      · have : ∀ m, (∀ k, k < m → okC (byt v k) = true) → ∀ x ∈ bytD v m, okC x = true := by
          intro m
          induction m with
          | zero => intro _ x hx; cases hx
          | succ m ih =>
            intro ha x hx
            rcases List.mem_cons.mp hx with e | e
            · rw [e]; exact ha m (by omega)
            · exact ih (fun k hk => ha k (by omega)) x e
        exact this _ c.2.2.2.2 x e
    · show (txt ++ bytD v n.toNatClampNeg).length ≤ 480
      rw [List.length_append, bytD_len]; exact c.2.2.2.1
  · exact ⟨h1, h2⟩
theorem fm_is0 {us vs : List TV} {txt : List Nat} {ds : List (Nat × Nat × Nat)} {fm fn : Nat} {g : MS} {U V : List TU} (h : LR us vs txt ds fm fn g U V) : fdL 1 (lns (g.1 3 0) (if g.2 2 = 0 then us.map vwT else vs.map vwT)) (lns (g.1 3 1) (if g.2 2 = 0 then vs.map vwT else us.map vwT)) = if fm = fn then fdT 2 us vs else 1 := by
  obtain ⟨⟨a1, a2, a3⟩, ⟨b1, b2, b3⟩, -, h4, ⟨-, h5, h51⟩, ⟨-, h6, h61⟩, -, -⟩ := h
  have o1 := ((a1.sr a2).all a2 a3).1
  have o2 := ((b1.sr b2).all b2 b3).1
  rcases h4 with e | e
  · rw [if_pos e] at h5 h6
    rw [h5, h6, if_pos e, if_pos e, differ_eq o1 o2]
  · rw [if_neg (by omega)] at h5 h6
    have h5 : g.1 3 1 = fm := h5
    have h6 : g.1 3 0 = fn := h6
    rw [h5, h6, if_neg (by omega), if_neg (by omega), fdL_symm, differ_eq o1 o2]
set_option maxHeartbeats 8000000 in
set_option maxRecDepth 100000 in
theorem law_loop {p : Program} {l : Launch} {e : Env} {s : State} {m : MethodId} {below : List Frame} {meth : Method} {c : Code} {b L : Nat} {xs : Nat → Int32} {E : hE} (hE : EnvOk E) (hS : EnvS E) (hL : EnvL E) (cx : Cx E p s m #[Value.ref b] meth c "BaselineTextLaw" code 4 (some .boolean)) (hX : va_X b L xs s (eH E)) (hbl : b < eB E) (hL3 : L ≤ 3072) (hsz : s.heap.size = eB E) {a ma : Nat} {ad : Nat → Nat} : ∀ (k : Nat) (locs : List Loc) (ct : Nat) (H : Heap), hLo (eB E) locs → (L - 6 * ct < k) → (6 * ct ≤ L) → (LI E H a ma ad) → ∀ ls, lv_has ls 4 [(3, .int (nI (6 * ct))), (0, .ref b), (1, .ref a), (2, .ref ma)] → W p l e room_1 s m #[Value.ref b] below meth c H locs (30 + 680 * ct) (11827 + 7200 * ct) (lw_Z below #[Value.ref b] s) (F0 m 18 ls []) := by
  have hbA : ¬ (fun q : Nat => eB E ≤ q) b := Nat.not_le.mpr hbl
  intro k
  induction k with
  | zero => intro locs ct H hlo hk; exact absurd hk (by omega)
  | succ k ih =>
    intro locs ct H hlo hk hct hLI ls hl
    have NX : ∀ (locs : List Loc) (H5 : Heap) (cl sl : Nat), hLo (eB E) locs → (LI E H5 a ma ad) → (6 * ct + 6 ≤ L) → (cl ≤ 30 + 680 * (ct + 1)) → (sl ≤ 11827 + 7200 * (ct + 1)) → ∀ ls, lv_has ls 4 [(3, .int (nI (6 * ct))), (0, .ref b), (1, .ref a), (2, .ref ma)] → W p l e room_1 s m #[Value.ref b] below meth c H5 locs cl sl (lw_Z below #[Value.ref b] s) (F0 m 544 ls []) := by
      intro locs H5 cl sl hlo h5 hc6 hcl hsl ls hl
      obtain ⟨x1, e_x1⟩ : ∃ y : Int32, y = nI (6 * ct) + 6 := ⟨_, rfl⟩
      refine lv_iinc (v := x1) (lv' := [(3, .int x1), (0, .ref b), (1, .ref a), (2, .ref ma)]) cx.x cx.b d_Lw_law_544 hl (k := 0) rfl (by rw [e_x1]; rfl) (by decide) rfl (fun ls hl => ?_)
      have e_x1 : x1 = nI ((6 * ct) + 6) := e_x1.trans (nI_add (6 * ct) 6)
      subst e_x1
      refine lv_goto (tgt := 18) cx.x cx.b d_Lw_law_547 (by decide) ?_
      rw [show 6 * ct + 6 = 6 * (ct + 1) by omega] at hl
      refine W.widen hcl hsl ?_
      exact ih _ (ct + 1) H5 hlo (by omega) (by omega) h5 _ hl
    have hLI0 := hLI
    obtain ⟨tr, tarr, fr, farr, dg, n1, n2, n3, bl, bm, sa, sb, us, sp, vs, sq, txt, ot, fx, fo, ds, fm, fn, g, U, V, hB, hM, hdj, hR, hO⟩ := hLI
    refine lv_iload_n cx.x cx.b d_Lw_law_18 rfl (lv_at hl 0 rfl) ?_
    refine lv_aload_n cx.x cx.b d_Lw_law_19 rfl (lv_at hl 1 rfl) ?_
    refine va_slen cx.x cx.b hX hbl hbA (va_So hO hlo) d_Lw_law_20 ?_
    refine lv_bipush (v := 6) cx.x cx.b d_Lw_law_21 (by decide) ?_
    refine lv_isub cx.x cx.b d_Lw_law_23 ?_
    refine lv_topi (fun x2 e_x2 => ?_)
    refine lv_icmp_gt (tgt := 550) cx.x cx.b d_Lw_law_24 (by decide) (fun g0 => ?_) (fun g0 => ?_)
    · refine lv_iconst (v := 1) cx.x cx.b d_Lw_law_550 (by decide) ?_
      refine va_forget (fun q hq => by rw [hsz]; exact hlo q hq) ?_
      refine W.widen (k := 600000) (n := 7302250) (by omega) (by omega) ?_
      exact lw_ret cx.x cx.b cx.r cx.k d_Lw_law_551
    · have hi6 : 6 * ct + 6 ≤ L := Nat.not_lt.mp (fun z => g0 (by rw [e_x2]; exact (law_gt hL3 (by omega)).mpr (by omega)))
      obtain ⟨w0, hw0⟩ : ∃ w : Int32, w = xs (nI (6 * ct)).toNatClampNeg := ⟨_, rfl⟩
      obtain ⟨w1, hw1⟩ : ∃ w : Int32, w = xs (nI (6 * ct + 1)).toNatClampNeg := ⟨_, rfl⟩
      obtain ⟨w2, hw2⟩ : ∃ w : Int32, w = xs (nI (6 * ct + 2)).toNatClampNeg := ⟨_, rfl⟩
      obtain ⟨w3, hw3⟩ : ∃ w : Int32, w = xs (nI (6 * ct + 3)).toNatClampNeg := ⟨_, rfl⟩
      obtain ⟨w4, hw4⟩ : ∃ w : Int32, w = xs (nI (6 * ct + 4)).toNatClampNeg := ⟨_, rfl⟩
      obtain ⟨w5, hw5⟩ : ∃ w : Int32, w = xs (nI (6 * ct + 5)).toNatClampNeg := ⟨_, rfl⟩
      obtain ⟨⟨ru, iu, zu⟩, ⟨rv, iv, zv⟩, ⟨hxc, hxl, hx, hgs⟩, hcr, ⟨rU, fU, fU2⟩, ⟨rV, fV, fV2⟩, hD, hdl⟩ := id hR
      have cu := ru.sr iu
      have cv := rv.sr iv
      refine lv_aload_n cx.x cx.b d_Lw_law_27 rfl (lv_at hl 1 rfl) ?_
      refine lv_iload_n cx.x cx.b d_Lw_law_28 rfl (lv_at hl 0 rfl) ?_
      refine va_sld cx.x cx.b hX hbl hbA (va_So hO hlo) (vp_in_nI (show 6 * ct < L by omega) (by omega)) d_Lw_law_29 ?_
      rw [show xs (nI (6 * ct)).toNatClampNeg = w0 from hw0.symm]
      refine lv_bipush (v := 15) cx.x cx.b d_Lw_law_30 (by decide) ?_
      refine lv_iand cx.x cx.b d_Lw_law_32 ?_
      refine lv_topi (fun x3 e_x3 => ?_)
      by_cases k_0 : x3 = 0
      · subst k_0
        refine lv_tableIn (tgt := 104) (off := 71) cx.x cx.b d_Lw_law_33 (by decide) (by decide) (by decide) (by decide) ?_
        refine lv_aload_n cx.x cx.b d_Lw_law_104 rfl (lv_at hl 2 rfl) ?_
        refine lv_aload_n cx.x cx.b d_Lw_law_105 rfl (lv_at hl 1 rfl) ?_
        refine lv_iload_n cx.x cx.b d_Lw_law_106 rfl (lv_at hl 0 rfl) ?_
        refine lv_iconst (v := 1) cx.x cx.b d_Lw_law_107 (by decide) ?_
        refine lv_iadd cx.x cx.b d_Lw_law_108 ?_
        refine lv_topi (fun x4 e_x4 => ?_)
        have e_x4 : x4 = nI ((6 * ct) + 1) := e_x4.trans (nI_add (6 * ct) 1)
        subst e_x4
        refine va_sld cx.x cx.b hX hbl hbA (va_So hO hlo) (vp_in_nI (show 6 * ct + 1 < L by omega) (by omega)) d_Lw_law_109 ?_
        rw [show xs (nI (6 * ct + 1)).toNatClampNeg = w1 from hw1.symm]
        refine lv_i2l cx.x cx.b d_Lw_law_110 rfl ?_
        refine lv_topl (fun x5 e_x5 => ?_)
        subst e_x5
        refine lv_bipush (v := 32) cx.x cx.b d_Lw_law_111 (by decide) ?_
        refine lv_lshl cx.x cx.b d_Lw_law_113 rfl ?_
        refine lv_topl (fun x6 e_x6 => ?_)
        subst e_x6
        refine lv_aload_n cx.x cx.b d_Lw_law_114 rfl (lv_at hl 1 rfl) ?_
        refine lv_iload_n cx.x cx.b d_Lw_law_115 rfl (lv_at hl 0 rfl) ?_
        refine lv_iconst (v := 2) cx.x cx.b d_Lw_law_116 (by decide) ?_
        refine lv_iadd cx.x cx.b d_Lw_law_117 ?_
        refine lv_topi (fun x7 e_x7 => ?_)
        have e_x7 : x7 = nI ((6 * ct) + 2) := e_x7.trans (nI_add (6 * ct) 2)
        subst e_x7
        refine va_sld cx.x cx.b hX hbl hbA (va_So hO hlo) (vp_in_nI (show 6 * ct + 2 < L by omega) (by omega)) d_Lw_law_118 ?_
        rw [show xs (nI (6 * ct + 2)).toNatClampNeg = w2 from hw2.symm]
        refine lv_i2l cx.x cx.b d_Lw_law_119 rfl ?_
        refine lv_topl (fun x8 e_x8 => ?_)
        subst e_x8
        refine lv_ldc2 cx.x cx.b cx.o (cx.ts _ tw_1093) d_Lw_law_120 ?_
        refine lv_land cx.x cx.b d_Lw_law_123 ?_
        refine lv_topl (fun x9 e_x9 => ?_)
        subst e_x9
        refine lv_lor cx.x cx.b d_Lw_law_124 ?_
        refine lv_topl (fun x10 e_x10 => ?_)
        subst e_x10
        refine lv_aload_n cx.x cx.b d_Lw_law_125 rfl (lv_at hl 1 rfl) ?_
        refine lv_iload_n cx.x cx.b d_Lw_law_126 rfl (lv_at hl 0 rfl) ?_
        refine lv_iconst (v := 3) cx.x cx.b d_Lw_law_127 (by decide) ?_
        refine lv_iadd cx.x cx.b d_Lw_law_128 ?_
        refine lv_topi (fun x11 e_x11 => ?_)
        have e_x11 : x11 = nI ((6 * ct) + 3) := e_x11.trans (nI_add (6 * ct) 3)
        subst e_x11
        refine va_sld cx.x cx.b hX hbl hbA (va_So hO hlo) (vp_in_nI (show 6 * ct + 3 < L by omega) (by omega)) d_Lw_law_129 ?_
        rw [show xs (nI (6 * ct + 3)).toNatClampNeg = w3 from hw3.symm]
        refine hx_calli (iv_Lw_15_B cx (c_B_type l hE hB _ _) hB.1 rfl hl.1 rfl (Nat.le_of_ble_eq_true rfl) d_Lw_law_130 ⟨Nat.le_of_ble_eq_true rfl, Nat.le_of_ble_eq_true rfl⟩ ⟨by show 30 + 680 * ct + 0 ≤ 600000; omega, by show 11827 + 7200 * ct + 0 ≤ 7302250; omega⟩) hlo (fun _ h => h) (fun r14 H13 locs hp12 hlo => ?_)
        obtain ⟨q1, ⟨o2, hB1⟩, k1⟩ := hp12
        have hM1 := hM.cls k1 hdj
        have hO1 := hO.ch k1 hB.lo
        refine lv_aload_n cx.x cx.b d_Lw_law_133 rfl (lv_at hl 3 rfl) ?_
        refine lv_aload_n cx.x cx.b d_Lw_law_134 rfl (lv_at hl 1 rfl) ?_
        refine lv_iload_n cx.x cx.b d_Lw_law_135 rfl (lv_at hl 0 rfl) ?_
        refine lv_iconst (v := 1) cx.x cx.b d_Lw_law_136 (by decide) ?_
        refine lv_iadd cx.x cx.b d_Lw_law_137 ?_
        refine lv_topi (fun x15 e_x15 => ?_)
        have e_x15 : x15 = nI ((6 * ct) + 1) := e_x15.trans (nI_add (6 * ct) 1)
        subst e_x15
        refine va_sld cx.x cx.b hX hbl hbA (va_So hO1 hlo) (vp_in_nI (show 6 * ct + 1 < L by omega) (by omega)) d_Lw_law_138 ?_
        rw [show xs (nI (6 * ct + 1)).toNatClampNeg = w1 from hw1.symm]
        refine lv_i2l cx.x cx.b d_Lw_law_139 rfl ?_
        refine lv_topl (fun x16 e_x16 => ?_)
        subst e_x16
        refine lv_bipush (v := 32) cx.x cx.b d_Lw_law_140 (by decide) ?_
        refine lv_lshl cx.x cx.b d_Lw_law_142 rfl ?_
        refine lv_topl (fun x17 e_x17 => ?_)
        subst e_x17
        refine lv_aload_n cx.x cx.b d_Lw_law_143 rfl (lv_at hl 1 rfl) ?_
        refine lv_iload_n cx.x cx.b d_Lw_law_144 rfl (lv_at hl 0 rfl) ?_
        refine lv_iconst (v := 2) cx.x cx.b d_Lw_law_145 (by decide) ?_
        refine lv_iadd cx.x cx.b d_Lw_law_146 ?_
        refine lv_topi (fun x18 e_x18 => ?_)
        have e_x18 : x18 = nI ((6 * ct) + 2) := e_x18.trans (nI_add (6 * ct) 2)
        subst e_x18
        refine va_sld cx.x cx.b hX hbl hbA (va_So hO1 hlo) (vp_in_nI (show 6 * ct + 2 < L by omega) (by omega)) d_Lw_law_147 ?_
        rw [show xs (nI (6 * ct + 2)).toNatClampNeg = w2 from hw2.symm]
        refine lv_i2l cx.x cx.b d_Lw_law_148 rfl ?_
        refine lv_topl (fun x19 e_x19 => ?_)
        subst e_x19
        refine lv_ldc2 cx.x cx.b cx.o (cx.ts _ tw_1093) d_Lw_law_149 ?_
        refine lv_land cx.x cx.b d_Lw_law_152 ?_
        refine lv_topl (fun x20 e_x20 => ?_)
        subst e_x20
        refine lv_lor cx.x cx.b d_Lw_law_153 ?_
        refine lv_topl (fun x21 e_x21 => ?_)
        subst e_x21
        refine lv_aload_n cx.x cx.b d_Lw_law_154 rfl (lv_at hl 1 rfl) ?_
        refine lv_iload_n cx.x cx.b d_Lw_law_155 rfl (lv_at hl 0 rfl) ?_
        refine lv_iconst (v := 3) cx.x cx.b d_Lw_law_156 (by decide) ?_
        refine lv_iadd cx.x cx.b d_Lw_law_157 ?_
        refine lv_topi (fun x22 e_x22 => ?_)
        have e_x22 : x22 = nI ((6 * ct) + 3) := e_x22.trans (nI_add (6 * ct) 3)
        subst e_x22
        refine va_sld cx.x cx.b hX hbl hbA (va_So hO1 hlo) (vp_in_nI (show 6 * ct + 3 < L by omega) (by omega)) d_Lw_law_158 ?_
        rw [show xs (nI (6 * ct + 3)).toNatClampNeg = w3 from hw3.symm]
        refine hx_calli (iv_Lw_19_Mo cx (c_Mo_type l hE hM1 hx hxc hxl hgs _ _) hM1.1 rfl hl.1 rfl (Nat.le_of_ble_eq_true rfl) d_Lw_law_159 ⟨Nat.le_of_ble_eq_true rfl, Nat.le_of_ble_eq_true rfl⟩ ⟨by show 30 + 680 * ct + 0 + 0 ≤ 600000; omega, by show 11827 + 7200 * ct + 0 + 0 ≤ 7302250; omega⟩) hlo (fun _ h => h) (fun r25 H24 locs hp23 hlo => ?_)
        obtain ⟨q2, t9, n9, M9, p9, p8⟩ := hp23
        obtain ⟨y1, y2⟩ := tyR_ok2 hxc hxl
        have hreq : r14 = r25 := q1.trans q2.symm
        refine lv_icmp_eq (tgt := 544) cx.x cx.b d_Lw_law_162 (by decide) (fun _ => ?_) (fun c => absurd hreq c)
        exact NX _ _ _ _ hlo (LI.model hB1 M9 hdj (hR.mv rfl rfl rfl rfl rfl rfl rfl rfl rfl rfl rfl rfl ⟨y1, y2, p9, p8⟩) hO1) hi6 (by show 30 + 680 * ct + 0 + 0 ≤ 30 + 680 * (ct + 1); omega) (by show 11827 + 7200 * ct + 0 + 0 ≤ 11827 + 7200 * (ct + 1); omega) _ (lv_sub hl [0, 1, 2, 3] rfl)
      · by_cases k_1 : x3 = 1
        · subst k_1
          refine lv_tableIn (tgt := 167) (off := 134) cx.x cx.b d_Lw_law_33 (by decide) (by decide) (by decide) (by decide) ?_
          refine lv_aload_n cx.x cx.b d_Lw_law_167 rfl (lv_at hl 2 rfl) ?_
          refine hx_calli (iv_Lw_20_B cx (c_B_clear l hE hB) hB.1 rfl hl.1 rfl (Nat.le_of_ble_eq_true rfl) d_Lw_law_168 ⟨Nat.le_of_ble_eq_true rfl, Nat.le_of_ble_eq_true rfl⟩ ⟨by show 30 + 680 * ct + 0 ≤ 600000; omega, by show 11827 + 7200 * ct + 0 ≤ 7302250; omega⟩) hlo (fun _ h => h) (fun r28 H27 locs hp26 hlo => ?_)
          obtain ⟨q1, hB1, k1⟩ := hp26
          have hM1 := hM.cls k1 hdj
          have hO1 := hO.ch k1 hB.lo
          refine lv_aload_n cx.x cx.b d_Lw_law_171 rfl (lv_at hl 3 rfl) ?_
          refine hx_calli (iv_Lw_24_Mo cx (c_Mo_clear l hE hM1) hM1.1 rfl hl.1 rfl (Nat.le_of_ble_eq_true rfl) d_Lw_law_172 ⟨Nat.le_of_ble_eq_true rfl, Nat.le_of_ble_eq_true rfl⟩ ⟨by show 30 + 680 * ct + 0 + 0 ≤ 600000; omega, by show 11827 + 7200 * ct + 0 + 0 ≤ 7302250; omega⟩) hlo (fun _ h => h) (fun r31 H30 locs hp29 hlo => ?_)
          obtain ⟨q2, M9⟩ := hp29
          have hreq : r28 = r31 := by rw [q1, q2, hgs]
          refine lv_icmp_eq (tgt := 544) cx.x cx.b d_Lw_law_175 (by decide) (fun _ => ?_) (fun c => absurd hreq c)
          exact NX _ _ _ _ hlo (LI.model hB1 M9 hdj (hR.mv rfl rfl rfl rfl rfl rfl rfl rfl rfl rfl rfl rfl ⟨fun x hx => (by cases hx), Nat.zero_le _, fun i hi => absurd hi (Nat.not_lt_zero i), rfl⟩) hO1) hi6 (by show 30 + 680 * ct + 0 + 0 ≤ 30 + 680 * (ct + 1); omega) (by show 11827 + 7200 * ct + 0 + 0 ≤ 11827 + 7200 * (ct + 1); omega) _ (lv_sub hl [0, 1, 2, 3] rfl)
        · by_cases k_2 : x3 = 2
          · subst k_2
            refine lv_tableIn (tgt := 180) (off := 147) cx.x cx.b d_Lw_law_33 (by decide) (by decide) (by decide) (by decide) ?_
            by_cases hb0 : w1 = 0
            · subst hb0
              refine lv_aload_n cx.x cx.b d_Lw_law_180 rfl (lv_at hl 2 rfl) ?_
              refine lv_aload_n cx.x cx.b d_Lw_law_181 rfl (lv_at hl 1 rfl) ?_
              refine lv_iload_n cx.x cx.b d_Lw_law_182 rfl (lv_at hl 0 rfl) ?_
              refine lv_iconst (v := 1) cx.x cx.b d_Lw_law_183 (by decide) ?_
              refine lv_iadd cx.x cx.b d_Lw_law_184 ?_
              refine lv_topi (fun x32 e_x32 => ?_)
              have e_x32 : x32 = nI ((6 * ct) + 1) := e_x32.trans (nI_add (6 * ct) 1)
              subst e_x32
              refine va_sld cx.x cx.b hX hbl hbA (va_So hO hlo) (vp_in_nI (show 6 * ct + 1 < L by omega) (by omega)) d_Lw_law_185 ?_
              rw [show xs (nI (6 * ct + 1)).toNatClampNeg = 0 from hw1.symm]
              refine hx_calli (iv_Lw_25_B cx (c_B_read0 l hE hS hL hB hO) hB.1 rfl hl.1 rfl (Nat.le_of_ble_eq_true rfl) d_Lw_law_186 ⟨Nat.le_of_ble_eq_true rfl, Nat.le_of_ble_eq_true rfl⟩ ⟨by show 30 + 680 * ct + 680 ≤ 600000; omega, by show 11827 + 7200 * ct + 7200 ≤ 7302250; omega⟩) hlo (fun _ h => h) (fun r35 H34 locs hp33 hlo => ?_)
              obtain ⟨q1, ⟨sa2, us2, sp2, hB1, hr2, hf2⟩, k1⟩ := hp33
              have hM1 := hM.cls k1 hdj
              have hO1 := hO.ch k1 hB.lo
              refine lv_aload_n cx.x cx.b d_Lw_law_189 rfl (lv_at hl 3 rfl) ?_
              refine lv_aload_n cx.x cx.b d_Lw_law_190 rfl (lv_at hl 1 rfl) ?_
              refine lv_iload_n cx.x cx.b d_Lw_law_191 rfl (lv_at hl 0 rfl) ?_
              refine lv_iconst (v := 1) cx.x cx.b d_Lw_law_192 (by decide) ?_
              refine lv_iadd cx.x cx.b d_Lw_law_193 ?_
              refine lv_topi (fun x36 e_x36 => ?_)
              have e_x36 : x36 = nI ((6 * ct) + 1) := e_x36.trans (nI_add (6 * ct) 1)
              subst e_x36
              refine va_sld cx.x cx.b hX hbl hbA (va_So hO1 hlo) (vp_in_nI (show 6 * ct + 1 < L by omega) (by omega)) d_Lw_law_194 ?_
              rw [show xs (nI (6 * ct + 1)).toNatClampNeg = 0 from hw1.symm]
              refine hx_calli (iv_Lw_29_Mo cx (c_Mo_read l hE hM1 hx hxc hxl hgs hcr (b := 0) (by decide)) hM1.1 rfl hl.1 rfl (Nat.le_of_ble_eq_true rfl) d_Lw_law_195 ⟨Nat.le_of_ble_eq_true rfl, Nat.le_of_ble_eq_true rfl⟩ ⟨by show 30 + 680 * ct + 680 + 0 ≤ 600000; omega, by show 11827 + 7200 * ct + 7200 + 0 ≤ 7302250; omega⟩) hlo (fun _ h => h) (fun r39 H38 locs hp37 hlo => ?_)
              obtain ⟨q2, g2, M9, p1, p2, p3, p4⟩ := hp37
              have hdj1 : ∀ q ∈ (grB E a tr tarr fr farr dg n1 n2 n3 bl bm sa2 sb us2 sp2 vs sq).flatten, ¬ moS ma ad q := by
                intro q hq z
                have hqs := hM.lt q z
                rcases grB_in.mp hq with z9 | z9 | z9
                · exact hdj q (grB_in.mpr (Or.inl z9)) z
                · rcases hf2 q z9 with z8 | z8
                  · exact hdj q (grB_in.mpr (Or.inr (Or.inl z8))) z
                  · omega
                · exact hdj q (grB_in.mpr (Or.inr (Or.inr z9))) z
              have hreq : r35 = r39 := q1.trans q2.symm
              refine lv_icmp_eq (tgt := 544) cx.x cx.b d_Lw_law_198 (by decide) (fun _ => ?_) (fun c => absurd hreq c)
              exact NX _ _ _ _ hlo (LI.model hB1 M9 hdj1 (hR.read0 hr2 p1 p2 p3 p4) hO1) hi6 (by show 30 + 680 * ct + 680 + 0 ≤ 30 + 680 * (ct + 1); omega) (by show 11827 + 7200 * ct + 7200 + 0 ≤ 11827 + 7200 * (ct + 1); omega) _ (lv_sub hl [0, 1, 2, 3] rfl)
            · by_cases hb1 : w1 = 1
              · subst hb1
                refine lv_aload_n cx.x cx.b d_Lw_law_180 rfl (lv_at hl 2 rfl) ?_
                refine lv_aload_n cx.x cx.b d_Lw_law_181 rfl (lv_at hl 1 rfl) ?_
                refine lv_iload_n cx.x cx.b d_Lw_law_182 rfl (lv_at hl 0 rfl) ?_
                refine lv_iconst (v := 1) cx.x cx.b d_Lw_law_183 (by decide) ?_
                refine lv_iadd cx.x cx.b d_Lw_law_184 ?_
                refine lv_topi (fun x40 e_x40 => ?_)
                have e_x40 : x40 = nI ((6 * ct) + 1) := e_x40.trans (nI_add (6 * ct) 1)
                subst e_x40
                refine va_sld cx.x cx.b hX hbl hbA (va_So hO hlo) (vp_in_nI (show 6 * ct + 1 < L by omega) (by omega)) d_Lw_law_185 ?_
                rw [show xs (nI (6 * ct + 1)).toNatClampNeg = 1 from hw1.symm]
                refine hx_calli (iv_Lw_25_B cx (c_B_read1 l hE hS hL hB hO) hB.1 rfl hl.1 rfl (Nat.le_of_ble_eq_true rfl) d_Lw_law_186 ⟨Nat.le_of_ble_eq_true rfl, Nat.le_of_ble_eq_true rfl⟩ ⟨by show 30 + 680 * ct + 680 ≤ 600000; omega, by show 11827 + 7200 * ct + 7200 ≤ 7302250; omega⟩) hlo (fun _ h => h) (fun r43 H42 locs hp41 hlo => ?_)
                obtain ⟨q1, ⟨sa2, us2, sp2, hB1, hr2, hf2⟩, k1⟩ := hp41
                have hM1 := hM.cls k1 hdj
                have hO1 := hO.ch k1 hB.lo
                refine lv_aload_n cx.x cx.b d_Lw_law_189 rfl (lv_at hl 3 rfl) ?_
                refine lv_aload_n cx.x cx.b d_Lw_law_190 rfl (lv_at hl 1 rfl) ?_
                refine lv_iload_n cx.x cx.b d_Lw_law_191 rfl (lv_at hl 0 rfl) ?_
                refine lv_iconst (v := 1) cx.x cx.b d_Lw_law_192 (by decide) ?_
                refine lv_iadd cx.x cx.b d_Lw_law_193 ?_
                refine lv_topi (fun x44 e_x44 => ?_)
                have e_x44 : x44 = nI ((6 * ct) + 1) := e_x44.trans (nI_add (6 * ct) 1)
                subst e_x44
                refine va_sld cx.x cx.b hX hbl hbA (va_So hO1 hlo) (vp_in_nI (show 6 * ct + 1 < L by omega) (by omega)) d_Lw_law_194 ?_
                rw [show xs (nI (6 * ct + 1)).toNatClampNeg = 1 from hw1.symm]
                refine hx_calli (iv_Lw_29_Mo cx (c_Mo_read l hE hM1 hx hxc hxl hgs hcr (b := 1) (by decide)) hM1.1 rfl hl.1 rfl (Nat.le_of_ble_eq_true rfl) d_Lw_law_195 ⟨Nat.le_of_ble_eq_true rfl, Nat.le_of_ble_eq_true rfl⟩ ⟨by show 30 + 680 * ct + 680 + 0 ≤ 600000; omega, by show 11827 + 7200 * ct + 7200 + 0 ≤ 7302250; omega⟩) hlo (fun _ h => h) (fun r47 H46 locs hp45 hlo => ?_)
                obtain ⟨q2, g2, M9, p1, p2, p3, p4⟩ := hp45
                have hdj1 : ∀ q ∈ (grB E a tr tarr fr farr dg n1 n2 n3 bl bm sa sa2 us sp us2 sp2).flatten, ¬ moS ma ad q := by
                  intro q hq z
                  have hqs := hM.lt q z
                  rcases grB_in.mp hq with z9 | z9 | z9
                  · exact hdj q (grB_in.mpr (Or.inl z9)) z
                  · exact hdj q (grB_in.mpr (Or.inr (Or.inl z9))) z
                  · rcases hf2 q z9 with z8 | z8
                    · exact hdj q (grB_in.mpr (Or.inr (Or.inr z8))) z
                    · omega
                have hreq : r43 = r47 := q1.trans q2.symm
                refine lv_icmp_eq (tgt := 544) cx.x cx.b d_Lw_law_198 (by decide) (fun _ => ?_) (fun c => absurd hreq c)
                exact NX _ _ _ _ hlo (LI.model hB1 M9 hdj1 (hR.read1 hr2 p1 p2 p3 p4) hO1) hi6 (by show 30 + 680 * ct + 680 + 0 ≤ 30 + 680 * (ct + 1); omega) (by show 11827 + 7200 * ct + 7200 + 0 ≤ 11827 + 7200 * (ct + 1); omega) _ (lv_sub hl [0, 1, 2, 3] rfl)
              · have hbn : ¬ (w1 = 0 ∨ w1 = 1) := fun z => by rcases z with z | z; exact hb0 z; exact hb1 z
                refine lv_aload_n cx.x cx.b d_Lw_law_180 rfl (lv_at hl 2 rfl) ?_
                refine lv_aload_n cx.x cx.b d_Lw_law_181 rfl (lv_at hl 1 rfl) ?_
                refine lv_iload_n cx.x cx.b d_Lw_law_182 rfl (lv_at hl 0 rfl) ?_
                refine lv_iconst (v := 1) cx.x cx.b d_Lw_law_183 (by decide) ?_
                refine lv_iadd cx.x cx.b d_Lw_law_184 ?_
                refine lv_topi (fun x48 e_x48 => ?_)
                have e_x48 : x48 = nI ((6 * ct) + 1) := e_x48.trans (nI_add (6 * ct) 1)
                subst e_x48
                refine va_sld cx.x cx.b hX hbl hbA (va_So hO hlo) (vp_in_nI (show 6 * ct + 1 < L by omega) (by omega)) d_Lw_law_185 ?_
                rw [show xs (nI (6 * ct + 1)).toNatClampNeg = w1 from hw1.symm]
                refine hx_calli (iv_Lw_25_B cx (c_B_readN l hE hB hbn) hB.1 rfl hl.1 rfl (Nat.le_of_ble_eq_true rfl) d_Lw_law_186 ⟨Nat.le_of_ble_eq_true rfl, Nat.le_of_ble_eq_true rfl⟩ ⟨by show 30 + 680 * ct + 0 ≤ 600000; omega, by show 11827 + 7200 * ct + 0 ≤ 7302250; omega⟩) hlo (fun _ h => h) (fun r51 H50 locs hp49 hlo => ?_)
                obtain ⟨q1, hH9⟩ := hp49
                have hH9 := hH9.symm
                subst hH9
                refine lv_aload_n cx.x cx.b d_Lw_law_189 rfl (lv_at hl 3 rfl) ?_
                refine lv_aload_n cx.x cx.b d_Lw_law_190 rfl (lv_at hl 1 rfl) ?_
                refine lv_iload_n cx.x cx.b d_Lw_law_191 rfl (lv_at hl 0 rfl) ?_
                refine lv_iconst (v := 1) cx.x cx.b d_Lw_law_192 (by decide) ?_
                refine lv_iadd cx.x cx.b d_Lw_law_193 ?_
                refine lv_topi (fun x52 e_x52 => ?_)
                have e_x52 : x52 = nI ((6 * ct) + 1) := e_x52.trans (nI_add (6 * ct) 1)
                subst e_x52
                refine va_sld cx.x cx.b hX hbl hbA (va_So hO hlo) (vp_in_nI (show 6 * ct + 1 < L by omega) (by omega)) d_Lw_law_194 ?_
                rw [show xs (nI (6 * ct + 1)).toNatClampNeg = w1 from hw1.symm]
                refine hx_calli (iv_Lw_29_Mo cx (c_Mo_readN l hE hM hbn) hM.1 rfl hl.1 rfl (Nat.le_of_ble_eq_true rfl) d_Lw_law_195 ⟨Nat.le_of_ble_eq_true rfl, Nat.le_of_ble_eq_true rfl⟩ ⟨by show 30 + 680 * ct + 0 + 0 ≤ 600000; omega, by show 11827 + 7200 * ct + 0 + 0 ≤ 7302250; omega⟩) hlo (fun _ h => h) (fun r55 H54 locs hp53 hlo => ?_)
                obtain ⟨q2, hH9⟩ := hp53
                have hH9 := hH9.symm
                subst hH9
                have hreq : r51 = r55 := q1.trans q2.symm
                refine lv_icmp_eq (tgt := 544) cx.x cx.b d_Lw_law_198 (by decide) (fun _ => ?_) (fun c => absurd hreq c)
                exact NX _ _ _ _ hlo (LI.same hB hM hdj hR hO) hi6 (by show 30 + 680 * ct + 0 + 0 ≤ 30 + 680 * (ct + 1); omega) (by show 11827 + 7200 * ct + 0 + 0 ≤ 11827 + 7200 * (ct + 1); omega) _ (lv_sub hl [0, 1, 2, 3] rfl)
          · by_cases k_3 : x3 = 3
            · subst k_3
              refine lv_tableIn (tgt := 203) (off := 170) cx.x cx.b d_Lw_law_33 (by decide) (by decide) (by decide) (by decide) ?_
              by_cases hb0 : w1 = 0
              · subst hb0
                refine lv_aload_n cx.x cx.b d_Lw_law_203 rfl (lv_at hl 2 rfl) ?_
                refine lv_aload_n cx.x cx.b d_Lw_law_204 rfl (lv_at hl 1 rfl) ?_
                refine lv_iload_n cx.x cx.b d_Lw_law_205 rfl (lv_at hl 0 rfl) ?_
                refine lv_iconst (v := 1) cx.x cx.b d_Lw_law_206 (by decide) ?_
                refine lv_iadd cx.x cx.b d_Lw_law_207 ?_
                refine lv_topi (fun x56 e_x56 => ?_)
                have e_x56 : x56 = nI ((6 * ct) + 1) := e_x56.trans (nI_add (6 * ct) 1)
                subst e_x56
                refine va_sld cx.x cx.b hX hbl hbA (va_So hO hlo) (vp_in_nI (show 6 * ct + 1 < L by omega) (by omega)) d_Lw_law_208 ?_
                rw [show xs (nI (6 * ct + 1)).toNatClampNeg = 0 from hw1.symm]
                refine hx_calli (iv_Lw_30_B cx (c_B_write0 l hE hS hB hO (KOk_of ru iu zu)) hB.1 rfl hl.1 rfl (Nat.le_of_ble_eq_true rfl) d_Lw_law_209 ⟨Nat.le_of_ble_eq_true rfl, Nat.le_of_ble_eq_true rfl⟩ ⟨by show 30 + 680 * ct + 0 ≤ 600000; omega, by show 11827 + 7200 * ct + 0 ≤ 7302250; omega⟩) hlo (fun _ h => h) (fun r59 H58 locs hp57 hlo => ?_)
                obtain ⟨q1, ⟨o2, fx2, fo2, hB1⟩, k1⟩ := hp57
                have hM1 := hM.cls k1 hdj
                have hO1 := hO.ch k1 hB.lo
                refine lv_aload_n cx.x cx.b d_Lw_law_212 rfl (lv_at hl 3 rfl) ?_
                refine lv_aload_n cx.x cx.b d_Lw_law_213 rfl (lv_at hl 1 rfl) ?_
                refine lv_iload_n cx.x cx.b d_Lw_law_214 rfl (lv_at hl 0 rfl) ?_
                refine lv_iconst (v := 1) cx.x cx.b d_Lw_law_215 (by decide) ?_
                refine lv_iadd cx.x cx.b d_Lw_law_216 ?_
                refine lv_topi (fun x60 e_x60 => ?_)
                have e_x60 : x60 = nI ((6 * ct) + 1) := e_x60.trans (nI_add (6 * ct) 1)
                subst e_x60
                refine va_sld cx.x cx.b hX hbl hbA (va_So hO1 hlo) (vp_in_nI (show 6 * ct + 1 < L by omega) (by omega)) d_Lw_law_217 ?_
                rw [show xs (nI (6 * ct + 1)).toNatClampNeg = 0 from hw1.symm]
                refine hx_calli (iv_Lw_33_Mo cx (c_Mo_write l hE hM1 hx hxc hxl hgs hcr (b := 0) (by decide) (U := U) (C := us.map vwT) rU cu iu (by rw [fU]; omega)) hM1.1 rfl hl.1 rfl (Nat.le_of_ble_eq_true rfl) d_Lw_law_218 ⟨Nat.le_of_ble_eq_true rfl, Nat.le_of_ble_eq_true rfl⟩ ⟨by show 30 + 680 * ct + 0 + 0 ≤ 600000; omega, by show 11827 + 7200 * ct + 0 + 0 ≤ 7302250; omega⟩) hlo (fun _ h => h) (fun r63 H62 locs hp61 hlo => ?_)
                obtain ⟨q2, t9, o9, n9, w9, M9, p9, p8⟩ := hp61
                have eF : flT (lns (g.1 3 (if g.2 2 = 0 then 0 else 1 - 0)) (us.map vwT)) = formL fm us := by rw [fU]; exact (formL_lns fm us).symm
                rw [eF] at q2 p9 p8
                have hok := form_ok (fm := fm) ru iu zu fU2
                have ht2 : (∀ x ∈ (if (formL fm us).length ≤ 480 then formL fm us else txt), okC x = true) ∧ (if (formL fm us).length ≤ 480 then formL fm us else txt).length ≤ 480 := by
                  by_cases cF : (formL fm us).length ≤ 480
                  · rw [if_pos cF]; exact ⟨hok, cF⟩
                  · rw [if_neg cF]; exact ⟨hxc, hxl⟩
                have hreq : r59 = r63 := q1.trans q2.symm
                refine lv_icmp_eq (tgt := 544) cx.x cx.b d_Lw_law_221 (by decide) (fun _ => ?_) (fun c => absurd hreq c)
                exact NX _ _ _ _ hlo (LI.model hB1 M9 hdj (hR.mv rfl rfl rfl rfl rfl rfl rfl rfl rfl rfl rfl rfl ⟨ht2.1, ht2.2, p9, p8⟩) hO1) hi6 (by show 30 + 680 * ct + 0 + 0 ≤ 30 + 680 * (ct + 1); omega) (by show 11827 + 7200 * ct + 0 + 0 ≤ 11827 + 7200 * (ct + 1); omega) _ (lv_sub hl [0, 1, 2, 3] rfl)
              · by_cases hb1 : w1 = 1
                · subst hb1
                  refine lv_aload_n cx.x cx.b d_Lw_law_203 rfl (lv_at hl 2 rfl) ?_
                  refine lv_aload_n cx.x cx.b d_Lw_law_204 rfl (lv_at hl 1 rfl) ?_
                  refine lv_iload_n cx.x cx.b d_Lw_law_205 rfl (lv_at hl 0 rfl) ?_
                  refine lv_iconst (v := 1) cx.x cx.b d_Lw_law_206 (by decide) ?_
                  refine lv_iadd cx.x cx.b d_Lw_law_207 ?_
                  refine lv_topi (fun x64 e_x64 => ?_)
                  have e_x64 : x64 = nI ((6 * ct) + 1) := e_x64.trans (nI_add (6 * ct) 1)
                  subst e_x64
                  refine va_sld cx.x cx.b hX hbl hbA (va_So hO hlo) (vp_in_nI (show 6 * ct + 1 < L by omega) (by omega)) d_Lw_law_208 ?_
                  rw [show xs (nI (6 * ct + 1)).toNatClampNeg = 1 from hw1.symm]
                  refine hx_calli (iv_Lw_30_B cx (c_B_write1 l hE hS hB hO (KOk_of rv iv zv)) hB.1 rfl hl.1 rfl (Nat.le_of_ble_eq_true rfl) d_Lw_law_209 ⟨Nat.le_of_ble_eq_true rfl, Nat.le_of_ble_eq_true rfl⟩ ⟨by show 30 + 680 * ct + 0 ≤ 600000; omega, by show 11827 + 7200 * ct + 0 ≤ 7302250; omega⟩) hlo (fun _ h => h) (fun r67 H66 locs hp65 hlo => ?_)
                  obtain ⟨q1, ⟨o2, fx2, fo2, hB1⟩, k1⟩ := hp65
                  have hM1 := hM.cls k1 hdj
                  have hO1 := hO.ch k1 hB.lo
                  refine lv_aload_n cx.x cx.b d_Lw_law_212 rfl (lv_at hl 3 rfl) ?_
                  refine lv_aload_n cx.x cx.b d_Lw_law_213 rfl (lv_at hl 1 rfl) ?_
                  refine lv_iload_n cx.x cx.b d_Lw_law_214 rfl (lv_at hl 0 rfl) ?_
                  refine lv_iconst (v := 1) cx.x cx.b d_Lw_law_215 (by decide) ?_
                  refine lv_iadd cx.x cx.b d_Lw_law_216 ?_
                  refine lv_topi (fun x68 e_x68 => ?_)
                  have e_x68 : x68 = nI ((6 * ct) + 1) := e_x68.trans (nI_add (6 * ct) 1)
                  subst e_x68
                  refine va_sld cx.x cx.b hX hbl hbA (va_So hO1 hlo) (vp_in_nI (show 6 * ct + 1 < L by omega) (by omega)) d_Lw_law_217 ?_
                  rw [show xs (nI (6 * ct + 1)).toNatClampNeg = 1 from hw1.symm]
                  refine hx_calli (iv_Lw_33_Mo cx (c_Mo_write l hE hM1 hx hxc hxl hgs hcr (b := 1) (by decide) (U := V) (C := vs.map vwT) rV cv iv (by rw [fV]; omega)) hM1.1 rfl hl.1 rfl (Nat.le_of_ble_eq_true rfl) d_Lw_law_218 ⟨Nat.le_of_ble_eq_true rfl, Nat.le_of_ble_eq_true rfl⟩ ⟨by show 30 + 680 * ct + 0 + 0 ≤ 600000; omega, by show 11827 + 7200 * ct + 0 + 0 ≤ 7302250; omega⟩) hlo (fun _ h => h) (fun r71 H70 locs hp69 hlo => ?_)
                  obtain ⟨q2, t9, o9, n9, w9, M9, p9, p8⟩ := hp69
                  have eF : flT (lns (g.1 3 (if g.2 2 = 0 then 1 else 1 - 1)) (vs.map vwT)) = formL fn vs := by rw [fV]; exact (formL_lns fn vs).symm
                  rw [eF] at q2 p9 p8
                  have hok := form_ok (fm := fn) rv iv zv fV2
                  have ht2 : (∀ x ∈ (if (formL fn vs).length ≤ 480 then formL fn vs else txt), okC x = true) ∧ (if (formL fn vs).length ≤ 480 then formL fn vs else txt).length ≤ 480 := by
                    by_cases cF : (formL fn vs).length ≤ 480
                    · rw [if_pos cF]; exact ⟨hok, cF⟩
                    · rw [if_neg cF]; exact ⟨hxc, hxl⟩
                  have hreq : r67 = r71 := q1.trans q2.symm
                  refine lv_icmp_eq (tgt := 544) cx.x cx.b d_Lw_law_221 (by decide) (fun _ => ?_) (fun c => absurd hreq c)
                  exact NX _ _ _ _ hlo (LI.model hB1 M9 hdj (hR.mv rfl rfl rfl rfl rfl rfl rfl rfl rfl rfl rfl rfl ⟨ht2.1, ht2.2, p9, p8⟩) hO1) hi6 (by show 30 + 680 * ct + 0 + 0 ≤ 30 + 680 * (ct + 1); omega) (by show 11827 + 7200 * ct + 0 + 0 ≤ 11827 + 7200 * (ct + 1); omega) _ (lv_sub hl [0, 1, 2, 3] rfl)
                · have hbn : ¬ (w1 = 0 ∨ w1 = 1) := fun z => by rcases z with z | z; exact hb0 z; exact hb1 z
                  refine lv_aload_n cx.x cx.b d_Lw_law_203 rfl (lv_at hl 2 rfl) ?_
                  refine lv_aload_n cx.x cx.b d_Lw_law_204 rfl (lv_at hl 1 rfl) ?_
                  refine lv_iload_n cx.x cx.b d_Lw_law_205 rfl (lv_at hl 0 rfl) ?_
                  refine lv_iconst (v := 1) cx.x cx.b d_Lw_law_206 (by decide) ?_
                  refine lv_iadd cx.x cx.b d_Lw_law_207 ?_
                  refine lv_topi (fun x72 e_x72 => ?_)
                  have e_x72 : x72 = nI ((6 * ct) + 1) := e_x72.trans (nI_add (6 * ct) 1)
                  subst e_x72
                  refine va_sld cx.x cx.b hX hbl hbA (va_So hO hlo) (vp_in_nI (show 6 * ct + 1 < L by omega) (by omega)) d_Lw_law_208 ?_
                  rw [show xs (nI (6 * ct + 1)).toNatClampNeg = w1 from hw1.symm]
                  refine hx_calli (iv_Lw_30_B cx (c_B_writeN l hE hB hbn) hB.1 rfl hl.1 rfl (Nat.le_of_ble_eq_true rfl) d_Lw_law_209 ⟨Nat.le_of_ble_eq_true rfl, Nat.le_of_ble_eq_true rfl⟩ ⟨by show 30 + 680 * ct + 0 ≤ 600000; omega, by show 11827 + 7200 * ct + 0 ≤ 7302250; omega⟩) hlo (fun _ h => h) (fun r75 H74 locs hp73 hlo => ?_)
                  obtain ⟨q1, hH9⟩ := hp73
                  have hH9 := hH9.symm
                  subst hH9
                  refine lv_aload_n cx.x cx.b d_Lw_law_212 rfl (lv_at hl 3 rfl) ?_
                  refine lv_aload_n cx.x cx.b d_Lw_law_213 rfl (lv_at hl 1 rfl) ?_
                  refine lv_iload_n cx.x cx.b d_Lw_law_214 rfl (lv_at hl 0 rfl) ?_
                  refine lv_iconst (v := 1) cx.x cx.b d_Lw_law_215 (by decide) ?_
                  refine lv_iadd cx.x cx.b d_Lw_law_216 ?_
                  refine lv_topi (fun x76 e_x76 => ?_)
                  have e_x76 : x76 = nI ((6 * ct) + 1) := e_x76.trans (nI_add (6 * ct) 1)
                  subst e_x76
                  refine va_sld cx.x cx.b hX hbl hbA (va_So hO hlo) (vp_in_nI (show 6 * ct + 1 < L by omega) (by omega)) d_Lw_law_217 ?_
                  rw [show xs (nI (6 * ct + 1)).toNatClampNeg = w1 from hw1.symm]
                  refine hx_calli (iv_Lw_33_Mo cx (c_Mo_writeN l hE hM hbn) hM.1 rfl hl.1 rfl (Nat.le_of_ble_eq_true rfl) d_Lw_law_218 ⟨Nat.le_of_ble_eq_true rfl, Nat.le_of_ble_eq_true rfl⟩ ⟨by show 30 + 680 * ct + 0 + 0 ≤ 600000; omega, by show 11827 + 7200 * ct + 0 + 0 ≤ 7302250; omega⟩) hlo (fun _ h => h) (fun r79 H78 locs hp77 hlo => ?_)
                  obtain ⟨q2, hH9⟩ := hp77
                  have hH9 := hH9.symm
                  subst hH9
                  have hreq : r75 = r79 := q1.trans q2.symm
                  refine lv_icmp_eq (tgt := 544) cx.x cx.b d_Lw_law_221 (by decide) (fun _ => ?_) (fun c => absurd hreq c)
                  exact NX _ _ _ _ hlo (LI.same hB hM hdj hR hO) hi6 (by show 30 + 680 * ct + 0 + 0 ≤ 30 + 680 * (ct + 1); omega) (by show 11827 + 7200 * ct + 0 + 0 ≤ 11827 + 7200 * (ct + 1); omega) _ (lv_sub hl [0, 1, 2, 3] rfl)
            · by_cases k_4 : x3 = 4
              · subst k_4
                refine lv_tableIn (tgt := 226) (off := 193) cx.x cx.b d_Lw_law_33 (by decide) (by decide) (by decide) (by decide) ?_
                by_cases hb0 : w1 = 0
                · subst hb0
                  by_cases hf1 : w2 = 1
                  · subst hf1
                    refine lv_aload_n cx.x cx.b d_Lw_law_226 rfl (lv_at hl 2 rfl) ?_
                    refine lv_aload_n cx.x cx.b d_Lw_law_227 rfl (lv_at hl 1 rfl) ?_
                    refine lv_iload_n cx.x cx.b d_Lw_law_228 rfl (lv_at hl 0 rfl) ?_
                    refine lv_iconst (v := 1) cx.x cx.b d_Lw_law_229 (by decide) ?_
                    refine lv_iadd cx.x cx.b d_Lw_law_230 ?_
                    refine lv_topi (fun x100 e_x100 => ?_)
                    have e_x100 : x100 = nI ((6 * ct) + 1) := e_x100.trans (nI_add (6 * ct) 1)
                    subst e_x100
                    refine va_sld cx.x cx.b hX hbl hbA (va_So hO hlo) (vp_in_nI (show 6 * ct + 1 < L by omega) (by omega)) d_Lw_law_231 ?_
                    rw [show xs (nI (6 * ct + 1)).toNatClampNeg = 0 from hw1.symm]
                    refine lv_aload_n cx.x cx.b d_Lw_law_232 rfl (lv_at hl 1 rfl) ?_
                    refine lv_iload_n cx.x cx.b d_Lw_law_233 rfl (lv_at hl 0 rfl) ?_
                    refine lv_iconst (v := 2) cx.x cx.b d_Lw_law_234 (by decide) ?_
                    refine lv_iadd cx.x cx.b d_Lw_law_235 ?_
                    refine lv_topi (fun x101 e_x101 => ?_)
                    have e_x101 : x101 = nI ((6 * ct) + 2) := e_x101.trans (nI_add (6 * ct) 2)
                    subst e_x101
                    refine va_sld cx.x cx.b hX hbl hbA (va_So hO hlo) (vp_in_nI (show 6 * ct + 2 < L by omega) (by omega)) d_Lw_law_236 ?_
                    rw [show xs (nI (6 * ct + 2)).toNatClampNeg = 1 from hw2.symm]
                    refine hx_calli (iv_Lw_34_B cx (c_B_format0 l hE hB (f := 1) (Or.inl rfl)) hB.1 rfl hl.1 rfl (Nat.le_of_ble_eq_true rfl) d_Lw_law_237 ⟨Nat.le_of_ble_eq_true rfl, Nat.le_of_ble_eq_true rfl⟩ ⟨by show 30 + 680 * ct + 0 ≤ 600000; omega, by show 11827 + 7200 * ct + 0 ≤ 7302250; omega⟩) hlo (fun _ h => h) (fun r104 H103 locs hp102 hlo => ?_)
                    obtain ⟨q1, hB1, k1⟩ := hp102
                    have hM1 := hM.cls k1 hdj
                    have hO1 := hO.ch k1 hB.lo
                    refine lv_aload_n cx.x cx.b d_Lw_law_240 rfl (lv_at hl 3 rfl) ?_
                    refine lv_aload_n cx.x cx.b d_Lw_law_241 rfl (lv_at hl 1 rfl) ?_
                    refine lv_iload_n cx.x cx.b d_Lw_law_242 rfl (lv_at hl 0 rfl) ?_
                    refine lv_iconst (v := 1) cx.x cx.b d_Lw_law_243 (by decide) ?_
                    refine lv_iadd cx.x cx.b d_Lw_law_244 ?_
                    refine lv_topi (fun x105 e_x105 => ?_)
                    have e_x105 : x105 = nI ((6 * ct) + 1) := e_x105.trans (nI_add (6 * ct) 1)
                    subst e_x105
                    refine va_sld cx.x cx.b hX hbl hbA (va_So hO1 hlo) (vp_in_nI (show 6 * ct + 1 < L by omega) (by omega)) d_Lw_law_245 ?_
                    rw [show xs (nI (6 * ct + 1)).toNatClampNeg = 0 from hw1.symm]
                    refine lv_aload_n cx.x cx.b d_Lw_law_246 rfl (lv_at hl 1 rfl) ?_
                    refine lv_iload_n cx.x cx.b d_Lw_law_247 rfl (lv_at hl 0 rfl) ?_
                    refine lv_iconst (v := 2) cx.x cx.b d_Lw_law_248 (by decide) ?_
                    refine lv_iadd cx.x cx.b d_Lw_law_249 ?_
                    refine lv_topi (fun x106 e_x106 => ?_)
                    have e_x106 : x106 = nI ((6 * ct) + 2) := e_x106.trans (nI_add (6 * ct) 2)
                    subst e_x106
                    refine va_sld cx.x cx.b hX hbl hbA (va_So hO1 hlo) (vp_in_nI (show 6 * ct + 2 < L by omega) (by omega)) d_Lw_law_250 ?_
                    rw [show xs (nI (6 * ct + 2)).toNatClampNeg = 1 from hw2.symm]
                    refine hx_calli (iv_Lw_38_Mo cx (c_Mo_format l hE hM1 hcr (b := 0) (f1 := 1) (by decide) (Or.inl rfl)) hM1.1 rfl hl.1 rfl (Nat.le_of_ble_eq_true rfl) d_Lw_law_251 ⟨Nat.le_of_ble_eq_true rfl, Nat.le_of_ble_eq_true rfl⟩ ⟨by show 30 + 680 * ct + 0 + 0 ≤ 600000; omega, by show 11827 + 7200 * ct + 0 + 0 ≤ 7302250; omega⟩) hlo (fun _ h => h) (fun r109 H108 locs hp107 hlo => ?_)
                    obtain ⟨q2, M9⟩ := hp107
                    have hreq : r104 = r109 := by rw [q1, q2, fU]
                    refine lv_icmp_eq (tgt := 544) cx.x cx.b d_Lw_law_254 (by decide) (fun _ => ?_) (fun c => absurd hreq c)
                    exact NX _ _ _ _ hlo (LI.model hB1 M9 hdj (hR.fmt0 (Or.inl rfl)) hO1) hi6 (by show 30 + 680 * ct + 0 + 0 ≤ 30 + 680 * (ct + 1); omega) (by show 11827 + 7200 * ct + 0 + 0 ≤ 11827 + 7200 * (ct + 1); omega) _ (lv_sub hl [0, 1, 2, 3] rfl)
                  · by_cases hf2 : w2 = 2
                    · subst hf2
                      refine lv_aload_n cx.x cx.b d_Lw_law_226 rfl (lv_at hl 2 rfl) ?_
                      refine lv_aload_n cx.x cx.b d_Lw_law_227 rfl (lv_at hl 1 rfl) ?_
                      refine lv_iload_n cx.x cx.b d_Lw_law_228 rfl (lv_at hl 0 rfl) ?_
                      refine lv_iconst (v := 1) cx.x cx.b d_Lw_law_229 (by decide) ?_
                      refine lv_iadd cx.x cx.b d_Lw_law_230 ?_
                      refine lv_topi (fun x110 e_x110 => ?_)
                      have e_x110 : x110 = nI ((6 * ct) + 1) := e_x110.trans (nI_add (6 * ct) 1)
                      subst e_x110
                      refine va_sld cx.x cx.b hX hbl hbA (va_So hO hlo) (vp_in_nI (show 6 * ct + 1 < L by omega) (by omega)) d_Lw_law_231 ?_
                      rw [show xs (nI (6 * ct + 1)).toNatClampNeg = 0 from hw1.symm]
                      refine lv_aload_n cx.x cx.b d_Lw_law_232 rfl (lv_at hl 1 rfl) ?_
                      refine lv_iload_n cx.x cx.b d_Lw_law_233 rfl (lv_at hl 0 rfl) ?_
                      refine lv_iconst (v := 2) cx.x cx.b d_Lw_law_234 (by decide) ?_
                      refine lv_iadd cx.x cx.b d_Lw_law_235 ?_
                      refine lv_topi (fun x111 e_x111 => ?_)
                      have e_x111 : x111 = nI ((6 * ct) + 2) := e_x111.trans (nI_add (6 * ct) 2)
                      subst e_x111
                      refine va_sld cx.x cx.b hX hbl hbA (va_So hO hlo) (vp_in_nI (show 6 * ct + 2 < L by omega) (by omega)) d_Lw_law_236 ?_
                      rw [show xs (nI (6 * ct + 2)).toNatClampNeg = 2 from hw2.symm]
                      refine hx_calli (iv_Lw_34_B cx (c_B_format0 l hE hB (f := 2) (Or.inr rfl)) hB.1 rfl hl.1 rfl (Nat.le_of_ble_eq_true rfl) d_Lw_law_237 ⟨Nat.le_of_ble_eq_true rfl, Nat.le_of_ble_eq_true rfl⟩ ⟨by show 30 + 680 * ct + 0 ≤ 600000; omega, by show 11827 + 7200 * ct + 0 ≤ 7302250; omega⟩) hlo (fun _ h => h) (fun r114 H113 locs hp112 hlo => ?_)
                      obtain ⟨q1, hB1, k1⟩ := hp112
                      have hM1 := hM.cls k1 hdj
                      have hO1 := hO.ch k1 hB.lo
                      refine lv_aload_n cx.x cx.b d_Lw_law_240 rfl (lv_at hl 3 rfl) ?_
                      refine lv_aload_n cx.x cx.b d_Lw_law_241 rfl (lv_at hl 1 rfl) ?_
                      refine lv_iload_n cx.x cx.b d_Lw_law_242 rfl (lv_at hl 0 rfl) ?_
                      refine lv_iconst (v := 1) cx.x cx.b d_Lw_law_243 (by decide) ?_
                      refine lv_iadd cx.x cx.b d_Lw_law_244 ?_
                      refine lv_topi (fun x115 e_x115 => ?_)
                      have e_x115 : x115 = nI ((6 * ct) + 1) := e_x115.trans (nI_add (6 * ct) 1)
                      subst e_x115
                      refine va_sld cx.x cx.b hX hbl hbA (va_So hO1 hlo) (vp_in_nI (show 6 * ct + 1 < L by omega) (by omega)) d_Lw_law_245 ?_
                      rw [show xs (nI (6 * ct + 1)).toNatClampNeg = 0 from hw1.symm]
                      refine lv_aload_n cx.x cx.b d_Lw_law_246 rfl (lv_at hl 1 rfl) ?_
                      refine lv_iload_n cx.x cx.b d_Lw_law_247 rfl (lv_at hl 0 rfl) ?_
                      refine lv_iconst (v := 2) cx.x cx.b d_Lw_law_248 (by decide) ?_
                      refine lv_iadd cx.x cx.b d_Lw_law_249 ?_
                      refine lv_topi (fun x116 e_x116 => ?_)
                      have e_x116 : x116 = nI ((6 * ct) + 2) := e_x116.trans (nI_add (6 * ct) 2)
                      subst e_x116
                      refine va_sld cx.x cx.b hX hbl hbA (va_So hO1 hlo) (vp_in_nI (show 6 * ct + 2 < L by omega) (by omega)) d_Lw_law_250 ?_
                      rw [show xs (nI (6 * ct + 2)).toNatClampNeg = 2 from hw2.symm]
                      refine hx_calli (iv_Lw_38_Mo cx (c_Mo_format l hE hM1 hcr (b := 0) (f1 := 2) (by decide) (Or.inr rfl)) hM1.1 rfl hl.1 rfl (Nat.le_of_ble_eq_true rfl) d_Lw_law_251 ⟨Nat.le_of_ble_eq_true rfl, Nat.le_of_ble_eq_true rfl⟩ ⟨by show 30 + 680 * ct + 0 + 0 ≤ 600000; omega, by show 11827 + 7200 * ct + 0 + 0 ≤ 7302250; omega⟩) hlo (fun _ h => h) (fun r119 H118 locs hp117 hlo => ?_)
                      obtain ⟨q2, M9⟩ := hp117
                      have hreq : r114 = r119 := by rw [q1, q2, fU]
                      refine lv_icmp_eq (tgt := 544) cx.x cx.b d_Lw_law_254 (by decide) (fun _ => ?_) (fun c => absurd hreq c)
                      exact NX _ _ _ _ hlo (LI.model hB1 M9 hdj (hR.fmt0 (Or.inr rfl)) hO1) hi6 (by show 30 + 680 * ct + 0 + 0 ≤ 30 + 680 * (ct + 1); omega) (by show 11827 + 7200 * ct + 0 + 0 ≤ 11827 + 7200 * (ct + 1); omega) _ (lv_sub hl [0, 1, 2, 3] rfl)
                    · refine lv_aload_n cx.x cx.b d_Lw_law_226 rfl (lv_at hl 2 rfl) ?_
                      refine lv_aload_n cx.x cx.b d_Lw_law_227 rfl (lv_at hl 1 rfl) ?_
                      refine lv_iload_n cx.x cx.b d_Lw_law_228 rfl (lv_at hl 0 rfl) ?_
                      refine lv_iconst (v := 1) cx.x cx.b d_Lw_law_229 (by decide) ?_
                      refine lv_iadd cx.x cx.b d_Lw_law_230 ?_
                      refine lv_topi (fun x90 e_x90 => ?_)
                      have e_x90 : x90 = nI ((6 * ct) + 1) := e_x90.trans (nI_add (6 * ct) 1)
                      subst e_x90
                      refine va_sld cx.x cx.b hX hbl hbA (va_So hO hlo) (vp_in_nI (show 6 * ct + 1 < L by omega) (by omega)) d_Lw_law_231 ?_
                      rw [show xs (nI (6 * ct + 1)).toNatClampNeg = 0 from hw1.symm]
                      refine lv_aload_n cx.x cx.b d_Lw_law_232 rfl (lv_at hl 1 rfl) ?_
                      refine lv_iload_n cx.x cx.b d_Lw_law_233 rfl (lv_at hl 0 rfl) ?_
                      refine lv_iconst (v := 2) cx.x cx.b d_Lw_law_234 (by decide) ?_
                      refine lv_iadd cx.x cx.b d_Lw_law_235 ?_
                      refine lv_topi (fun x91 e_x91 => ?_)
                      have e_x91 : x91 = nI ((6 * ct) + 2) := e_x91.trans (nI_add (6 * ct) 2)
                      subst e_x91
                      refine va_sld cx.x cx.b hX hbl hbA (va_So hO hlo) (vp_in_nI (show 6 * ct + 2 < L by omega) (by omega)) d_Lw_law_236 ?_
                      rw [show xs (nI (6 * ct + 2)).toNatClampNeg = w2 from hw2.symm]
                      refine hx_calli (iv_Lw_34_B cx (c_B_formatN l hE hB (fun z => by rcases z.2 with z | z; exact hf1 z; exact hf2 z)) hB.1 rfl hl.1 rfl (Nat.le_of_ble_eq_true rfl) d_Lw_law_237 ⟨Nat.le_of_ble_eq_true rfl, Nat.le_of_ble_eq_true rfl⟩ ⟨by show 30 + 680 * ct + 0 ≤ 600000; omega, by show 11827 + 7200 * ct + 0 ≤ 7302250; omega⟩) hlo (fun _ h => h) (fun r94 H93 locs hp92 hlo => ?_)
                      obtain ⟨q1, hH9⟩ := hp92
                      have hH9 := hH9.symm
                      subst hH9
                      refine lv_aload_n cx.x cx.b d_Lw_law_240 rfl (lv_at hl 3 rfl) ?_
                      refine lv_aload_n cx.x cx.b d_Lw_law_241 rfl (lv_at hl 1 rfl) ?_
                      refine lv_iload_n cx.x cx.b d_Lw_law_242 rfl (lv_at hl 0 rfl) ?_
                      refine lv_iconst (v := 1) cx.x cx.b d_Lw_law_243 (by decide) ?_
                      refine lv_iadd cx.x cx.b d_Lw_law_244 ?_
                      refine lv_topi (fun x95 e_x95 => ?_)
                      have e_x95 : x95 = nI ((6 * ct) + 1) := e_x95.trans (nI_add (6 * ct) 1)
                      subst e_x95
                      refine va_sld cx.x cx.b hX hbl hbA (va_So hO hlo) (vp_in_nI (show 6 * ct + 1 < L by omega) (by omega)) d_Lw_law_245 ?_
                      rw [show xs (nI (6 * ct + 1)).toNatClampNeg = 0 from hw1.symm]
                      refine lv_aload_n cx.x cx.b d_Lw_law_246 rfl (lv_at hl 1 rfl) ?_
                      refine lv_iload_n cx.x cx.b d_Lw_law_247 rfl (lv_at hl 0 rfl) ?_
                      refine lv_iconst (v := 2) cx.x cx.b d_Lw_law_248 (by decide) ?_
                      refine lv_iadd cx.x cx.b d_Lw_law_249 ?_
                      refine lv_topi (fun x96 e_x96 => ?_)
                      have e_x96 : x96 = nI ((6 * ct) + 2) := e_x96.trans (nI_add (6 * ct) 2)
                      subst e_x96
                      refine va_sld cx.x cx.b hX hbl hbA (va_So hO hlo) (vp_in_nI (show 6 * ct + 2 < L by omega) (by omega)) d_Lw_law_250 ?_
                      rw [show xs (nI (6 * ct + 2)).toNatClampNeg = w2 from hw2.symm]
                      refine hx_calli (iv_Lw_38_Mo cx (c_Mo_formatN l hE hM (fun z => by rcases z.2 with z | z; exact hf1 z; exact hf2 z)) hM.1 rfl hl.1 rfl (Nat.le_of_ble_eq_true rfl) d_Lw_law_251 ⟨Nat.le_of_ble_eq_true rfl, Nat.le_of_ble_eq_true rfl⟩ ⟨by show 30 + 680 * ct + 0 + 0 ≤ 600000; omega, by show 11827 + 7200 * ct + 0 + 0 ≤ 7302250; omega⟩) hlo (fun _ h => h) (fun r99 H98 locs hp97 hlo => ?_)
                      obtain ⟨q2, hH9⟩ := hp97
                      have hH9 := hH9.symm
                      subst hH9
                      have hreq : r94 = r99 := q1.trans q2.symm
                      refine lv_icmp_eq (tgt := 544) cx.x cx.b d_Lw_law_254 (by decide) (fun _ => ?_) (fun c => absurd hreq c)
                      exact NX _ _ _ _ hlo (LI.same hB hM hdj hR hO) hi6 (by show 30 + 680 * ct + 0 + 0 ≤ 30 + 680 * (ct + 1); omega) (by show 11827 + 7200 * ct + 0 + 0 ≤ 11827 + 7200 * (ct + 1); omega) _ (lv_sub hl [0, 1, 2, 3] rfl)
                · by_cases hb1 : w1 = 1
                  · subst hb1
                    by_cases hf1 : w2 = 1
                    · subst hf1
                      refine lv_aload_n cx.x cx.b d_Lw_law_226 rfl (lv_at hl 2 rfl) ?_
                      refine lv_aload_n cx.x cx.b d_Lw_law_227 rfl (lv_at hl 1 rfl) ?_
                      refine lv_iload_n cx.x cx.b d_Lw_law_228 rfl (lv_at hl 0 rfl) ?_
                      refine lv_iconst (v := 1) cx.x cx.b d_Lw_law_229 (by decide) ?_
                      refine lv_iadd cx.x cx.b d_Lw_law_230 ?_
                      refine lv_topi (fun x130 e_x130 => ?_)
                      have e_x130 : x130 = nI ((6 * ct) + 1) := e_x130.trans (nI_add (6 * ct) 1)
                      subst e_x130
                      refine va_sld cx.x cx.b hX hbl hbA (va_So hO hlo) (vp_in_nI (show 6 * ct + 1 < L by omega) (by omega)) d_Lw_law_231 ?_
                      rw [show xs (nI (6 * ct + 1)).toNatClampNeg = 1 from hw1.symm]
                      refine lv_aload_n cx.x cx.b d_Lw_law_232 rfl (lv_at hl 1 rfl) ?_
                      refine lv_iload_n cx.x cx.b d_Lw_law_233 rfl (lv_at hl 0 rfl) ?_
                      refine lv_iconst (v := 2) cx.x cx.b d_Lw_law_234 (by decide) ?_
                      refine lv_iadd cx.x cx.b d_Lw_law_235 ?_
                      refine lv_topi (fun x131 e_x131 => ?_)
                      have e_x131 : x131 = nI ((6 * ct) + 2) := e_x131.trans (nI_add (6 * ct) 2)
                      subst e_x131
                      refine va_sld cx.x cx.b hX hbl hbA (va_So hO hlo) (vp_in_nI (show 6 * ct + 2 < L by omega) (by omega)) d_Lw_law_236 ?_
                      rw [show xs (nI (6 * ct + 2)).toNatClampNeg = 1 from hw2.symm]
                      refine hx_calli (iv_Lw_34_B cx (c_B_format1 l hE hB (f := 1) (Or.inl rfl)) hB.1 rfl hl.1 rfl (Nat.le_of_ble_eq_true rfl) d_Lw_law_237 ⟨Nat.le_of_ble_eq_true rfl, Nat.le_of_ble_eq_true rfl⟩ ⟨by show 30 + 680 * ct + 0 ≤ 600000; omega, by show 11827 + 7200 * ct + 0 ≤ 7302250; omega⟩) hlo (fun _ h => h) (fun r134 H133 locs hp132 hlo => ?_)
                      obtain ⟨q1, hB1, k1⟩ := hp132
                      have hM1 := hM.cls k1 hdj
                      have hO1 := hO.ch k1 hB.lo
                      refine lv_aload_n cx.x cx.b d_Lw_law_240 rfl (lv_at hl 3 rfl) ?_
                      refine lv_aload_n cx.x cx.b d_Lw_law_241 rfl (lv_at hl 1 rfl) ?_
                      refine lv_iload_n cx.x cx.b d_Lw_law_242 rfl (lv_at hl 0 rfl) ?_
                      refine lv_iconst (v := 1) cx.x cx.b d_Lw_law_243 (by decide) ?_
                      refine lv_iadd cx.x cx.b d_Lw_law_244 ?_
                      refine lv_topi (fun x135 e_x135 => ?_)
                      have e_x135 : x135 = nI ((6 * ct) + 1) := e_x135.trans (nI_add (6 * ct) 1)
                      subst e_x135
                      refine va_sld cx.x cx.b hX hbl hbA (va_So hO1 hlo) (vp_in_nI (show 6 * ct + 1 < L by omega) (by omega)) d_Lw_law_245 ?_
                      rw [show xs (nI (6 * ct + 1)).toNatClampNeg = 1 from hw1.symm]
                      refine lv_aload_n cx.x cx.b d_Lw_law_246 rfl (lv_at hl 1 rfl) ?_
                      refine lv_iload_n cx.x cx.b d_Lw_law_247 rfl (lv_at hl 0 rfl) ?_
                      refine lv_iconst (v := 2) cx.x cx.b d_Lw_law_248 (by decide) ?_
                      refine lv_iadd cx.x cx.b d_Lw_law_249 ?_
                      refine lv_topi (fun x136 e_x136 => ?_)
                      have e_x136 : x136 = nI ((6 * ct) + 2) := e_x136.trans (nI_add (6 * ct) 2)
                      subst e_x136
                      refine va_sld cx.x cx.b hX hbl hbA (va_So hO1 hlo) (vp_in_nI (show 6 * ct + 2 < L by omega) (by omega)) d_Lw_law_250 ?_
                      rw [show xs (nI (6 * ct + 2)).toNatClampNeg = 1 from hw2.symm]
                      refine hx_calli (iv_Lw_38_Mo cx (c_Mo_format l hE hM1 hcr (b := 1) (f1 := 1) (by decide) (Or.inl rfl)) hM1.1 rfl hl.1 rfl (Nat.le_of_ble_eq_true rfl) d_Lw_law_251 ⟨Nat.le_of_ble_eq_true rfl, Nat.le_of_ble_eq_true rfl⟩ ⟨by show 30 + 680 * ct + 0 + 0 ≤ 600000; omega, by show 11827 + 7200 * ct + 0 + 0 ≤ 7302250; omega⟩) hlo (fun _ h => h) (fun r139 H138 locs hp137 hlo => ?_)
                      obtain ⟨q2, M9⟩ := hp137
                      have hreq : r134 = r139 := by rw [q1, q2, fV]
                      refine lv_icmp_eq (tgt := 544) cx.x cx.b d_Lw_law_254 (by decide) (fun _ => ?_) (fun c => absurd hreq c)
                      exact NX _ _ _ _ hlo (LI.model hB1 M9 hdj (hR.fmt1 (Or.inl rfl)) hO1) hi6 (by show 30 + 680 * ct + 0 + 0 ≤ 30 + 680 * (ct + 1); omega) (by show 11827 + 7200 * ct + 0 + 0 ≤ 11827 + 7200 * (ct + 1); omega) _ (lv_sub hl [0, 1, 2, 3] rfl)
                    · by_cases hf2 : w2 = 2
                      · subst hf2
                        refine lv_aload_n cx.x cx.b d_Lw_law_226 rfl (lv_at hl 2 rfl) ?_
                        refine lv_aload_n cx.x cx.b d_Lw_law_227 rfl (lv_at hl 1 rfl) ?_
                        refine lv_iload_n cx.x cx.b d_Lw_law_228 rfl (lv_at hl 0 rfl) ?_
                        refine lv_iconst (v := 1) cx.x cx.b d_Lw_law_229 (by decide) ?_
                        refine lv_iadd cx.x cx.b d_Lw_law_230 ?_
                        refine lv_topi (fun x140 e_x140 => ?_)
                        have e_x140 : x140 = nI ((6 * ct) + 1) := e_x140.trans (nI_add (6 * ct) 1)
                        subst e_x140
                        refine va_sld cx.x cx.b hX hbl hbA (va_So hO hlo) (vp_in_nI (show 6 * ct + 1 < L by omega) (by omega)) d_Lw_law_231 ?_
                        rw [show xs (nI (6 * ct + 1)).toNatClampNeg = 1 from hw1.symm]
                        refine lv_aload_n cx.x cx.b d_Lw_law_232 rfl (lv_at hl 1 rfl) ?_
                        refine lv_iload_n cx.x cx.b d_Lw_law_233 rfl (lv_at hl 0 rfl) ?_
                        refine lv_iconst (v := 2) cx.x cx.b d_Lw_law_234 (by decide) ?_
                        refine lv_iadd cx.x cx.b d_Lw_law_235 ?_
                        refine lv_topi (fun x141 e_x141 => ?_)
                        have e_x141 : x141 = nI ((6 * ct) + 2) := e_x141.trans (nI_add (6 * ct) 2)
                        subst e_x141
                        refine va_sld cx.x cx.b hX hbl hbA (va_So hO hlo) (vp_in_nI (show 6 * ct + 2 < L by omega) (by omega)) d_Lw_law_236 ?_
                        rw [show xs (nI (6 * ct + 2)).toNatClampNeg = 2 from hw2.symm]
                        refine hx_calli (iv_Lw_34_B cx (c_B_format1 l hE hB (f := 2) (Or.inr rfl)) hB.1 rfl hl.1 rfl (Nat.le_of_ble_eq_true rfl) d_Lw_law_237 ⟨Nat.le_of_ble_eq_true rfl, Nat.le_of_ble_eq_true rfl⟩ ⟨by show 30 + 680 * ct + 0 ≤ 600000; omega, by show 11827 + 7200 * ct + 0 ≤ 7302250; omega⟩) hlo (fun _ h => h) (fun r144 H143 locs hp142 hlo => ?_)
                        obtain ⟨q1, hB1, k1⟩ := hp142
                        have hM1 := hM.cls k1 hdj
                        have hO1 := hO.ch k1 hB.lo
                        refine lv_aload_n cx.x cx.b d_Lw_law_240 rfl (lv_at hl 3 rfl) ?_
                        refine lv_aload_n cx.x cx.b d_Lw_law_241 rfl (lv_at hl 1 rfl) ?_
                        refine lv_iload_n cx.x cx.b d_Lw_law_242 rfl (lv_at hl 0 rfl) ?_
                        refine lv_iconst (v := 1) cx.x cx.b d_Lw_law_243 (by decide) ?_
                        refine lv_iadd cx.x cx.b d_Lw_law_244 ?_
                        refine lv_topi (fun x145 e_x145 => ?_)
                        have e_x145 : x145 = nI ((6 * ct) + 1) := e_x145.trans (nI_add (6 * ct) 1)
                        subst e_x145
                        refine va_sld cx.x cx.b hX hbl hbA (va_So hO1 hlo) (vp_in_nI (show 6 * ct + 1 < L by omega) (by omega)) d_Lw_law_245 ?_
                        rw [show xs (nI (6 * ct + 1)).toNatClampNeg = 1 from hw1.symm]
                        refine lv_aload_n cx.x cx.b d_Lw_law_246 rfl (lv_at hl 1 rfl) ?_
                        refine lv_iload_n cx.x cx.b d_Lw_law_247 rfl (lv_at hl 0 rfl) ?_
                        refine lv_iconst (v := 2) cx.x cx.b d_Lw_law_248 (by decide) ?_
                        refine lv_iadd cx.x cx.b d_Lw_law_249 ?_
                        refine lv_topi (fun x146 e_x146 => ?_)
                        have e_x146 : x146 = nI ((6 * ct) + 2) := e_x146.trans (nI_add (6 * ct) 2)
                        subst e_x146
                        refine va_sld cx.x cx.b hX hbl hbA (va_So hO1 hlo) (vp_in_nI (show 6 * ct + 2 < L by omega) (by omega)) d_Lw_law_250 ?_
                        rw [show xs (nI (6 * ct + 2)).toNatClampNeg = 2 from hw2.symm]
                        refine hx_calli (iv_Lw_38_Mo cx (c_Mo_format l hE hM1 hcr (b := 1) (f1 := 2) (by decide) (Or.inr rfl)) hM1.1 rfl hl.1 rfl (Nat.le_of_ble_eq_true rfl) d_Lw_law_251 ⟨Nat.le_of_ble_eq_true rfl, Nat.le_of_ble_eq_true rfl⟩ ⟨by show 30 + 680 * ct + 0 + 0 ≤ 600000; omega, by show 11827 + 7200 * ct + 0 + 0 ≤ 7302250; omega⟩) hlo (fun _ h => h) (fun r149 H148 locs hp147 hlo => ?_)
                        obtain ⟨q2, M9⟩ := hp147
                        have hreq : r144 = r149 := by rw [q1, q2, fV]
                        refine lv_icmp_eq (tgt := 544) cx.x cx.b d_Lw_law_254 (by decide) (fun _ => ?_) (fun c => absurd hreq c)
                        exact NX _ _ _ _ hlo (LI.model hB1 M9 hdj (hR.fmt1 (Or.inr rfl)) hO1) hi6 (by show 30 + 680 * ct + 0 + 0 ≤ 30 + 680 * (ct + 1); omega) (by show 11827 + 7200 * ct + 0 + 0 ≤ 11827 + 7200 * (ct + 1); omega) _ (lv_sub hl [0, 1, 2, 3] rfl)
                      · refine lv_aload_n cx.x cx.b d_Lw_law_226 rfl (lv_at hl 2 rfl) ?_
                        refine lv_aload_n cx.x cx.b d_Lw_law_227 rfl (lv_at hl 1 rfl) ?_
                        refine lv_iload_n cx.x cx.b d_Lw_law_228 rfl (lv_at hl 0 rfl) ?_
                        refine lv_iconst (v := 1) cx.x cx.b d_Lw_law_229 (by decide) ?_
                        refine lv_iadd cx.x cx.b d_Lw_law_230 ?_
                        refine lv_topi (fun x120 e_x120 => ?_)
                        have e_x120 : x120 = nI ((6 * ct) + 1) := e_x120.trans (nI_add (6 * ct) 1)
                        subst e_x120
                        refine va_sld cx.x cx.b hX hbl hbA (va_So hO hlo) (vp_in_nI (show 6 * ct + 1 < L by omega) (by omega)) d_Lw_law_231 ?_
                        rw [show xs (nI (6 * ct + 1)).toNatClampNeg = 1 from hw1.symm]
                        refine lv_aload_n cx.x cx.b d_Lw_law_232 rfl (lv_at hl 1 rfl) ?_
                        refine lv_iload_n cx.x cx.b d_Lw_law_233 rfl (lv_at hl 0 rfl) ?_
                        refine lv_iconst (v := 2) cx.x cx.b d_Lw_law_234 (by decide) ?_
                        refine lv_iadd cx.x cx.b d_Lw_law_235 ?_
                        refine lv_topi (fun x121 e_x121 => ?_)
                        have e_x121 : x121 = nI ((6 * ct) + 2) := e_x121.trans (nI_add (6 * ct) 2)
                        subst e_x121
                        refine va_sld cx.x cx.b hX hbl hbA (va_So hO hlo) (vp_in_nI (show 6 * ct + 2 < L by omega) (by omega)) d_Lw_law_236 ?_
                        rw [show xs (nI (6 * ct + 2)).toNatClampNeg = w2 from hw2.symm]
                        refine hx_calli (iv_Lw_34_B cx (c_B_formatN l hE hB (fun z => by rcases z.2 with z | z; exact hf1 z; exact hf2 z)) hB.1 rfl hl.1 rfl (Nat.le_of_ble_eq_true rfl) d_Lw_law_237 ⟨Nat.le_of_ble_eq_true rfl, Nat.le_of_ble_eq_true rfl⟩ ⟨by show 30 + 680 * ct + 0 ≤ 600000; omega, by show 11827 + 7200 * ct + 0 ≤ 7302250; omega⟩) hlo (fun _ h => h) (fun r124 H123 locs hp122 hlo => ?_)
                        obtain ⟨q1, hH9⟩ := hp122
                        have hH9 := hH9.symm
                        subst hH9
                        refine lv_aload_n cx.x cx.b d_Lw_law_240 rfl (lv_at hl 3 rfl) ?_
                        refine lv_aload_n cx.x cx.b d_Lw_law_241 rfl (lv_at hl 1 rfl) ?_
                        refine lv_iload_n cx.x cx.b d_Lw_law_242 rfl (lv_at hl 0 rfl) ?_
                        refine lv_iconst (v := 1) cx.x cx.b d_Lw_law_243 (by decide) ?_
                        refine lv_iadd cx.x cx.b d_Lw_law_244 ?_
                        refine lv_topi (fun x125 e_x125 => ?_)
                        have e_x125 : x125 = nI ((6 * ct) + 1) := e_x125.trans (nI_add (6 * ct) 1)
                        subst e_x125
                        refine va_sld cx.x cx.b hX hbl hbA (va_So hO hlo) (vp_in_nI (show 6 * ct + 1 < L by omega) (by omega)) d_Lw_law_245 ?_
                        rw [show xs (nI (6 * ct + 1)).toNatClampNeg = 1 from hw1.symm]
                        refine lv_aload_n cx.x cx.b d_Lw_law_246 rfl (lv_at hl 1 rfl) ?_
                        refine lv_iload_n cx.x cx.b d_Lw_law_247 rfl (lv_at hl 0 rfl) ?_
                        refine lv_iconst (v := 2) cx.x cx.b d_Lw_law_248 (by decide) ?_
                        refine lv_iadd cx.x cx.b d_Lw_law_249 ?_
                        refine lv_topi (fun x126 e_x126 => ?_)
                        have e_x126 : x126 = nI ((6 * ct) + 2) := e_x126.trans (nI_add (6 * ct) 2)
                        subst e_x126
                        refine va_sld cx.x cx.b hX hbl hbA (va_So hO hlo) (vp_in_nI (show 6 * ct + 2 < L by omega) (by omega)) d_Lw_law_250 ?_
                        rw [show xs (nI (6 * ct + 2)).toNatClampNeg = w2 from hw2.symm]
                        refine hx_calli (iv_Lw_38_Mo cx (c_Mo_formatN l hE hM (fun z => by rcases z.2 with z | z; exact hf1 z; exact hf2 z)) hM.1 rfl hl.1 rfl (Nat.le_of_ble_eq_true rfl) d_Lw_law_251 ⟨Nat.le_of_ble_eq_true rfl, Nat.le_of_ble_eq_true rfl⟩ ⟨by show 30 + 680 * ct + 0 + 0 ≤ 600000; omega, by show 11827 + 7200 * ct + 0 + 0 ≤ 7302250; omega⟩) hlo (fun _ h => h) (fun r129 H128 locs hp127 hlo => ?_)
                        obtain ⟨q2, hH9⟩ := hp127
                        have hH9 := hH9.symm
                        subst hH9
                        have hreq : r124 = r129 := q1.trans q2.symm
                        refine lv_icmp_eq (tgt := 544) cx.x cx.b d_Lw_law_254 (by decide) (fun _ => ?_) (fun c => absurd hreq c)
                        exact NX _ _ _ _ hlo (LI.same hB hM hdj hR hO) hi6 (by show 30 + 680 * ct + 0 + 0 ≤ 30 + 680 * (ct + 1); omega) (by show 11827 + 7200 * ct + 0 + 0 ≤ 11827 + 7200 * (ct + 1); omega) _ (lv_sub hl [0, 1, 2, 3] rfl)
                  · have hbn : ¬ (w1 = 0 ∨ w1 = 1) := fun z => by rcases z with z | z; exact hb0 z; exact hb1 z
                    refine lv_aload_n cx.x cx.b d_Lw_law_226 rfl (lv_at hl 2 rfl) ?_
                    refine lv_aload_n cx.x cx.b d_Lw_law_227 rfl (lv_at hl 1 rfl) ?_
                    refine lv_iload_n cx.x cx.b d_Lw_law_228 rfl (lv_at hl 0 rfl) ?_
                    refine lv_iconst (v := 1) cx.x cx.b d_Lw_law_229 (by decide) ?_
                    refine lv_iadd cx.x cx.b d_Lw_law_230 ?_
                    refine lv_topi (fun x80 e_x80 => ?_)
                    have e_x80 : x80 = nI ((6 * ct) + 1) := e_x80.trans (nI_add (6 * ct) 1)
                    subst e_x80
                    refine va_sld cx.x cx.b hX hbl hbA (va_So hO hlo) (vp_in_nI (show 6 * ct + 1 < L by omega) (by omega)) d_Lw_law_231 ?_
                    rw [show xs (nI (6 * ct + 1)).toNatClampNeg = w1 from hw1.symm]
                    refine lv_aload_n cx.x cx.b d_Lw_law_232 rfl (lv_at hl 1 rfl) ?_
                    refine lv_iload_n cx.x cx.b d_Lw_law_233 rfl (lv_at hl 0 rfl) ?_
                    refine lv_iconst (v := 2) cx.x cx.b d_Lw_law_234 (by decide) ?_
                    refine lv_iadd cx.x cx.b d_Lw_law_235 ?_
                    refine lv_topi (fun x81 e_x81 => ?_)
                    have e_x81 : x81 = nI ((6 * ct) + 2) := e_x81.trans (nI_add (6 * ct) 2)
                    subst e_x81
                    refine va_sld cx.x cx.b hX hbl hbA (va_So hO hlo) (vp_in_nI (show 6 * ct + 2 < L by omega) (by omega)) d_Lw_law_236 ?_
                    rw [show xs (nI (6 * ct + 2)).toNatClampNeg = w2 from hw2.symm]
                    refine hx_calli (iv_Lw_34_B cx (c_B_formatN l hE hB (fun z => hbn z.1)) hB.1 rfl hl.1 rfl (Nat.le_of_ble_eq_true rfl) d_Lw_law_237 ⟨Nat.le_of_ble_eq_true rfl, Nat.le_of_ble_eq_true rfl⟩ ⟨by show 30 + 680 * ct + 0 ≤ 600000; omega, by show 11827 + 7200 * ct + 0 ≤ 7302250; omega⟩) hlo (fun _ h => h) (fun r84 H83 locs hp82 hlo => ?_)
                    obtain ⟨q1, hH9⟩ := hp82
                    have hH9 := hH9.symm
                    subst hH9
                    refine lv_aload_n cx.x cx.b d_Lw_law_240 rfl (lv_at hl 3 rfl) ?_
                    refine lv_aload_n cx.x cx.b d_Lw_law_241 rfl (lv_at hl 1 rfl) ?_
                    refine lv_iload_n cx.x cx.b d_Lw_law_242 rfl (lv_at hl 0 rfl) ?_
                    refine lv_iconst (v := 1) cx.x cx.b d_Lw_law_243 (by decide) ?_
                    refine lv_iadd cx.x cx.b d_Lw_law_244 ?_
                    refine lv_topi (fun x85 e_x85 => ?_)
                    have e_x85 : x85 = nI ((6 * ct) + 1) := e_x85.trans (nI_add (6 * ct) 1)
                    subst e_x85
                    refine va_sld cx.x cx.b hX hbl hbA (va_So hO hlo) (vp_in_nI (show 6 * ct + 1 < L by omega) (by omega)) d_Lw_law_245 ?_
                    rw [show xs (nI (6 * ct + 1)).toNatClampNeg = w1 from hw1.symm]
                    refine lv_aload_n cx.x cx.b d_Lw_law_246 rfl (lv_at hl 1 rfl) ?_
                    refine lv_iload_n cx.x cx.b d_Lw_law_247 rfl (lv_at hl 0 rfl) ?_
                    refine lv_iconst (v := 2) cx.x cx.b d_Lw_law_248 (by decide) ?_
                    refine lv_iadd cx.x cx.b d_Lw_law_249 ?_
                    refine lv_topi (fun x86 e_x86 => ?_)
                    have e_x86 : x86 = nI ((6 * ct) + 2) := e_x86.trans (nI_add (6 * ct) 2)
                    subst e_x86
                    refine va_sld cx.x cx.b hX hbl hbA (va_So hO hlo) (vp_in_nI (show 6 * ct + 2 < L by omega) (by omega)) d_Lw_law_250 ?_
                    rw [show xs (nI (6 * ct + 2)).toNatClampNeg = w2 from hw2.symm]
                    refine hx_calli (iv_Lw_38_Mo cx (c_Mo_formatN l hE hM (fun z => hbn z.1)) hM.1 rfl hl.1 rfl (Nat.le_of_ble_eq_true rfl) d_Lw_law_251 ⟨Nat.le_of_ble_eq_true rfl, Nat.le_of_ble_eq_true rfl⟩ ⟨by show 30 + 680 * ct + 0 + 0 ≤ 600000; omega, by show 11827 + 7200 * ct + 0 + 0 ≤ 7302250; omega⟩) hlo (fun _ h => h) (fun r89 H88 locs hp87 hlo => ?_)
                    obtain ⟨q2, hH9⟩ := hp87
                    have hH9 := hH9.symm
                    subst hH9
                    have hreq : r84 = r89 := q1.trans q2.symm
                    refine lv_icmp_eq (tgt := 544) cx.x cx.b d_Lw_law_254 (by decide) (fun _ => ?_) (fun c => absurd hreq c)
                    exact NX _ _ _ _ hlo (LI.same hB hM hdj hR hO) hi6 (by show 30 + 680 * ct + 0 + 0 ≤ 30 + 680 * (ct + 1); omega) (by show 11827 + 7200 * ct + 0 + 0 ≤ 11827 + 7200 * (ct + 1); omega) _ (lv_sub hl [0, 1, 2, 3] rfl)
              · by_cases k_5 : x3 = 5
                · subst k_5
                  refine lv_tableIn (tgt := 259) (off := 226) cx.x cx.b d_Lw_law_33 (by decide) (by decide) (by decide) (by decide) ?_
                  refine lv_aload_n cx.x cx.b d_Lw_law_259 rfl (lv_at hl 2 rfl) ?_
                  refine lv_aload_n cx.x cx.b d_Lw_law_260 rfl (lv_at hl 1 rfl) ?_
                  refine lv_iload_n cx.x cx.b d_Lw_law_261 rfl (lv_at hl 0 rfl) ?_
                  refine lv_iconst (v := 1) cx.x cx.b d_Lw_law_262 (by decide) ?_
                  refine lv_iadd cx.x cx.b d_Lw_law_263 ?_
                  refine lv_topi (fun x150 e_x150 => ?_)
                  have e_x150 : x150 = nI ((6 * ct) + 1) := e_x150.trans (nI_add (6 * ct) 1)
                  subst e_x150
                  refine va_sld cx.x cx.b hX hbl hbA (va_So hO hlo) (vp_in_nI (show 6 * ct + 1 < L by omega) (by omega)) d_Lw_law_264 ?_
                  rw [show xs (nI (6 * ct + 1)).toNatClampNeg = w1 from hw1.symm]
                  refine hx_calli (iv_Lw_39_B cx (c_B_text l hE hB w1) hB.1 rfl hl.1 rfl (Nat.le_of_ble_eq_true rfl) d_Lw_law_265 ⟨Nat.le_of_ble_eq_true rfl, Nat.le_of_ble_eq_true rfl⟩ ⟨by show 30 + 680 * ct + 0 ≤ 600000; omega, by show 11827 + 7200 * ct + 0 ≤ 7302250; omega⟩) hlo (fun _ h => h) (fun r153 H152 locs hp151 hlo => ?_)
                  obtain ⟨q1, hH9⟩ := hp151
                  have hH9 := hH9.symm
                  subst hH9
                  refine lv_aload_n cx.x cx.b d_Lw_law_268 rfl (lv_at hl 3 rfl) ?_
                  refine lv_aload_n cx.x cx.b d_Lw_law_269 rfl (lv_at hl 1 rfl) ?_
                  refine lv_iload_n cx.x cx.b d_Lw_law_270 rfl (lv_at hl 0 rfl) ?_
                  refine lv_iconst (v := 1) cx.x cx.b d_Lw_law_271 (by decide) ?_
                  refine lv_iadd cx.x cx.b d_Lw_law_272 ?_
                  refine lv_topi (fun x154 e_x154 => ?_)
                  have e_x154 : x154 = nI ((6 * ct) + 1) := e_x154.trans (nI_add (6 * ct) 1)
                  subst e_x154
                  refine va_sld cx.x cx.b hX hbl hbA (va_So hO hlo) (vp_in_nI (show 6 * ct + 1 < L by omega) (by omega)) d_Lw_law_273 ?_
                  rw [show xs (nI (6 * ct + 1)).toNatClampNeg = w1 from hw1.symm]
                  refine hx_calli (iv_Lw_42_Mo cx (c_Mo_text l hE hM hx hgs hxl w1) hM.1 rfl hl.1 rfl (Nat.le_of_ble_eq_true rfl) d_Lw_law_274 ⟨Nat.le_of_ble_eq_true rfl, Nat.le_of_ble_eq_true rfl⟩ ⟨by show 30 + 680 * ct + 0 + 0 ≤ 600000; omega, by show 11827 + 7200 * ct + 0 + 0 ≤ 7302250; omega⟩) hlo (fun _ h => h) (fun r157 H156 locs hp155 hlo => ?_)
                  obtain ⟨q2, hH9⟩ := hp155
                  have hH9 := hH9.symm
                  subst hH9
                  have hreq : r153 = r157 := q1.trans q2.symm
                  refine lv_icmp_eq (tgt := 544) cx.x cx.b d_Lw_law_277 (by decide) (fun _ => ?_) (fun c => absurd hreq c)
                  exact NX _ _ _ _ hlo (LI.same hB hM hdj hR hO) hi6 (by show 30 + 680 * ct + 0 + 0 ≤ 30 + 680 * (ct + 1); omega) (by show 11827 + 7200 * ct + 0 + 0 ≤ 11827 + 7200 * (ct + 1); omega) _ (lv_sub hl [0, 1, 2, 3] rfl)
                · by_cases k_6 : x3 = 6
                  · subst k_6
                    refine lv_tableIn (tgt := 282) (off := 249) cx.x cx.b d_Lw_law_33 (by decide) (by decide) (by decide) (by decide) ?_
                    refine lv_aload_n cx.x cx.b d_Lw_law_282 rfl (lv_at hl 2 rfl) ?_
                    refine lv_aload_n cx.x cx.b d_Lw_law_283 rfl (lv_at hl 1 rfl) ?_
                    refine lv_iload_n cx.x cx.b d_Lw_law_284 rfl (lv_at hl 0 rfl) ?_
                    refine lv_iconst (v := 1) cx.x cx.b d_Lw_law_285 (by decide) ?_
                    refine lv_iadd cx.x cx.b d_Lw_law_286 ?_
                    refine lv_topi (fun x158 e_x158 => ?_)
                    have e_x158 : x158 = nI ((6 * ct) + 1) := e_x158.trans (nI_add (6 * ct) 1)
                    subst e_x158
                    refine va_sld cx.x cx.b hX hbl hbA (va_So hO hlo) (vp_in_nI (show 6 * ct + 1 < L by omega) (by omega)) d_Lw_law_287 ?_
                    rw [show xs (nI (6 * ct + 1)).toNatClampNeg = w1 from hw1.symm]
                    refine lv_aload_n cx.x cx.b d_Lw_law_288 rfl (lv_at hl 1 rfl) ?_
                    refine lv_iload_n cx.x cx.b d_Lw_law_289 rfl (lv_at hl 0 rfl) ?_
                    refine lv_iconst (v := 2) cx.x cx.b d_Lw_law_290 (by decide) ?_
                    refine lv_iadd cx.x cx.b d_Lw_law_291 ?_
                    refine lv_topi (fun x159 e_x159 => ?_)
                    have e_x159 : x159 = nI ((6 * ct) + 2) := e_x159.trans (nI_add (6 * ct) 2)
                    subst e_x159
                    refine va_sld cx.x cx.b hX hbl hbA (va_So hO hlo) (vp_in_nI (show 6 * ct + 2 < L by omega) (by omega)) d_Lw_law_292 ?_
                    rw [show xs (nI (6 * ct + 2)).toNatClampNeg = w2 from hw2.symm]
                    refine hx_calli (iv_Lw_43_B cx (c_B_diagnostic l hE hB (by omega) w1 w2) hB.1 rfl hl.1 rfl (Nat.le_of_ble_eq_true rfl) d_Lw_law_293 ⟨Nat.le_of_ble_eq_true rfl, Nat.le_of_ble_eq_true rfl⟩ ⟨by show 30 + 680 * ct + 0 ≤ 600000; omega, by show 11827 + 7200 * ct + 0 ≤ 7302250; omega⟩) hlo (fun _ h => h) (fun r162 H161 locs hp160 hlo => ?_)
                    obtain ⟨q1, hH9⟩ := hp160
                    have hH9 := hH9.symm
                    subst hH9
                    refine lv_aload_n cx.x cx.b d_Lw_law_296 rfl (lv_at hl 3 rfl) ?_
                    refine lv_aload_n cx.x cx.b d_Lw_law_297 rfl (lv_at hl 1 rfl) ?_
                    refine lv_iload_n cx.x cx.b d_Lw_law_298 rfl (lv_at hl 0 rfl) ?_
                    refine lv_iconst (v := 1) cx.x cx.b d_Lw_law_299 (by decide) ?_
                    refine lv_iadd cx.x cx.b d_Lw_law_300 ?_
                    refine lv_topi (fun x163 e_x163 => ?_)
                    have e_x163 : x163 = nI ((6 * ct) + 1) := e_x163.trans (nI_add (6 * ct) 1)
                    subst e_x163
                    refine va_sld cx.x cx.b hX hbl hbA (va_So hO hlo) (vp_in_nI (show 6 * ct + 1 < L by omega) (by omega)) d_Lw_law_301 ?_
                    rw [show xs (nI (6 * ct + 1)).toNatClampNeg = w1 from hw1.symm]
                    refine lv_aload_n cx.x cx.b d_Lw_law_302 rfl (lv_at hl 1 rfl) ?_
                    refine lv_iload_n cx.x cx.b d_Lw_law_303 rfl (lv_at hl 0 rfl) ?_
                    refine lv_iconst (v := 2) cx.x cx.b d_Lw_law_304 (by decide) ?_
                    refine lv_iadd cx.x cx.b d_Lw_law_305 ?_
                    refine lv_topi (fun x164 e_x164 => ?_)
                    have e_x164 : x164 = nI ((6 * ct) + 2) := e_x164.trans (nI_add (6 * ct) 2)
                    subst e_x164
                    refine va_sld cx.x cx.b hX hbl hbA (va_So hO hlo) (vp_in_nI (show 6 * ct + 2 < L by omega) (by omega)) d_Lw_law_306 ?_
                    rw [show xs (nI (6 * ct + 2)).toNatClampNeg = w2 from hw2.symm]
                    refine hx_calli (iv_Lw_46_Mo cx (c_Mo_diagnostic l hE hM hD (by omega) w1 w2) hM.1 rfl hl.1 rfl (Nat.le_of_ble_eq_true rfl) d_Lw_law_307 ⟨Nat.le_of_ble_eq_true rfl, Nat.le_of_ble_eq_true rfl⟩ ⟨by show 30 + 680 * ct + 0 + 0 ≤ 600000; omega, by show 11827 + 7200 * ct + 0 + 0 ≤ 7302250; omega⟩) hlo (fun _ h => h) (fun r167 H166 locs hp165 hlo => ?_)
                    obtain ⟨q2, hH9⟩ := hp165
                    have hH9 := hH9.symm
                    subst hH9
                    have hreq : r162 = r167 := q1.trans q2.symm
                    refine lv_icmp_eq (tgt := 544) cx.x cx.b d_Lw_law_310 (by decide) (fun _ => ?_) (fun c => absurd hreq c)
                    exact NX _ _ _ _ hlo (LI.same hB hM hdj hR hO) hi6 (by show 30 + 680 * ct + 0 + 0 ≤ 30 + 680 * (ct + 1); omega) (by show 11827 + 7200 * ct + 0 + 0 ≤ 11827 + 7200 * (ct + 1); omega) _ (lv_sub hl [0, 1, 2, 3] rfl)
                  · by_cases k_7 : x3 = 7
                    · subst k_7
                      refine lv_tableIn (tgt := 315) (off := 282) cx.x cx.b d_Lw_law_33 (by decide) (by decide) (by decide) (by decide) ?_
                      by_cases hb0 : w1 = 0
                      · subst hb0
                        refine lv_aload_n cx.x cx.b d_Lw_law_315 rfl (lv_at hl 2 rfl) ?_
                        refine lv_aload_n cx.x cx.b d_Lw_law_316 rfl (lv_at hl 1 rfl) ?_
                        refine lv_iload_n cx.x cx.b d_Lw_law_317 rfl (lv_at hl 0 rfl) ?_
                        refine lv_iconst (v := 1) cx.x cx.b d_Lw_law_318 (by decide) ?_
                        refine lv_iadd cx.x cx.b d_Lw_law_319 ?_
                        refine lv_topi (fun x168 e_x168 => ?_)
                        have e_x168 : x168 = nI ((6 * ct) + 1) := e_x168.trans (nI_add (6 * ct) 1)
                        subst e_x168
                        refine va_sld cx.x cx.b hX hbl hbA (va_So hO hlo) (vp_in_nI (show 6 * ct + 1 < L by omega) (by omega)) d_Lw_law_320 ?_
                        rw [show xs (nI (6 * ct + 1)).toNatClampNeg = 0 from hw1.symm]
                        refine hx_calli (iv_Lw_47_B cx (c_B_types l hE hB 0) hB.1 rfl hl.1 rfl (Nat.le_of_ble_eq_true rfl) d_Lw_law_321 ⟨Nat.le_of_ble_eq_true rfl, Nat.le_of_ble_eq_true rfl⟩ ⟨by show 30 + 680 * ct + 0 ≤ 600000; omega, by show 11827 + 7200 * ct + 0 ≤ 7302250; omega⟩) hlo (fun _ h => h) (fun r171 H170 locs hp169 hlo => ?_)
                        obtain ⟨q1, hH9⟩ := hp169
                        have hH9 := hH9.symm
                        subst hH9
                        refine lv_aload_n cx.x cx.b d_Lw_law_324 rfl (lv_at hl 3 rfl) ?_
                        refine lv_aload_n cx.x cx.b d_Lw_law_325 rfl (lv_at hl 1 rfl) ?_
                        refine lv_iload_n cx.x cx.b d_Lw_law_326 rfl (lv_at hl 0 rfl) ?_
                        refine lv_iconst (v := 1) cx.x cx.b d_Lw_law_327 (by decide) ?_
                        refine lv_iadd cx.x cx.b d_Lw_law_328 ?_
                        refine lv_topi (fun x172 e_x172 => ?_)
                        have e_x172 : x172 = nI ((6 * ct) + 1) := e_x172.trans (nI_add (6 * ct) 1)
                        subst e_x172
                        refine va_sld cx.x cx.b hX hbl hbA (va_So hO hlo) (vp_in_nI (show 6 * ct + 1 < L by omega) (by omega)) d_Lw_law_329 ?_
                        rw [show xs (nI (6 * ct + 1)).toNatClampNeg = 0 from hw1.symm]
                        refine hx_calli (iv_Lw_50_Mo cx (c_Mo_types l hE hM hcr (b := 0) (by decide)) hM.1 rfl hl.1 rfl (Nat.le_of_ble_eq_true rfl) d_Lw_law_330 ⟨Nat.le_of_ble_eq_true rfl, Nat.le_of_ble_eq_true rfl⟩ ⟨by show 30 + 680 * ct + 0 + 0 ≤ 600000; omega, by show 11827 + 7200 * ct + 0 + 0 ≤ 7302250; omega⟩) hlo (fun _ h => h) (fun r175 H174 locs hp173 hlo => ?_)
                        obtain ⟨q2, hH9⟩ := hp173
                        have hH9 := hH9.symm
                        subst hH9
                        have hreq : r171 = r175 := by rw [q1, q2, rU.1, ← ru.len]; rfl
                        refine lv_icmp_eq (tgt := 544) cx.x cx.b d_Lw_law_333 (by decide) (fun _ => ?_) (fun c => absurd hreq c)
                        exact NX _ _ _ _ hlo (LI.same hB hM hdj hR hO) hi6 (by show 30 + 680 * ct + 0 + 0 ≤ 30 + 680 * (ct + 1); omega) (by show 11827 + 7200 * ct + 0 + 0 ≤ 11827 + 7200 * (ct + 1); omega) _ (lv_sub hl [0, 1, 2, 3] rfl)
                      · by_cases hb1 : w1 = 1
                        · subst hb1
                          refine lv_aload_n cx.x cx.b d_Lw_law_315 rfl (lv_at hl 2 rfl) ?_
                          refine lv_aload_n cx.x cx.b d_Lw_law_316 rfl (lv_at hl 1 rfl) ?_
                          refine lv_iload_n cx.x cx.b d_Lw_law_317 rfl (lv_at hl 0 rfl) ?_
                          refine lv_iconst (v := 1) cx.x cx.b d_Lw_law_318 (by decide) ?_
                          refine lv_iadd cx.x cx.b d_Lw_law_319 ?_
                          refine lv_topi (fun x176 e_x176 => ?_)
                          have e_x176 : x176 = nI ((6 * ct) + 1) := e_x176.trans (nI_add (6 * ct) 1)
                          subst e_x176
                          refine va_sld cx.x cx.b hX hbl hbA (va_So hO hlo) (vp_in_nI (show 6 * ct + 1 < L by omega) (by omega)) d_Lw_law_320 ?_
                          rw [show xs (nI (6 * ct + 1)).toNatClampNeg = 1 from hw1.symm]
                          refine hx_calli (iv_Lw_47_B cx (c_B_types l hE hB 1) hB.1 rfl hl.1 rfl (Nat.le_of_ble_eq_true rfl) d_Lw_law_321 ⟨Nat.le_of_ble_eq_true rfl, Nat.le_of_ble_eq_true rfl⟩ ⟨by show 30 + 680 * ct + 0 ≤ 600000; omega, by show 11827 + 7200 * ct + 0 ≤ 7302250; omega⟩) hlo (fun _ h => h) (fun r179 H178 locs hp177 hlo => ?_)
                          obtain ⟨q1, hH9⟩ := hp177
                          have hH9 := hH9.symm
                          subst hH9
                          refine lv_aload_n cx.x cx.b d_Lw_law_324 rfl (lv_at hl 3 rfl) ?_
                          refine lv_aload_n cx.x cx.b d_Lw_law_325 rfl (lv_at hl 1 rfl) ?_
                          refine lv_iload_n cx.x cx.b d_Lw_law_326 rfl (lv_at hl 0 rfl) ?_
                          refine lv_iconst (v := 1) cx.x cx.b d_Lw_law_327 (by decide) ?_
                          refine lv_iadd cx.x cx.b d_Lw_law_328 ?_
                          refine lv_topi (fun x180 e_x180 => ?_)
                          have e_x180 : x180 = nI ((6 * ct) + 1) := e_x180.trans (nI_add (6 * ct) 1)
                          subst e_x180
                          refine va_sld cx.x cx.b hX hbl hbA (va_So hO hlo) (vp_in_nI (show 6 * ct + 1 < L by omega) (by omega)) d_Lw_law_329 ?_
                          rw [show xs (nI (6 * ct + 1)).toNatClampNeg = 1 from hw1.symm]
                          refine hx_calli (iv_Lw_50_Mo cx (c_Mo_types l hE hM hcr (b := 1) (by decide)) hM.1 rfl hl.1 rfl (Nat.le_of_ble_eq_true rfl) d_Lw_law_330 ⟨Nat.le_of_ble_eq_true rfl, Nat.le_of_ble_eq_true rfl⟩ ⟨by show 30 + 680 * ct + 0 + 0 ≤ 600000; omega, by show 11827 + 7200 * ct + 0 + 0 ≤ 7302250; omega⟩) hlo (fun _ h => h) (fun r183 H182 locs hp181 hlo => ?_)
                          obtain ⟨q2, hH9⟩ := hp181
                          have hH9 := hH9.symm
                          subst hH9
                          have hreq : r179 = r183 := by rw [q1, q2, rV.1, ← rv.len]; rfl
                          refine lv_icmp_eq (tgt := 544) cx.x cx.b d_Lw_law_333 (by decide) (fun _ => ?_) (fun c => absurd hreq c)
                          exact NX _ _ _ _ hlo (LI.same hB hM hdj hR hO) hi6 (by show 30 + 680 * ct + 0 + 0 ≤ 30 + 680 * (ct + 1); omega) (by show 11827 + 7200 * ct + 0 + 0 ≤ 11827 + 7200 * (ct + 1); omega) _ (lv_sub hl [0, 1, 2, 3] rfl)
                        · have hbn : ¬ (w1 = 0 ∨ w1 = 1) := fun z => by rcases z with z | z; exact hb0 z; exact hb1 z
                          refine lv_aload_n cx.x cx.b d_Lw_law_315 rfl (lv_at hl 2 rfl) ?_
                          refine lv_aload_n cx.x cx.b d_Lw_law_316 rfl (lv_at hl 1 rfl) ?_
                          refine lv_iload_n cx.x cx.b d_Lw_law_317 rfl (lv_at hl 0 rfl) ?_
                          refine lv_iconst (v := 1) cx.x cx.b d_Lw_law_318 (by decide) ?_
                          refine lv_iadd cx.x cx.b d_Lw_law_319 ?_
                          refine lv_topi (fun x184 e_x184 => ?_)
                          have e_x184 : x184 = nI ((6 * ct) + 1) := e_x184.trans (nI_add (6 * ct) 1)
                          subst e_x184
                          refine va_sld cx.x cx.b hX hbl hbA (va_So hO hlo) (vp_in_nI (show 6 * ct + 1 < L by omega) (by omega)) d_Lw_law_320 ?_
                          rw [show xs (nI (6 * ct + 1)).toNatClampNeg = w1 from hw1.symm]
                          refine hx_calli (iv_Lw_47_B cx (c_B_types l hE hB w1) hB.1 rfl hl.1 rfl (Nat.le_of_ble_eq_true rfl) d_Lw_law_321 ⟨Nat.le_of_ble_eq_true rfl, Nat.le_of_ble_eq_true rfl⟩ ⟨by show 30 + 680 * ct + 0 ≤ 600000; omega, by show 11827 + 7200 * ct + 0 ≤ 7302250; omega⟩) hlo (fun _ h => h) (fun r187 H186 locs hp185 hlo => ?_)
                          obtain ⟨q1, hH9⟩ := hp185
                          have hH9 := hH9.symm
                          subst hH9
                          refine lv_aload_n cx.x cx.b d_Lw_law_324 rfl (lv_at hl 3 rfl) ?_
                          refine lv_aload_n cx.x cx.b d_Lw_law_325 rfl (lv_at hl 1 rfl) ?_
                          refine lv_iload_n cx.x cx.b d_Lw_law_326 rfl (lv_at hl 0 rfl) ?_
                          refine lv_iconst (v := 1) cx.x cx.b d_Lw_law_327 (by decide) ?_
                          refine lv_iadd cx.x cx.b d_Lw_law_328 ?_
                          refine lv_topi (fun x188 e_x188 => ?_)
                          have e_x188 : x188 = nI ((6 * ct) + 1) := e_x188.trans (nI_add (6 * ct) 1)
                          subst e_x188
                          refine va_sld cx.x cx.b hX hbl hbA (va_So hO hlo) (vp_in_nI (show 6 * ct + 1 < L by omega) (by omega)) d_Lw_law_329 ?_
                          rw [show xs (nI (6 * ct + 1)).toNatClampNeg = w1 from hw1.symm]
                          refine hx_calli (iv_Lw_50_Mo cx (c_Mo_typesN l hE hM hbn) hM.1 rfl hl.1 rfl (Nat.le_of_ble_eq_true rfl) d_Lw_law_330 ⟨Nat.le_of_ble_eq_true rfl, Nat.le_of_ble_eq_true rfl⟩ ⟨by show 30 + 680 * ct + 0 + 0 ≤ 600000; omega, by show 11827 + 7200 * ct + 0 + 0 ≤ 7302250; omega⟩) hlo (fun _ h => h) (fun r191 H190 locs hp189 hlo => ?_)
                          obtain ⟨q2, hH9⟩ := hp189
                          have hH9 := hH9.symm
                          subst hH9
                          have hreq : r187 = r191 := by rw [q1, q2]; unfold selC; rw [if_neg hb0, if_neg hb1]
                          refine lv_icmp_eq (tgt := 544) cx.x cx.b d_Lw_law_333 (by decide) (fun _ => ?_) (fun c => absurd hreq c)
                          exact NX _ _ _ _ hlo (LI.same hB hM hdj hR hO) hi6 (by show 30 + 680 * ct + 0 + 0 ≤ 30 + 680 * (ct + 1); omega) (by show 11827 + 7200 * ct + 0 + 0 ≤ 11827 + 7200 * (ct + 1); omega) _ (lv_sub hl [0, 1, 2, 3] rfl)
                    · by_cases k_8 : x3 = 8
                      · subst k_8
                        refine lv_tableIn (tgt := 338) (off := 305) cx.x cx.b d_Lw_law_33 (by decide) (by decide) (by decide) (by decide) ?_
                        by_cases hb0 : w1 = 0
                        · subst hb0
                          refine lv_aload_n cx.x cx.b d_Lw_law_338 rfl (lv_at hl 2 rfl) ?_
                          refine lv_aload_n cx.x cx.b d_Lw_law_339 rfl (lv_at hl 1 rfl) ?_
                          refine lv_iload_n cx.x cx.b d_Lw_law_340 rfl (lv_at hl 0 rfl) ?_
                          refine lv_iconst (v := 1) cx.x cx.b d_Lw_law_341 (by decide) ?_
                          refine lv_iadd cx.x cx.b d_Lw_law_342 ?_
                          refine lv_topi (fun x192 e_x192 => ?_)
                          have e_x192 : x192 = nI ((6 * ct) + 1) := e_x192.trans (nI_add (6 * ct) 1)
                          subst e_x192
                          refine va_sld cx.x cx.b hX hbl hbA (va_So hO hlo) (vp_in_nI (show 6 * ct + 1 < L by omega) (by omega)) d_Lw_law_343 ?_
                          rw [show xs (nI (6 * ct + 1)).toNatClampNeg = 0 from hw1.symm]
                          refine lv_aload_n cx.x cx.b d_Lw_law_344 rfl (lv_at hl 1 rfl) ?_
                          refine lv_iload_n cx.x cx.b d_Lw_law_345 rfl (lv_at hl 0 rfl) ?_
                          refine lv_iconst (v := 2) cx.x cx.b d_Lw_law_346 (by decide) ?_
                          refine lv_iadd cx.x cx.b d_Lw_law_347 ?_
                          refine lv_topi (fun x193 e_x193 => ?_)
                          have e_x193 : x193 = nI ((6 * ct) + 2) := e_x193.trans (nI_add (6 * ct) 2)
                          subst e_x193
                          refine va_sld cx.x cx.b hX hbl hbA (va_So hO hlo) (vp_in_nI (show 6 * ct + 2 < L by omega) (by omega)) d_Lw_law_348 ?_
                          rw [show xs (nI (6 * ct + 2)).toNatClampNeg = w2 from hw2.symm]
                          refine lv_aload_n cx.x cx.b d_Lw_law_349 rfl (lv_at hl 1 rfl) ?_
                          refine lv_iload_n cx.x cx.b d_Lw_law_350 rfl (lv_at hl 0 rfl) ?_
                          refine lv_iconst (v := 3) cx.x cx.b d_Lw_law_351 (by decide) ?_
                          refine lv_iadd cx.x cx.b d_Lw_law_352 ?_
                          refine lv_topi (fun x194 e_x194 => ?_)
                          have e_x194 : x194 = nI ((6 * ct) + 3) := e_x194.trans (nI_add (6 * ct) 3)
                          subst e_x194
                          refine va_sld cx.x cx.b hX hbl hbA (va_So hO hlo) (vp_in_nI (show 6 * ct + 3 < L by omega) (by omega)) d_Lw_law_353 ?_
                          rw [show xs (nI (6 * ct + 3)).toNatClampNeg = w3 from hw3.symm]
                          refine hx_calli (iv_Lw_51_B cx (c_B_about l hE hB 0 w2 w3) hB.1 rfl hl.1 rfl (Nat.le_of_ble_eq_true rfl) d_Lw_law_354 ⟨Nat.le_of_ble_eq_true rfl, Nat.le_of_ble_eq_true rfl⟩ ⟨by show 30 + 680 * ct + 0 ≤ 600000; omega, by show 11827 + 7200 * ct + 0 ≤ 7302250; omega⟩) hlo (fun _ h => h) (fun r197 H196 locs hp195 hlo => ?_)
                          obtain ⟨q1, hH9⟩ := hp195
                          have hH9 := hH9.symm
                          subst hH9
                          refine lv_aload_n cx.x cx.b d_Lw_law_357 rfl (lv_at hl 3 rfl) ?_
                          refine lv_aload_n cx.x cx.b d_Lw_law_358 rfl (lv_at hl 1 rfl) ?_
                          refine lv_iload_n cx.x cx.b d_Lw_law_359 rfl (lv_at hl 0 rfl) ?_
                          refine lv_iconst (v := 1) cx.x cx.b d_Lw_law_360 (by decide) ?_
                          refine lv_iadd cx.x cx.b d_Lw_law_361 ?_
                          refine lv_topi (fun x198 e_x198 => ?_)
                          have e_x198 : x198 = nI ((6 * ct) + 1) := e_x198.trans (nI_add (6 * ct) 1)
                          subst e_x198
                          refine va_sld cx.x cx.b hX hbl hbA (va_So hO hlo) (vp_in_nI (show 6 * ct + 1 < L by omega) (by omega)) d_Lw_law_362 ?_
                          rw [show xs (nI (6 * ct + 1)).toNatClampNeg = 0 from hw1.symm]
                          refine lv_aload_n cx.x cx.b d_Lw_law_363 rfl (lv_at hl 1 rfl) ?_
                          refine lv_iload_n cx.x cx.b d_Lw_law_364 rfl (lv_at hl 0 rfl) ?_
                          refine lv_iconst (v := 2) cx.x cx.b d_Lw_law_365 (by decide) ?_
                          refine lv_iadd cx.x cx.b d_Lw_law_366 ?_
                          refine lv_topi (fun x199 e_x199 => ?_)
                          have e_x199 : x199 = nI ((6 * ct) + 2) := e_x199.trans (nI_add (6 * ct) 2)
                          subst e_x199
                          refine va_sld cx.x cx.b hX hbl hbA (va_So hO hlo) (vp_in_nI (show 6 * ct + 2 < L by omega) (by omega)) d_Lw_law_367 ?_
                          rw [show xs (nI (6 * ct + 2)).toNatClampNeg = w2 from hw2.symm]
                          refine lv_aload_n cx.x cx.b d_Lw_law_368 rfl (lv_at hl 1 rfl) ?_
                          refine lv_iload_n cx.x cx.b d_Lw_law_369 rfl (lv_at hl 0 rfl) ?_
                          refine lv_iconst (v := 3) cx.x cx.b d_Lw_law_370 (by decide) ?_
                          refine lv_iadd cx.x cx.b d_Lw_law_371 ?_
                          refine lv_topi (fun x200 e_x200 => ?_)
                          have e_x200 : x200 = nI ((6 * ct) + 3) := e_x200.trans (nI_add (6 * ct) 3)
                          subst e_x200
                          refine va_sld cx.x cx.b hX hbl hbA (va_So hO hlo) (vp_in_nI (show 6 * ct + 3 < L by omega) (by omega)) d_Lw_law_372 ?_
                          rw [show xs (nI (6 * ct + 3)).toNatClampNeg = w3 from hw3.symm]
                          refine hx_calli (iv_Lw_55_Mo cx (c_Mo_about l hE hM hcr (b := 0) (by decide) rU cu w2 w3) hM.1 rfl hl.1 rfl (Nat.le_of_ble_eq_true rfl) d_Lw_law_373 ⟨Nat.le_of_ble_eq_true rfl, Nat.le_of_ble_eq_true rfl⟩ ⟨by show 30 + 680 * ct + 0 + 0 ≤ 600000; omega, by show 11827 + 7200 * ct + 0 + 0 ≤ 7302250; omega⟩) hlo (fun _ h => h) (fun r203 H202 locs hp201 hlo => ?_)
                          obtain ⟨q2, hH9⟩ := hp201
                          have hH9 := hH9.symm
                          subst hH9
                          have hreq : r197 = r203 := by rw [q1, q2, tySel_0, tyV_C, abV_C]
                          refine lv_icmp_eq (tgt := 544) cx.x cx.b d_Lw_law_376 (by decide) (fun _ => ?_) (fun c => absurd hreq c)
                          exact NX _ _ _ _ hlo (LI.same hB hM hdj hR hO) hi6 (by show 30 + 680 * ct + 0 + 0 ≤ 30 + 680 * (ct + 1); omega) (by show 11827 + 7200 * ct + 0 + 0 ≤ 11827 + 7200 * (ct + 1); omega) _ (lv_sub hl [0, 1, 2, 3] rfl)
                        · by_cases hb1 : w1 = 1
                          · subst hb1
                            refine lv_aload_n cx.x cx.b d_Lw_law_338 rfl (lv_at hl 2 rfl) ?_
                            refine lv_aload_n cx.x cx.b d_Lw_law_339 rfl (lv_at hl 1 rfl) ?_
                            refine lv_iload_n cx.x cx.b d_Lw_law_340 rfl (lv_at hl 0 rfl) ?_
                            refine lv_iconst (v := 1) cx.x cx.b d_Lw_law_341 (by decide) ?_
                            refine lv_iadd cx.x cx.b d_Lw_law_342 ?_
                            refine lv_topi (fun x204 e_x204 => ?_)
                            have e_x204 : x204 = nI ((6 * ct) + 1) := e_x204.trans (nI_add (6 * ct) 1)
                            subst e_x204
                            refine va_sld cx.x cx.b hX hbl hbA (va_So hO hlo) (vp_in_nI (show 6 * ct + 1 < L by omega) (by omega)) d_Lw_law_343 ?_
                            rw [show xs (nI (6 * ct + 1)).toNatClampNeg = 1 from hw1.symm]
                            refine lv_aload_n cx.x cx.b d_Lw_law_344 rfl (lv_at hl 1 rfl) ?_
                            refine lv_iload_n cx.x cx.b d_Lw_law_345 rfl (lv_at hl 0 rfl) ?_
                            refine lv_iconst (v := 2) cx.x cx.b d_Lw_law_346 (by decide) ?_
                            refine lv_iadd cx.x cx.b d_Lw_law_347 ?_
                            refine lv_topi (fun x205 e_x205 => ?_)
                            have e_x205 : x205 = nI ((6 * ct) + 2) := e_x205.trans (nI_add (6 * ct) 2)
                            subst e_x205
                            refine va_sld cx.x cx.b hX hbl hbA (va_So hO hlo) (vp_in_nI (show 6 * ct + 2 < L by omega) (by omega)) d_Lw_law_348 ?_
                            rw [show xs (nI (6 * ct + 2)).toNatClampNeg = w2 from hw2.symm]
                            refine lv_aload_n cx.x cx.b d_Lw_law_349 rfl (lv_at hl 1 rfl) ?_
                            refine lv_iload_n cx.x cx.b d_Lw_law_350 rfl (lv_at hl 0 rfl) ?_
                            refine lv_iconst (v := 3) cx.x cx.b d_Lw_law_351 (by decide) ?_
                            refine lv_iadd cx.x cx.b d_Lw_law_352 ?_
                            refine lv_topi (fun x206 e_x206 => ?_)
                            have e_x206 : x206 = nI ((6 * ct) + 3) := e_x206.trans (nI_add (6 * ct) 3)
                            subst e_x206
                            refine va_sld cx.x cx.b hX hbl hbA (va_So hO hlo) (vp_in_nI (show 6 * ct + 3 < L by omega) (by omega)) d_Lw_law_353 ?_
                            rw [show xs (nI (6 * ct + 3)).toNatClampNeg = w3 from hw3.symm]
                            refine hx_calli (iv_Lw_51_B cx (c_B_about l hE hB 1 w2 w3) hB.1 rfl hl.1 rfl (Nat.le_of_ble_eq_true rfl) d_Lw_law_354 ⟨Nat.le_of_ble_eq_true rfl, Nat.le_of_ble_eq_true rfl⟩ ⟨by show 30 + 680 * ct + 0 ≤ 600000; omega, by show 11827 + 7200 * ct + 0 ≤ 7302250; omega⟩) hlo (fun _ h => h) (fun r209 H208 locs hp207 hlo => ?_)
                            obtain ⟨q1, hH9⟩ := hp207
                            have hH9 := hH9.symm
                            subst hH9
                            refine lv_aload_n cx.x cx.b d_Lw_law_357 rfl (lv_at hl 3 rfl) ?_
                            refine lv_aload_n cx.x cx.b d_Lw_law_358 rfl (lv_at hl 1 rfl) ?_
                            refine lv_iload_n cx.x cx.b d_Lw_law_359 rfl (lv_at hl 0 rfl) ?_
                            refine lv_iconst (v := 1) cx.x cx.b d_Lw_law_360 (by decide) ?_
                            refine lv_iadd cx.x cx.b d_Lw_law_361 ?_
                            refine lv_topi (fun x210 e_x210 => ?_)
                            have e_x210 : x210 = nI ((6 * ct) + 1) := e_x210.trans (nI_add (6 * ct) 1)
                            subst e_x210
                            refine va_sld cx.x cx.b hX hbl hbA (va_So hO hlo) (vp_in_nI (show 6 * ct + 1 < L by omega) (by omega)) d_Lw_law_362 ?_
                            rw [show xs (nI (6 * ct + 1)).toNatClampNeg = 1 from hw1.symm]
                            refine lv_aload_n cx.x cx.b d_Lw_law_363 rfl (lv_at hl 1 rfl) ?_
                            refine lv_iload_n cx.x cx.b d_Lw_law_364 rfl (lv_at hl 0 rfl) ?_
                            refine lv_iconst (v := 2) cx.x cx.b d_Lw_law_365 (by decide) ?_
                            refine lv_iadd cx.x cx.b d_Lw_law_366 ?_
                            refine lv_topi (fun x211 e_x211 => ?_)
                            have e_x211 : x211 = nI ((6 * ct) + 2) := e_x211.trans (nI_add (6 * ct) 2)
                            subst e_x211
                            refine va_sld cx.x cx.b hX hbl hbA (va_So hO hlo) (vp_in_nI (show 6 * ct + 2 < L by omega) (by omega)) d_Lw_law_367 ?_
                            rw [show xs (nI (6 * ct + 2)).toNatClampNeg = w2 from hw2.symm]
                            refine lv_aload_n cx.x cx.b d_Lw_law_368 rfl (lv_at hl 1 rfl) ?_
                            refine lv_iload_n cx.x cx.b d_Lw_law_369 rfl (lv_at hl 0 rfl) ?_
                            refine lv_iconst (v := 3) cx.x cx.b d_Lw_law_370 (by decide) ?_
                            refine lv_iadd cx.x cx.b d_Lw_law_371 ?_
                            refine lv_topi (fun x212 e_x212 => ?_)
                            have e_x212 : x212 = nI ((6 * ct) + 3) := e_x212.trans (nI_add (6 * ct) 3)
                            subst e_x212
                            refine va_sld cx.x cx.b hX hbl hbA (va_So hO hlo) (vp_in_nI (show 6 * ct + 3 < L by omega) (by omega)) d_Lw_law_372 ?_
                            rw [show xs (nI (6 * ct + 3)).toNatClampNeg = w3 from hw3.symm]
                            refine hx_calli (iv_Lw_55_Mo cx (c_Mo_about l hE hM hcr (b := 1) (by decide) rV cv w2 w3) hM.1 rfl hl.1 rfl (Nat.le_of_ble_eq_true rfl) d_Lw_law_373 ⟨Nat.le_of_ble_eq_true rfl, Nat.le_of_ble_eq_true rfl⟩ ⟨by show 30 + 680 * ct + 0 + 0 ≤ 600000; omega, by show 11827 + 7200 * ct + 0 + 0 ≤ 7302250; omega⟩) hlo (fun _ h => h) (fun r215 H214 locs hp213 hlo => ?_)
                            obtain ⟨q2, hH9⟩ := hp213
                            have hH9 := hH9.symm
                            subst hH9
                            have hreq : r209 = r215 := by rw [q1, q2, tySel_1, tyV_C, abV_C]
                            refine lv_icmp_eq (tgt := 544) cx.x cx.b d_Lw_law_376 (by decide) (fun _ => ?_) (fun c => absurd hreq c)
                            exact NX _ _ _ _ hlo (LI.same hB hM hdj hR hO) hi6 (by show 30 + 680 * ct + 0 + 0 ≤ 30 + 680 * (ct + 1); omega) (by show 11827 + 7200 * ct + 0 + 0 ≤ 11827 + 7200 * (ct + 1); omega) _ (lv_sub hl [0, 1, 2, 3] rfl)
                          · have hbn : ¬ (w1 = 0 ∨ w1 = 1) := fun z => by rcases z with z | z; exact hb0 z; exact hb1 z
                            refine lv_aload_n cx.x cx.b d_Lw_law_338 rfl (lv_at hl 2 rfl) ?_
                            refine lv_aload_n cx.x cx.b d_Lw_law_339 rfl (lv_at hl 1 rfl) ?_
                            refine lv_iload_n cx.x cx.b d_Lw_law_340 rfl (lv_at hl 0 rfl) ?_
                            refine lv_iconst (v := 1) cx.x cx.b d_Lw_law_341 (by decide) ?_
                            refine lv_iadd cx.x cx.b d_Lw_law_342 ?_
                            refine lv_topi (fun x216 e_x216 => ?_)
                            have e_x216 : x216 = nI ((6 * ct) + 1) := e_x216.trans (nI_add (6 * ct) 1)
                            subst e_x216
                            refine va_sld cx.x cx.b hX hbl hbA (va_So hO hlo) (vp_in_nI (show 6 * ct + 1 < L by omega) (by omega)) d_Lw_law_343 ?_
                            rw [show xs (nI (6 * ct + 1)).toNatClampNeg = w1 from hw1.symm]
                            refine lv_aload_n cx.x cx.b d_Lw_law_344 rfl (lv_at hl 1 rfl) ?_
                            refine lv_iload_n cx.x cx.b d_Lw_law_345 rfl (lv_at hl 0 rfl) ?_
                            refine lv_iconst (v := 2) cx.x cx.b d_Lw_law_346 (by decide) ?_
                            refine lv_iadd cx.x cx.b d_Lw_law_347 ?_
                            refine lv_topi (fun x217 e_x217 => ?_)
                            have e_x217 : x217 = nI ((6 * ct) + 2) := e_x217.trans (nI_add (6 * ct) 2)
                            subst e_x217
                            refine va_sld cx.x cx.b hX hbl hbA (va_So hO hlo) (vp_in_nI (show 6 * ct + 2 < L by omega) (by omega)) d_Lw_law_348 ?_
                            rw [show xs (nI (6 * ct + 2)).toNatClampNeg = w2 from hw2.symm]
                            refine lv_aload_n cx.x cx.b d_Lw_law_349 rfl (lv_at hl 1 rfl) ?_
                            refine lv_iload_n cx.x cx.b d_Lw_law_350 rfl (lv_at hl 0 rfl) ?_
                            refine lv_iconst (v := 3) cx.x cx.b d_Lw_law_351 (by decide) ?_
                            refine lv_iadd cx.x cx.b d_Lw_law_352 ?_
                            refine lv_topi (fun x218 e_x218 => ?_)
                            have e_x218 : x218 = nI ((6 * ct) + 3) := e_x218.trans (nI_add (6 * ct) 3)
                            subst e_x218
                            refine va_sld cx.x cx.b hX hbl hbA (va_So hO hlo) (vp_in_nI (show 6 * ct + 3 < L by omega) (by omega)) d_Lw_law_353 ?_
                            rw [show xs (nI (6 * ct + 3)).toNatClampNeg = w3 from hw3.symm]
                            refine hx_calli (iv_Lw_51_B cx (c_B_about l hE hB w1 w2 w3) hB.1 rfl hl.1 rfl (Nat.le_of_ble_eq_true rfl) d_Lw_law_354 ⟨Nat.le_of_ble_eq_true rfl, Nat.le_of_ble_eq_true rfl⟩ ⟨by show 30 + 680 * ct + 0 ≤ 600000; omega, by show 11827 + 7200 * ct + 0 ≤ 7302250; omega⟩) hlo (fun _ h => h) (fun r221 H220 locs hp219 hlo => ?_)
                            obtain ⟨q1, hH9⟩ := hp219
                            have hH9 := hH9.symm
                            subst hH9
                            refine lv_aload_n cx.x cx.b d_Lw_law_357 rfl (lv_at hl 3 rfl) ?_
                            refine lv_aload_n cx.x cx.b d_Lw_law_358 rfl (lv_at hl 1 rfl) ?_
                            refine lv_iload_n cx.x cx.b d_Lw_law_359 rfl (lv_at hl 0 rfl) ?_
                            refine lv_iconst (v := 1) cx.x cx.b d_Lw_law_360 (by decide) ?_
                            refine lv_iadd cx.x cx.b d_Lw_law_361 ?_
                            refine lv_topi (fun x222 e_x222 => ?_)
                            have e_x222 : x222 = nI ((6 * ct) + 1) := e_x222.trans (nI_add (6 * ct) 1)
                            subst e_x222
                            refine va_sld cx.x cx.b hX hbl hbA (va_So hO hlo) (vp_in_nI (show 6 * ct + 1 < L by omega) (by omega)) d_Lw_law_362 ?_
                            rw [show xs (nI (6 * ct + 1)).toNatClampNeg = w1 from hw1.symm]
                            refine lv_aload_n cx.x cx.b d_Lw_law_363 rfl (lv_at hl 1 rfl) ?_
                            refine lv_iload_n cx.x cx.b d_Lw_law_364 rfl (lv_at hl 0 rfl) ?_
                            refine lv_iconst (v := 2) cx.x cx.b d_Lw_law_365 (by decide) ?_
                            refine lv_iadd cx.x cx.b d_Lw_law_366 ?_
                            refine lv_topi (fun x223 e_x223 => ?_)
                            have e_x223 : x223 = nI ((6 * ct) + 2) := e_x223.trans (nI_add (6 * ct) 2)
                            subst e_x223
                            refine va_sld cx.x cx.b hX hbl hbA (va_So hO hlo) (vp_in_nI (show 6 * ct + 2 < L by omega) (by omega)) d_Lw_law_367 ?_
                            rw [show xs (nI (6 * ct + 2)).toNatClampNeg = w2 from hw2.symm]
                            refine lv_aload_n cx.x cx.b d_Lw_law_368 rfl (lv_at hl 1 rfl) ?_
                            refine lv_iload_n cx.x cx.b d_Lw_law_369 rfl (lv_at hl 0 rfl) ?_
                            refine lv_iconst (v := 3) cx.x cx.b d_Lw_law_370 (by decide) ?_
                            refine lv_iadd cx.x cx.b d_Lw_law_371 ?_
                            refine lv_topi (fun x224 e_x224 => ?_)
                            have e_x224 : x224 = nI ((6 * ct) + 3) := e_x224.trans (nI_add (6 * ct) 3)
                            subst e_x224
                            refine va_sld cx.x cx.b hX hbl hbA (va_So hO hlo) (vp_in_nI (show 6 * ct + 3 < L by omega) (by omega)) d_Lw_law_372 ?_
                            rw [show xs (nI (6 * ct + 3)).toNatClampNeg = w3 from hw3.symm]
                            refine hx_calli (iv_Lw_55_Mo cx (c_Mo_aboutN l hE hM hbn w2 w3) hM.1 rfl hl.1 rfl (Nat.le_of_ble_eq_true rfl) d_Lw_law_373 ⟨Nat.le_of_ble_eq_true rfl, Nat.le_of_ble_eq_true rfl⟩ ⟨by show 30 + 680 * ct + 0 + 0 ≤ 600000; omega, by show 11827 + 7200 * ct + 0 + 0 ≤ 7302250; omega⟩) hlo (fun _ h => h) (fun r227 H226 locs hp225 hlo => ?_)
                            obtain ⟨q2, hH9⟩ := hp225
                            have hH9 := hH9.symm
                            subst hH9
                            have hreq : r221 = r227 := by rw [q1, q2, tySel_n hbn]; rfl
                            refine lv_icmp_eq (tgt := 544) cx.x cx.b d_Lw_law_376 (by decide) (fun _ => ?_) (fun c => absurd hreq c)
                            exact NX _ _ _ _ hlo (LI.same hB hM hdj hR hO) hi6 (by show 30 + 680 * ct + 0 + 0 ≤ 30 + 680 * (ct + 1); omega) (by show 11827 + 7200 * ct + 0 + 0 ≤ 11827 + 7200 * (ct + 1); omega) _ (lv_sub hl [0, 1, 2, 3] rfl)
                      · by_cases k_9 : x3 = 9
                        · subst k_9
                          refine lv_tableIn (tgt := 381) (off := 348) cx.x cx.b d_Lw_law_33 (by decide) (by decide) (by decide) (by decide) ?_
                          by_cases hb0 : w1 = 0
                          · subst hb0
                            refine lv_aload_n cx.x cx.b d_Lw_law_381 rfl (lv_at hl 2 rfl) ?_
                            refine lv_aload_n cx.x cx.b d_Lw_law_382 rfl (lv_at hl 1 rfl) ?_
                            refine lv_iload_n cx.x cx.b d_Lw_law_383 rfl (lv_at hl 0 rfl) ?_
                            refine lv_iconst (v := 1) cx.x cx.b d_Lw_law_384 (by decide) ?_
                            refine lv_iadd cx.x cx.b d_Lw_law_385 ?_
                            refine lv_topi (fun x228 e_x228 => ?_)
                            have e_x228 : x228 = nI ((6 * ct) + 1) := e_x228.trans (nI_add (6 * ct) 1)
                            subst e_x228
                            refine va_sld cx.x cx.b hX hbl hbA (va_So hO hlo) (vp_in_nI (show 6 * ct + 1 < L by omega) (by omega)) d_Lw_law_386 ?_
                            rw [show xs (nI (6 * ct + 1)).toNatClampNeg = 0 from hw1.symm]
                            refine lv_aload_n cx.x cx.b d_Lw_law_387 rfl (lv_at hl 1 rfl) ?_
                            refine lv_iload_n cx.x cx.b d_Lw_law_388 rfl (lv_at hl 0 rfl) ?_
                            refine lv_iconst (v := 2) cx.x cx.b d_Lw_law_389 (by decide) ?_
                            refine lv_iadd cx.x cx.b d_Lw_law_390 ?_
                            refine lv_topi (fun x229 e_x229 => ?_)
                            have e_x229 : x229 = nI ((6 * ct) + 2) := e_x229.trans (nI_add (6 * ct) 2)
                            subst e_x229
                            refine va_sld cx.x cx.b hX hbl hbA (va_So hO hlo) (vp_in_nI (show 6 * ct + 2 < L by omega) (by omega)) d_Lw_law_391 ?_
                            rw [show xs (nI (6 * ct + 2)).toNatClampNeg = w2 from hw2.symm]
                            refine lv_aload_n cx.x cx.b d_Lw_law_392 rfl (lv_at hl 1 rfl) ?_
                            refine lv_iload_n cx.x cx.b d_Lw_law_393 rfl (lv_at hl 0 rfl) ?_
                            refine lv_iconst (v := 3) cx.x cx.b d_Lw_law_394 (by decide) ?_
                            refine lv_iadd cx.x cx.b d_Lw_law_395 ?_
                            refine lv_topi (fun x230 e_x230 => ?_)
                            have e_x230 : x230 = nI ((6 * ct) + 3) := e_x230.trans (nI_add (6 * ct) 3)
                            subst e_x230
                            refine va_sld cx.x cx.b hX hbl hbA (va_So hO hlo) (vp_in_nI (show 6 * ct + 3 < L by omega) (by omega)) d_Lw_law_396 ?_
                            rw [show xs (nI (6 * ct + 3)).toNatClampNeg = w3 from hw3.symm]
                            refine lv_aload_n cx.x cx.b d_Lw_law_397 rfl (lv_at hl 1 rfl) ?_
                            refine lv_iload_n cx.x cx.b d_Lw_law_398 rfl (lv_at hl 0 rfl) ?_
                            refine lv_iconst (v := 4) cx.x cx.b d_Lw_law_399 (by decide) ?_
                            refine lv_iadd cx.x cx.b d_Lw_law_400 ?_
                            refine lv_topi (fun x231 e_x231 => ?_)
                            have e_x231 : x231 = nI ((6 * ct) + 4) := e_x231.trans (nI_add (6 * ct) 4)
                            subst e_x231
                            refine va_sld cx.x cx.b hX hbl hbA (va_So hO hlo) (vp_in_nI (show 6 * ct + 4 < L by omega) (by omega)) d_Lw_law_401 ?_
                            rw [show xs (nI (6 * ct + 4)).toNatClampNeg = w4 from hw4.symm]
                            refine hx_calli (iv_Lw_56_B cx (c_B_member l hE hB 0 w2 w3 w4) hB.1 rfl hl.1 rfl (Nat.le_of_ble_eq_true rfl) d_Lw_law_402 ⟨Nat.le_of_ble_eq_true rfl, Nat.le_of_ble_eq_true rfl⟩ ⟨by show 30 + 680 * ct + 0 ≤ 600000; omega, by show 11827 + 7200 * ct + 0 ≤ 7302250; omega⟩) hlo (fun _ h => h) (fun r234 H233 locs hp232 hlo => ?_)
                            obtain ⟨q1, hH9⟩ := hp232
                            have hH9 := hH9.symm
                            subst hH9
                            refine lv_aload_n cx.x cx.b d_Lw_law_405 rfl (lv_at hl 3 rfl) ?_
                            refine lv_aload_n cx.x cx.b d_Lw_law_406 rfl (lv_at hl 1 rfl) ?_
                            refine lv_iload_n cx.x cx.b d_Lw_law_407 rfl (lv_at hl 0 rfl) ?_
                            refine lv_iconst (v := 1) cx.x cx.b d_Lw_law_408 (by decide) ?_
                            refine lv_iadd cx.x cx.b d_Lw_law_409 ?_
                            refine lv_topi (fun x235 e_x235 => ?_)
                            have e_x235 : x235 = nI ((6 * ct) + 1) := e_x235.trans (nI_add (6 * ct) 1)
                            subst e_x235
                            refine va_sld cx.x cx.b hX hbl hbA (va_So hO hlo) (vp_in_nI (show 6 * ct + 1 < L by omega) (by omega)) d_Lw_law_410 ?_
                            rw [show xs (nI (6 * ct + 1)).toNatClampNeg = 0 from hw1.symm]
                            refine lv_aload_n cx.x cx.b d_Lw_law_411 rfl (lv_at hl 1 rfl) ?_
                            refine lv_iload_n cx.x cx.b d_Lw_law_412 rfl (lv_at hl 0 rfl) ?_
                            refine lv_iconst (v := 2) cx.x cx.b d_Lw_law_413 (by decide) ?_
                            refine lv_iadd cx.x cx.b d_Lw_law_414 ?_
                            refine lv_topi (fun x236 e_x236 => ?_)
                            have e_x236 : x236 = nI ((6 * ct) + 2) := e_x236.trans (nI_add (6 * ct) 2)
                            subst e_x236
                            refine va_sld cx.x cx.b hX hbl hbA (va_So hO hlo) (vp_in_nI (show 6 * ct + 2 < L by omega) (by omega)) d_Lw_law_415 ?_
                            rw [show xs (nI (6 * ct + 2)).toNatClampNeg = w2 from hw2.symm]
                            refine lv_aload_n cx.x cx.b d_Lw_law_416 rfl (lv_at hl 1 rfl) ?_
                            refine lv_iload_n cx.x cx.b d_Lw_law_417 rfl (lv_at hl 0 rfl) ?_
                            refine lv_iconst (v := 3) cx.x cx.b d_Lw_law_418 (by decide) ?_
                            refine lv_iadd cx.x cx.b d_Lw_law_419 ?_
                            refine lv_topi (fun x237 e_x237 => ?_)
                            have e_x237 : x237 = nI ((6 * ct) + 3) := e_x237.trans (nI_add (6 * ct) 3)
                            subst e_x237
                            refine va_sld cx.x cx.b hX hbl hbA (va_So hO hlo) (vp_in_nI (show 6 * ct + 3 < L by omega) (by omega)) d_Lw_law_420 ?_
                            rw [show xs (nI (6 * ct + 3)).toNatClampNeg = w3 from hw3.symm]
                            refine lv_aload_n cx.x cx.b d_Lw_law_421 rfl (lv_at hl 1 rfl) ?_
                            refine lv_iload_n cx.x cx.b d_Lw_law_422 rfl (lv_at hl 0 rfl) ?_
                            refine lv_iconst (v := 4) cx.x cx.b d_Lw_law_423 (by decide) ?_
                            refine lv_iadd cx.x cx.b d_Lw_law_424 ?_
                            refine lv_topi (fun x238 e_x238 => ?_)
                            have e_x238 : x238 = nI ((6 * ct) + 4) := e_x238.trans (nI_add (6 * ct) 4)
                            subst e_x238
                            refine va_sld cx.x cx.b hX hbl hbA (va_So hO hlo) (vp_in_nI (show 6 * ct + 4 < L by omega) (by omega)) d_Lw_law_425 ?_
                            rw [show xs (nI (6 * ct + 4)).toNatClampNeg = w4 from hw4.symm]
                            refine hx_calli (iv_Lw_60_Mo cx (c_Mo_member l hE hM hcr (b := 0) (by decide) rU cu iu.2.2.1 w2 w3 w4) hM.1 rfl hl.1 rfl (Nat.le_of_ble_eq_true rfl) d_Lw_law_426 ⟨Nat.le_of_ble_eq_true rfl, Nat.le_of_ble_eq_true rfl⟩ ⟨by show 30 + 680 * ct + 0 + 0 ≤ 600000; omega, by show 11827 + 7200 * ct + 0 + 0 ≤ 7302250; omega⟩) hlo (fun _ h => h) (fun r241 H240 locs hp239 hlo => ?_)
                            obtain ⟨q2, hH9⟩ := hp239
                            have hH9 := hH9.symm
                            subst hH9
                            have hreq : r234 = r241 := by rw [q1, q2, tySel_0, tyV_C, mbV_C, meV_C]
                            refine lv_icmp_eq (tgt := 544) cx.x cx.b d_Lw_law_429 (by decide) (fun _ => ?_) (fun c => absurd hreq c)
                            exact NX _ _ _ _ hlo (LI.same hB hM hdj hR hO) hi6 (by show 30 + 680 * ct + 0 + 0 ≤ 30 + 680 * (ct + 1); omega) (by show 11827 + 7200 * ct + 0 + 0 ≤ 11827 + 7200 * (ct + 1); omega) _ (lv_sub hl [0, 1, 2, 3] rfl)
                          · by_cases hb1 : w1 = 1
                            · subst hb1
                              refine lv_aload_n cx.x cx.b d_Lw_law_381 rfl (lv_at hl 2 rfl) ?_
                              refine lv_aload_n cx.x cx.b d_Lw_law_382 rfl (lv_at hl 1 rfl) ?_
                              refine lv_iload_n cx.x cx.b d_Lw_law_383 rfl (lv_at hl 0 rfl) ?_
                              refine lv_iconst (v := 1) cx.x cx.b d_Lw_law_384 (by decide) ?_
                              refine lv_iadd cx.x cx.b d_Lw_law_385 ?_
                              refine lv_topi (fun x242 e_x242 => ?_)
                              have e_x242 : x242 = nI ((6 * ct) + 1) := e_x242.trans (nI_add (6 * ct) 1)
                              subst e_x242
                              refine va_sld cx.x cx.b hX hbl hbA (va_So hO hlo) (vp_in_nI (show 6 * ct + 1 < L by omega) (by omega)) d_Lw_law_386 ?_
                              rw [show xs (nI (6 * ct + 1)).toNatClampNeg = 1 from hw1.symm]
                              refine lv_aload_n cx.x cx.b d_Lw_law_387 rfl (lv_at hl 1 rfl) ?_
                              refine lv_iload_n cx.x cx.b d_Lw_law_388 rfl (lv_at hl 0 rfl) ?_
                              refine lv_iconst (v := 2) cx.x cx.b d_Lw_law_389 (by decide) ?_
                              refine lv_iadd cx.x cx.b d_Lw_law_390 ?_
                              refine lv_topi (fun x243 e_x243 => ?_)
                              have e_x243 : x243 = nI ((6 * ct) + 2) := e_x243.trans (nI_add (6 * ct) 2)
                              subst e_x243
                              refine va_sld cx.x cx.b hX hbl hbA (va_So hO hlo) (vp_in_nI (show 6 * ct + 2 < L by omega) (by omega)) d_Lw_law_391 ?_
                              rw [show xs (nI (6 * ct + 2)).toNatClampNeg = w2 from hw2.symm]
                              refine lv_aload_n cx.x cx.b d_Lw_law_392 rfl (lv_at hl 1 rfl) ?_
                              refine lv_iload_n cx.x cx.b d_Lw_law_393 rfl (lv_at hl 0 rfl) ?_
                              refine lv_iconst (v := 3) cx.x cx.b d_Lw_law_394 (by decide) ?_
                              refine lv_iadd cx.x cx.b d_Lw_law_395 ?_
                              refine lv_topi (fun x244 e_x244 => ?_)
                              have e_x244 : x244 = nI ((6 * ct) + 3) := e_x244.trans (nI_add (6 * ct) 3)
                              subst e_x244
                              refine va_sld cx.x cx.b hX hbl hbA (va_So hO hlo) (vp_in_nI (show 6 * ct + 3 < L by omega) (by omega)) d_Lw_law_396 ?_
                              rw [show xs (nI (6 * ct + 3)).toNatClampNeg = w3 from hw3.symm]
                              refine lv_aload_n cx.x cx.b d_Lw_law_397 rfl (lv_at hl 1 rfl) ?_
                              refine lv_iload_n cx.x cx.b d_Lw_law_398 rfl (lv_at hl 0 rfl) ?_
                              refine lv_iconst (v := 4) cx.x cx.b d_Lw_law_399 (by decide) ?_
                              refine lv_iadd cx.x cx.b d_Lw_law_400 ?_
                              refine lv_topi (fun x245 e_x245 => ?_)
                              have e_x245 : x245 = nI ((6 * ct) + 4) := e_x245.trans (nI_add (6 * ct) 4)
                              subst e_x245
                              refine va_sld cx.x cx.b hX hbl hbA (va_So hO hlo) (vp_in_nI (show 6 * ct + 4 < L by omega) (by omega)) d_Lw_law_401 ?_
                              rw [show xs (nI (6 * ct + 4)).toNatClampNeg = w4 from hw4.symm]
                              refine hx_calli (iv_Lw_56_B cx (c_B_member l hE hB 1 w2 w3 w4) hB.1 rfl hl.1 rfl (Nat.le_of_ble_eq_true rfl) d_Lw_law_402 ⟨Nat.le_of_ble_eq_true rfl, Nat.le_of_ble_eq_true rfl⟩ ⟨by show 30 + 680 * ct + 0 ≤ 600000; omega, by show 11827 + 7200 * ct + 0 ≤ 7302250; omega⟩) hlo (fun _ h => h) (fun r248 H247 locs hp246 hlo => ?_)
                              obtain ⟨q1, hH9⟩ := hp246
                              have hH9 := hH9.symm
                              subst hH9
                              refine lv_aload_n cx.x cx.b d_Lw_law_405 rfl (lv_at hl 3 rfl) ?_
                              refine lv_aload_n cx.x cx.b d_Lw_law_406 rfl (lv_at hl 1 rfl) ?_
                              refine lv_iload_n cx.x cx.b d_Lw_law_407 rfl (lv_at hl 0 rfl) ?_
                              refine lv_iconst (v := 1) cx.x cx.b d_Lw_law_408 (by decide) ?_
                              refine lv_iadd cx.x cx.b d_Lw_law_409 ?_
                              refine lv_topi (fun x249 e_x249 => ?_)
                              have e_x249 : x249 = nI ((6 * ct) + 1) := e_x249.trans (nI_add (6 * ct) 1)
                              subst e_x249
                              refine va_sld cx.x cx.b hX hbl hbA (va_So hO hlo) (vp_in_nI (show 6 * ct + 1 < L by omega) (by omega)) d_Lw_law_410 ?_
                              rw [show xs (nI (6 * ct + 1)).toNatClampNeg = 1 from hw1.symm]
                              refine lv_aload_n cx.x cx.b d_Lw_law_411 rfl (lv_at hl 1 rfl) ?_
                              refine lv_iload_n cx.x cx.b d_Lw_law_412 rfl (lv_at hl 0 rfl) ?_
                              refine lv_iconst (v := 2) cx.x cx.b d_Lw_law_413 (by decide) ?_
                              refine lv_iadd cx.x cx.b d_Lw_law_414 ?_
                              refine lv_topi (fun x250 e_x250 => ?_)
                              have e_x250 : x250 = nI ((6 * ct) + 2) := e_x250.trans (nI_add (6 * ct) 2)
                              subst e_x250
                              refine va_sld cx.x cx.b hX hbl hbA (va_So hO hlo) (vp_in_nI (show 6 * ct + 2 < L by omega) (by omega)) d_Lw_law_415 ?_
                              rw [show xs (nI (6 * ct + 2)).toNatClampNeg = w2 from hw2.symm]
                              refine lv_aload_n cx.x cx.b d_Lw_law_416 rfl (lv_at hl 1 rfl) ?_
                              refine lv_iload_n cx.x cx.b d_Lw_law_417 rfl (lv_at hl 0 rfl) ?_
                              refine lv_iconst (v := 3) cx.x cx.b d_Lw_law_418 (by decide) ?_
                              refine lv_iadd cx.x cx.b d_Lw_law_419 ?_
                              refine lv_topi (fun x251 e_x251 => ?_)
                              have e_x251 : x251 = nI ((6 * ct) + 3) := e_x251.trans (nI_add (6 * ct) 3)
                              subst e_x251
                              refine va_sld cx.x cx.b hX hbl hbA (va_So hO hlo) (vp_in_nI (show 6 * ct + 3 < L by omega) (by omega)) d_Lw_law_420 ?_
                              rw [show xs (nI (6 * ct + 3)).toNatClampNeg = w3 from hw3.symm]
                              refine lv_aload_n cx.x cx.b d_Lw_law_421 rfl (lv_at hl 1 rfl) ?_
                              refine lv_iload_n cx.x cx.b d_Lw_law_422 rfl (lv_at hl 0 rfl) ?_
                              refine lv_iconst (v := 4) cx.x cx.b d_Lw_law_423 (by decide) ?_
                              refine lv_iadd cx.x cx.b d_Lw_law_424 ?_
                              refine lv_topi (fun x252 e_x252 => ?_)
                              have e_x252 : x252 = nI ((6 * ct) + 4) := e_x252.trans (nI_add (6 * ct) 4)
                              subst e_x252
                              refine va_sld cx.x cx.b hX hbl hbA (va_So hO hlo) (vp_in_nI (show 6 * ct + 4 < L by omega) (by omega)) d_Lw_law_425 ?_
                              rw [show xs (nI (6 * ct + 4)).toNatClampNeg = w4 from hw4.symm]
                              refine hx_calli (iv_Lw_60_Mo cx (c_Mo_member l hE hM hcr (b := 1) (by decide) rV cv iv.2.2.1 w2 w3 w4) hM.1 rfl hl.1 rfl (Nat.le_of_ble_eq_true rfl) d_Lw_law_426 ⟨Nat.le_of_ble_eq_true rfl, Nat.le_of_ble_eq_true rfl⟩ ⟨by show 30 + 680 * ct + 0 + 0 ≤ 600000; omega, by show 11827 + 7200 * ct + 0 + 0 ≤ 7302250; omega⟩) hlo (fun _ h => h) (fun r255 H254 locs hp253 hlo => ?_)
                              obtain ⟨q2, hH9⟩ := hp253
                              have hH9 := hH9.symm
                              subst hH9
                              have hreq : r248 = r255 := by rw [q1, q2, tySel_1, tyV_C, mbV_C, meV_C]
                              refine lv_icmp_eq (tgt := 544) cx.x cx.b d_Lw_law_429 (by decide) (fun _ => ?_) (fun c => absurd hreq c)
                              exact NX _ _ _ _ hlo (LI.same hB hM hdj hR hO) hi6 (by show 30 + 680 * ct + 0 + 0 ≤ 30 + 680 * (ct + 1); omega) (by show 11827 + 7200 * ct + 0 + 0 ≤ 11827 + 7200 * (ct + 1); omega) _ (lv_sub hl [0, 1, 2, 3] rfl)
                            · have hbn : ¬ (w1 = 0 ∨ w1 = 1) := fun z => by rcases z with z | z; exact hb0 z; exact hb1 z
                              refine lv_aload_n cx.x cx.b d_Lw_law_381 rfl (lv_at hl 2 rfl) ?_
                              refine lv_aload_n cx.x cx.b d_Lw_law_382 rfl (lv_at hl 1 rfl) ?_
                              refine lv_iload_n cx.x cx.b d_Lw_law_383 rfl (lv_at hl 0 rfl) ?_
                              refine lv_iconst (v := 1) cx.x cx.b d_Lw_law_384 (by decide) ?_
                              refine lv_iadd cx.x cx.b d_Lw_law_385 ?_
                              refine lv_topi (fun x256 e_x256 => ?_)
                              have e_x256 : x256 = nI ((6 * ct) + 1) := e_x256.trans (nI_add (6 * ct) 1)
                              subst e_x256
                              refine va_sld cx.x cx.b hX hbl hbA (va_So hO hlo) (vp_in_nI (show 6 * ct + 1 < L by omega) (by omega)) d_Lw_law_386 ?_
                              rw [show xs (nI (6 * ct + 1)).toNatClampNeg = w1 from hw1.symm]
                              refine lv_aload_n cx.x cx.b d_Lw_law_387 rfl (lv_at hl 1 rfl) ?_
                              refine lv_iload_n cx.x cx.b d_Lw_law_388 rfl (lv_at hl 0 rfl) ?_
                              refine lv_iconst (v := 2) cx.x cx.b d_Lw_law_389 (by decide) ?_
                              refine lv_iadd cx.x cx.b d_Lw_law_390 ?_
                              refine lv_topi (fun x257 e_x257 => ?_)
                              have e_x257 : x257 = nI ((6 * ct) + 2) := e_x257.trans (nI_add (6 * ct) 2)
                              subst e_x257
                              refine va_sld cx.x cx.b hX hbl hbA (va_So hO hlo) (vp_in_nI (show 6 * ct + 2 < L by omega) (by omega)) d_Lw_law_391 ?_
                              rw [show xs (nI (6 * ct + 2)).toNatClampNeg = w2 from hw2.symm]
                              refine lv_aload_n cx.x cx.b d_Lw_law_392 rfl (lv_at hl 1 rfl) ?_
                              refine lv_iload_n cx.x cx.b d_Lw_law_393 rfl (lv_at hl 0 rfl) ?_
                              refine lv_iconst (v := 3) cx.x cx.b d_Lw_law_394 (by decide) ?_
                              refine lv_iadd cx.x cx.b d_Lw_law_395 ?_
                              refine lv_topi (fun x258 e_x258 => ?_)
                              have e_x258 : x258 = nI ((6 * ct) + 3) := e_x258.trans (nI_add (6 * ct) 3)
                              subst e_x258
                              refine va_sld cx.x cx.b hX hbl hbA (va_So hO hlo) (vp_in_nI (show 6 * ct + 3 < L by omega) (by omega)) d_Lw_law_396 ?_
                              rw [show xs (nI (6 * ct + 3)).toNatClampNeg = w3 from hw3.symm]
                              refine lv_aload_n cx.x cx.b d_Lw_law_397 rfl (lv_at hl 1 rfl) ?_
                              refine lv_iload_n cx.x cx.b d_Lw_law_398 rfl (lv_at hl 0 rfl) ?_
                              refine lv_iconst (v := 4) cx.x cx.b d_Lw_law_399 (by decide) ?_
                              refine lv_iadd cx.x cx.b d_Lw_law_400 ?_
                              refine lv_topi (fun x259 e_x259 => ?_)
                              have e_x259 : x259 = nI ((6 * ct) + 4) := e_x259.trans (nI_add (6 * ct) 4)
                              subst e_x259
                              refine va_sld cx.x cx.b hX hbl hbA (va_So hO hlo) (vp_in_nI (show 6 * ct + 4 < L by omega) (by omega)) d_Lw_law_401 ?_
                              rw [show xs (nI (6 * ct + 4)).toNatClampNeg = w4 from hw4.symm]
                              refine hx_calli (iv_Lw_56_B cx (c_B_member l hE hB w1 w2 w3 w4) hB.1 rfl hl.1 rfl (Nat.le_of_ble_eq_true rfl) d_Lw_law_402 ⟨Nat.le_of_ble_eq_true rfl, Nat.le_of_ble_eq_true rfl⟩ ⟨by show 30 + 680 * ct + 0 ≤ 600000; omega, by show 11827 + 7200 * ct + 0 ≤ 7302250; omega⟩) hlo (fun _ h => h) (fun r262 H261 locs hp260 hlo => ?_)
                              obtain ⟨q1, hH9⟩ := hp260
                              have hH9 := hH9.symm
                              subst hH9
                              refine lv_aload_n cx.x cx.b d_Lw_law_405 rfl (lv_at hl 3 rfl) ?_
                              refine lv_aload_n cx.x cx.b d_Lw_law_406 rfl (lv_at hl 1 rfl) ?_
                              refine lv_iload_n cx.x cx.b d_Lw_law_407 rfl (lv_at hl 0 rfl) ?_
                              refine lv_iconst (v := 1) cx.x cx.b d_Lw_law_408 (by decide) ?_
                              refine lv_iadd cx.x cx.b d_Lw_law_409 ?_
                              refine lv_topi (fun x263 e_x263 => ?_)
                              have e_x263 : x263 = nI ((6 * ct) + 1) := e_x263.trans (nI_add (6 * ct) 1)
                              subst e_x263
                              refine va_sld cx.x cx.b hX hbl hbA (va_So hO hlo) (vp_in_nI (show 6 * ct + 1 < L by omega) (by omega)) d_Lw_law_410 ?_
                              rw [show xs (nI (6 * ct + 1)).toNatClampNeg = w1 from hw1.symm]
                              refine lv_aload_n cx.x cx.b d_Lw_law_411 rfl (lv_at hl 1 rfl) ?_
                              refine lv_iload_n cx.x cx.b d_Lw_law_412 rfl (lv_at hl 0 rfl) ?_
                              refine lv_iconst (v := 2) cx.x cx.b d_Lw_law_413 (by decide) ?_
                              refine lv_iadd cx.x cx.b d_Lw_law_414 ?_
                              refine lv_topi (fun x264 e_x264 => ?_)
                              have e_x264 : x264 = nI ((6 * ct) + 2) := e_x264.trans (nI_add (6 * ct) 2)
                              subst e_x264
                              refine va_sld cx.x cx.b hX hbl hbA (va_So hO hlo) (vp_in_nI (show 6 * ct + 2 < L by omega) (by omega)) d_Lw_law_415 ?_
                              rw [show xs (nI (6 * ct + 2)).toNatClampNeg = w2 from hw2.symm]
                              refine lv_aload_n cx.x cx.b d_Lw_law_416 rfl (lv_at hl 1 rfl) ?_
                              refine lv_iload_n cx.x cx.b d_Lw_law_417 rfl (lv_at hl 0 rfl) ?_
                              refine lv_iconst (v := 3) cx.x cx.b d_Lw_law_418 (by decide) ?_
                              refine lv_iadd cx.x cx.b d_Lw_law_419 ?_
                              refine lv_topi (fun x265 e_x265 => ?_)
                              have e_x265 : x265 = nI ((6 * ct) + 3) := e_x265.trans (nI_add (6 * ct) 3)
                              subst e_x265
                              refine va_sld cx.x cx.b hX hbl hbA (va_So hO hlo) (vp_in_nI (show 6 * ct + 3 < L by omega) (by omega)) d_Lw_law_420 ?_
                              rw [show xs (nI (6 * ct + 3)).toNatClampNeg = w3 from hw3.symm]
                              refine lv_aload_n cx.x cx.b d_Lw_law_421 rfl (lv_at hl 1 rfl) ?_
                              refine lv_iload_n cx.x cx.b d_Lw_law_422 rfl (lv_at hl 0 rfl) ?_
                              refine lv_iconst (v := 4) cx.x cx.b d_Lw_law_423 (by decide) ?_
                              refine lv_iadd cx.x cx.b d_Lw_law_424 ?_
                              refine lv_topi (fun x266 e_x266 => ?_)
                              have e_x266 : x266 = nI ((6 * ct) + 4) := e_x266.trans (nI_add (6 * ct) 4)
                              subst e_x266
                              refine va_sld cx.x cx.b hX hbl hbA (va_So hO hlo) (vp_in_nI (show 6 * ct + 4 < L by omega) (by omega)) d_Lw_law_425 ?_
                              rw [show xs (nI (6 * ct + 4)).toNatClampNeg = w4 from hw4.symm]
                              refine hx_calli (iv_Lw_60_Mo cx (c_Mo_memberN l hE hM hbn w2 w3 w4) hM.1 rfl hl.1 rfl (Nat.le_of_ble_eq_true rfl) d_Lw_law_426 ⟨Nat.le_of_ble_eq_true rfl, Nat.le_of_ble_eq_true rfl⟩ ⟨by show 30 + 680 * ct + 0 + 0 ≤ 600000; omega, by show 11827 + 7200 * ct + 0 + 0 ≤ 7302250; omega⟩) hlo (fun _ h => h) (fun r269 H268 locs hp267 hlo => ?_)
                              obtain ⟨q2, hH9⟩ := hp267
                              have hH9 := hH9.symm
                              subst hH9
                              have hreq : r262 = r269 := by rw [q1, q2, tySel_n hbn]; rfl
                              refine lv_icmp_eq (tgt := 544) cx.x cx.b d_Lw_law_429 (by decide) (fun _ => ?_) (fun c => absurd hreq c)
                              exact NX _ _ _ _ hlo (LI.same hB hM hdj hR hO) hi6 (by show 30 + 680 * ct + 0 + 0 ≤ 30 + 680 * (ct + 1); omega) (by show 11827 + 7200 * ct + 0 + 0 ≤ 11827 + 7200 * (ct + 1); omega) _ (lv_sub hl [0, 1, 2, 3] rfl)
                        · by_cases k_10 : x3 = 10
                          · subst k_10
                            refine lv_tableIn (tgt := 434) (off := 401) cx.x cx.b d_Lw_law_33 (by decide) (by decide) (by decide) (by decide) ?_
                            by_cases hb0 : w1 = 0
                            · subst hb0
                              refine lv_aload_n cx.x cx.b d_Lw_law_434 rfl (lv_at hl 2 rfl) ?_
                              refine lv_aload_n cx.x cx.b d_Lw_law_435 rfl (lv_at hl 1 rfl) ?_
                              refine lv_iload_n cx.x cx.b d_Lw_law_436 rfl (lv_at hl 0 rfl) ?_
                              refine lv_iconst (v := 1) cx.x cx.b d_Lw_law_437 (by decide) ?_
                              refine lv_iadd cx.x cx.b d_Lw_law_438 ?_
                              refine lv_topi (fun x270 e_x270 => ?_)
                              have e_x270 : x270 = nI ((6 * ct) + 1) := e_x270.trans (nI_add (6 * ct) 1)
                              subst e_x270
                              refine va_sld cx.x cx.b hX hbl hbA (va_So hO hlo) (vp_in_nI (show 6 * ct + 1 < L by omega) (by omega)) d_Lw_law_439 ?_
                              rw [show xs (nI (6 * ct + 1)).toNatClampNeg = 0 from hw1.symm]
                              refine lv_aload_n cx.x cx.b d_Lw_law_440 rfl (lv_at hl 1 rfl) ?_
                              refine lv_iload_n cx.x cx.b d_Lw_law_441 rfl (lv_at hl 0 rfl) ?_
                              refine lv_iconst (v := 2) cx.x cx.b d_Lw_law_442 (by decide) ?_
                              refine lv_iadd cx.x cx.b d_Lw_law_443 ?_
                              refine lv_topi (fun x271 e_x271 => ?_)
                              have e_x271 : x271 = nI ((6 * ct) + 2) := e_x271.trans (nI_add (6 * ct) 2)
                              subst e_x271
                              refine va_sld cx.x cx.b hX hbl hbA (va_So hO hlo) (vp_in_nI (show 6 * ct + 2 < L by omega) (by omega)) d_Lw_law_444 ?_
                              rw [show xs (nI (6 * ct + 2)).toNatClampNeg = w2 from hw2.symm]
                              refine lv_aload_n cx.x cx.b d_Lw_law_445 rfl (lv_at hl 1 rfl) ?_
                              refine lv_iload_n cx.x cx.b d_Lw_law_446 rfl (lv_at hl 0 rfl) ?_
                              refine lv_iconst (v := 3) cx.x cx.b d_Lw_law_447 (by decide) ?_
                              refine lv_iadd cx.x cx.b d_Lw_law_448 ?_
                              refine lv_topi (fun x272 e_x272 => ?_)
                              have e_x272 : x272 = nI ((6 * ct) + 3) := e_x272.trans (nI_add (6 * ct) 3)
                              subst e_x272
                              refine va_sld cx.x cx.b hX hbl hbA (va_So hO hlo) (vp_in_nI (show 6 * ct + 3 < L by omega) (by omega)) d_Lw_law_449 ?_
                              rw [show xs (nI (6 * ct + 3)).toNatClampNeg = w3 from hw3.symm]
                              refine lv_aload_n cx.x cx.b d_Lw_law_450 rfl (lv_at hl 1 rfl) ?_
                              refine lv_iload_n cx.x cx.b d_Lw_law_451 rfl (lv_at hl 0 rfl) ?_
                              refine lv_iconst (v := 4) cx.x cx.b d_Lw_law_452 (by decide) ?_
                              refine lv_iadd cx.x cx.b d_Lw_law_453 ?_
                              refine lv_topi (fun x273 e_x273 => ?_)
                              have e_x273 : x273 = nI ((6 * ct) + 4) := e_x273.trans (nI_add (6 * ct) 4)
                              subst e_x273
                              refine va_sld cx.x cx.b hX hbl hbA (va_So hO hlo) (vp_in_nI (show 6 * ct + 4 < L by omega) (by omega)) d_Lw_law_454 ?_
                              rw [show xs (nI (6 * ct + 4)).toNatClampNeg = w4 from hw4.symm]
                              refine lv_aload_n cx.x cx.b d_Lw_law_455 rfl (lv_at hl 1 rfl) ?_
                              refine lv_iload_n cx.x cx.b d_Lw_law_456 rfl (lv_at hl 0 rfl) ?_
                              refine lv_iconst (v := 5) cx.x cx.b d_Lw_law_457 (by decide) ?_
                              refine lv_iadd cx.x cx.b d_Lw_law_458 ?_
                              refine lv_topi (fun x274 e_x274 => ?_)
                              have e_x274 : x274 = nI ((6 * ct) + 5) := e_x274.trans (nI_add (6 * ct) 5)
                              subst e_x274
                              refine va_sld cx.x cx.b hX hbl hbA (va_So hO hlo) (vp_in_nI (show 6 * ct + 5 < L by omega) (by omega)) d_Lw_law_459 ?_
                              rw [show xs (nI (6 * ct + 5)).toNatClampNeg = w5 from hw5.symm]
                              refine hx_calli (iv_Lw_61_B cx (c_B_character l hE hB 0 w2 w3 w4 w5) hB.1 rfl hl.1 rfl (Nat.le_of_ble_eq_true rfl) d_Lw_law_460 ⟨Nat.le_of_ble_eq_true rfl, Nat.le_of_ble_eq_true rfl⟩ ⟨by show 30 + 680 * ct + 0 ≤ 600000; omega, by show 11827 + 7200 * ct + 0 ≤ 7302250; omega⟩) hlo (fun _ h => h) (fun r277 H276 locs hp275 hlo => ?_)
                              obtain ⟨q1, hH9⟩ := hp275
                              have hH9 := hH9.symm
                              subst hH9
                              refine lv_aload_n cx.x cx.b d_Lw_law_463 rfl (lv_at hl 3 rfl) ?_
                              refine lv_aload_n cx.x cx.b d_Lw_law_464 rfl (lv_at hl 1 rfl) ?_
                              refine lv_iload_n cx.x cx.b d_Lw_law_465 rfl (lv_at hl 0 rfl) ?_
                              refine lv_iconst (v := 1) cx.x cx.b d_Lw_law_466 (by decide) ?_
                              refine lv_iadd cx.x cx.b d_Lw_law_467 ?_
                              refine lv_topi (fun x278 e_x278 => ?_)
                              have e_x278 : x278 = nI ((6 * ct) + 1) := e_x278.trans (nI_add (6 * ct) 1)
                              subst e_x278
                              refine va_sld cx.x cx.b hX hbl hbA (va_So hO hlo) (vp_in_nI (show 6 * ct + 1 < L by omega) (by omega)) d_Lw_law_468 ?_
                              rw [show xs (nI (6 * ct + 1)).toNatClampNeg = 0 from hw1.symm]
                              refine lv_aload_n cx.x cx.b d_Lw_law_469 rfl (lv_at hl 1 rfl) ?_
                              refine lv_iload_n cx.x cx.b d_Lw_law_470 rfl (lv_at hl 0 rfl) ?_
                              refine lv_iconst (v := 2) cx.x cx.b d_Lw_law_471 (by decide) ?_
                              refine lv_iadd cx.x cx.b d_Lw_law_472 ?_
                              refine lv_topi (fun x279 e_x279 => ?_)
                              have e_x279 : x279 = nI ((6 * ct) + 2) := e_x279.trans (nI_add (6 * ct) 2)
                              subst e_x279
                              refine va_sld cx.x cx.b hX hbl hbA (va_So hO hlo) (vp_in_nI (show 6 * ct + 2 < L by omega) (by omega)) d_Lw_law_473 ?_
                              rw [show xs (nI (6 * ct + 2)).toNatClampNeg = w2 from hw2.symm]
                              refine lv_aload_n cx.x cx.b d_Lw_law_474 rfl (lv_at hl 1 rfl) ?_
                              refine lv_iload_n cx.x cx.b d_Lw_law_475 rfl (lv_at hl 0 rfl) ?_
                              refine lv_iconst (v := 3) cx.x cx.b d_Lw_law_476 (by decide) ?_
                              refine lv_iadd cx.x cx.b d_Lw_law_477 ?_
                              refine lv_topi (fun x280 e_x280 => ?_)
                              have e_x280 : x280 = nI ((6 * ct) + 3) := e_x280.trans (nI_add (6 * ct) 3)
                              subst e_x280
                              refine va_sld cx.x cx.b hX hbl hbA (va_So hO hlo) (vp_in_nI (show 6 * ct + 3 < L by omega) (by omega)) d_Lw_law_478 ?_
                              rw [show xs (nI (6 * ct + 3)).toNatClampNeg = w3 from hw3.symm]
                              refine lv_aload_n cx.x cx.b d_Lw_law_479 rfl (lv_at hl 1 rfl) ?_
                              refine lv_iload_n cx.x cx.b d_Lw_law_480 rfl (lv_at hl 0 rfl) ?_
                              refine lv_iconst (v := 4) cx.x cx.b d_Lw_law_481 (by decide) ?_
                              refine lv_iadd cx.x cx.b d_Lw_law_482 ?_
                              refine lv_topi (fun x281 e_x281 => ?_)
                              have e_x281 : x281 = nI ((6 * ct) + 4) := e_x281.trans (nI_add (6 * ct) 4)
                              subst e_x281
                              refine va_sld cx.x cx.b hX hbl hbA (va_So hO hlo) (vp_in_nI (show 6 * ct + 4 < L by omega) (by omega)) d_Lw_law_483 ?_
                              rw [show xs (nI (6 * ct + 4)).toNatClampNeg = w4 from hw4.symm]
                              refine lv_aload_n cx.x cx.b d_Lw_law_484 rfl (lv_at hl 1 rfl) ?_
                              refine lv_iload_n cx.x cx.b d_Lw_law_485 rfl (lv_at hl 0 rfl) ?_
                              refine lv_iconst (v := 5) cx.x cx.b d_Lw_law_486 (by decide) ?_
                              refine lv_iadd cx.x cx.b d_Lw_law_487 ?_
                              refine lv_topi (fun x282 e_x282 => ?_)
                              have e_x282 : x282 = nI ((6 * ct) + 5) := e_x282.trans (nI_add (6 * ct) 5)
                              subst e_x282
                              refine va_sld cx.x cx.b hX hbl hbA (va_So hO hlo) (vp_in_nI (show 6 * ct + 5 < L by omega) (by omega)) d_Lw_law_488 ?_
                              rw [show xs (nI (6 * ct + 5)).toNatClampNeg = w5 from hw5.symm]
                              refine hx_calli (iv_Lw_65_Mo cx (c_Mo_character l hE hM hcr (b := 0) (by decide) rU cu iu.2.2.1 w2 w3 w4 w5) hM.1 rfl hl.1 rfl (Nat.le_of_ble_eq_true rfl) d_Lw_law_489 ⟨Nat.le_of_ble_eq_true rfl, Nat.le_of_ble_eq_true rfl⟩ ⟨by show 30 + 680 * ct + 0 + 0 ≤ 600000; omega, by show 11827 + 7200 * ct + 0 + 0 ≤ 7302250; omega⟩) hlo (fun _ h => h) (fun r285 H284 locs hp283 hlo => ?_)
                              obtain ⟨q2, hH9⟩ := hp283
                              have hH9 := hH9.symm
                              subst hH9
                              have hreq : r277 = r285 := by rw [q1, q2, tySel_0, tyV_C, mbV_C, tyMap1, chV_C]; by_cases cw : w4 = -1; rw [if_pos cw, if_pos cw]; rw [if_neg cw, if_neg cw]
                              refine lv_icmp_eq (tgt := 544) cx.x cx.b d_Lw_law_492 (by decide) (fun _ => ?_) (fun c => absurd hreq c)
                              exact NX _ _ _ _ hlo (LI.same hB hM hdj hR hO) hi6 (by show 30 + 680 * ct + 0 + 0 ≤ 30 + 680 * (ct + 1); omega) (by show 11827 + 7200 * ct + 0 + 0 ≤ 11827 + 7200 * (ct + 1); omega) _ (lv_sub hl [0, 1, 2, 3] rfl)
                            · by_cases hb1 : w1 = 1
                              · subst hb1
                                refine lv_aload_n cx.x cx.b d_Lw_law_434 rfl (lv_at hl 2 rfl) ?_
                                refine lv_aload_n cx.x cx.b d_Lw_law_435 rfl (lv_at hl 1 rfl) ?_
                                refine lv_iload_n cx.x cx.b d_Lw_law_436 rfl (lv_at hl 0 rfl) ?_
                                refine lv_iconst (v := 1) cx.x cx.b d_Lw_law_437 (by decide) ?_
                                refine lv_iadd cx.x cx.b d_Lw_law_438 ?_
                                refine lv_topi (fun x286 e_x286 => ?_)
                                have e_x286 : x286 = nI ((6 * ct) + 1) := e_x286.trans (nI_add (6 * ct) 1)
                                subst e_x286
                                refine va_sld cx.x cx.b hX hbl hbA (va_So hO hlo) (vp_in_nI (show 6 * ct + 1 < L by omega) (by omega)) d_Lw_law_439 ?_
                                rw [show xs (nI (6 * ct + 1)).toNatClampNeg = 1 from hw1.symm]
                                refine lv_aload_n cx.x cx.b d_Lw_law_440 rfl (lv_at hl 1 rfl) ?_
                                refine lv_iload_n cx.x cx.b d_Lw_law_441 rfl (lv_at hl 0 rfl) ?_
                                refine lv_iconst (v := 2) cx.x cx.b d_Lw_law_442 (by decide) ?_
                                refine lv_iadd cx.x cx.b d_Lw_law_443 ?_
                                refine lv_topi (fun x287 e_x287 => ?_)
                                have e_x287 : x287 = nI ((6 * ct) + 2) := e_x287.trans (nI_add (6 * ct) 2)
                                subst e_x287
                                refine va_sld cx.x cx.b hX hbl hbA (va_So hO hlo) (vp_in_nI (show 6 * ct + 2 < L by omega) (by omega)) d_Lw_law_444 ?_
                                rw [show xs (nI (6 * ct + 2)).toNatClampNeg = w2 from hw2.symm]
                                refine lv_aload_n cx.x cx.b d_Lw_law_445 rfl (lv_at hl 1 rfl) ?_
                                refine lv_iload_n cx.x cx.b d_Lw_law_446 rfl (lv_at hl 0 rfl) ?_
                                refine lv_iconst (v := 3) cx.x cx.b d_Lw_law_447 (by decide) ?_
                                refine lv_iadd cx.x cx.b d_Lw_law_448 ?_
                                refine lv_topi (fun x288 e_x288 => ?_)
                                have e_x288 : x288 = nI ((6 * ct) + 3) := e_x288.trans (nI_add (6 * ct) 3)
                                subst e_x288
                                refine va_sld cx.x cx.b hX hbl hbA (va_So hO hlo) (vp_in_nI (show 6 * ct + 3 < L by omega) (by omega)) d_Lw_law_449 ?_
                                rw [show xs (nI (6 * ct + 3)).toNatClampNeg = w3 from hw3.symm]
                                refine lv_aload_n cx.x cx.b d_Lw_law_450 rfl (lv_at hl 1 rfl) ?_
                                refine lv_iload_n cx.x cx.b d_Lw_law_451 rfl (lv_at hl 0 rfl) ?_
                                refine lv_iconst (v := 4) cx.x cx.b d_Lw_law_452 (by decide) ?_
                                refine lv_iadd cx.x cx.b d_Lw_law_453 ?_
                                refine lv_topi (fun x289 e_x289 => ?_)
                                have e_x289 : x289 = nI ((6 * ct) + 4) := e_x289.trans (nI_add (6 * ct) 4)
                                subst e_x289
                                refine va_sld cx.x cx.b hX hbl hbA (va_So hO hlo) (vp_in_nI (show 6 * ct + 4 < L by omega) (by omega)) d_Lw_law_454 ?_
                                rw [show xs (nI (6 * ct + 4)).toNatClampNeg = w4 from hw4.symm]
                                refine lv_aload_n cx.x cx.b d_Lw_law_455 rfl (lv_at hl 1 rfl) ?_
                                refine lv_iload_n cx.x cx.b d_Lw_law_456 rfl (lv_at hl 0 rfl) ?_
                                refine lv_iconst (v := 5) cx.x cx.b d_Lw_law_457 (by decide) ?_
                                refine lv_iadd cx.x cx.b d_Lw_law_458 ?_
                                refine lv_topi (fun x290 e_x290 => ?_)
                                have e_x290 : x290 = nI ((6 * ct) + 5) := e_x290.trans (nI_add (6 * ct) 5)
                                subst e_x290
                                refine va_sld cx.x cx.b hX hbl hbA (va_So hO hlo) (vp_in_nI (show 6 * ct + 5 < L by omega) (by omega)) d_Lw_law_459 ?_
                                rw [show xs (nI (6 * ct + 5)).toNatClampNeg = w5 from hw5.symm]
                                refine hx_calli (iv_Lw_61_B cx (c_B_character l hE hB 1 w2 w3 w4 w5) hB.1 rfl hl.1 rfl (Nat.le_of_ble_eq_true rfl) d_Lw_law_460 ⟨Nat.le_of_ble_eq_true rfl, Nat.le_of_ble_eq_true rfl⟩ ⟨by show 30 + 680 * ct + 0 ≤ 600000; omega, by show 11827 + 7200 * ct + 0 ≤ 7302250; omega⟩) hlo (fun _ h => h) (fun r293 H292 locs hp291 hlo => ?_)
                                obtain ⟨q1, hH9⟩ := hp291
                                have hH9 := hH9.symm
                                subst hH9
                                refine lv_aload_n cx.x cx.b d_Lw_law_463 rfl (lv_at hl 3 rfl) ?_
                                refine lv_aload_n cx.x cx.b d_Lw_law_464 rfl (lv_at hl 1 rfl) ?_
                                refine lv_iload_n cx.x cx.b d_Lw_law_465 rfl (lv_at hl 0 rfl) ?_
                                refine lv_iconst (v := 1) cx.x cx.b d_Lw_law_466 (by decide) ?_
                                refine lv_iadd cx.x cx.b d_Lw_law_467 ?_
                                refine lv_topi (fun x294 e_x294 => ?_)
                                have e_x294 : x294 = nI ((6 * ct) + 1) := e_x294.trans (nI_add (6 * ct) 1)
                                subst e_x294
                                refine va_sld cx.x cx.b hX hbl hbA (va_So hO hlo) (vp_in_nI (show 6 * ct + 1 < L by omega) (by omega)) d_Lw_law_468 ?_
                                rw [show xs (nI (6 * ct + 1)).toNatClampNeg = 1 from hw1.symm]
                                refine lv_aload_n cx.x cx.b d_Lw_law_469 rfl (lv_at hl 1 rfl) ?_
                                refine lv_iload_n cx.x cx.b d_Lw_law_470 rfl (lv_at hl 0 rfl) ?_
                                refine lv_iconst (v := 2) cx.x cx.b d_Lw_law_471 (by decide) ?_
                                refine lv_iadd cx.x cx.b d_Lw_law_472 ?_
                                refine lv_topi (fun x295 e_x295 => ?_)
                                have e_x295 : x295 = nI ((6 * ct) + 2) := e_x295.trans (nI_add (6 * ct) 2)
                                subst e_x295
                                refine va_sld cx.x cx.b hX hbl hbA (va_So hO hlo) (vp_in_nI (show 6 * ct + 2 < L by omega) (by omega)) d_Lw_law_473 ?_
                                rw [show xs (nI (6 * ct + 2)).toNatClampNeg = w2 from hw2.symm]
                                refine lv_aload_n cx.x cx.b d_Lw_law_474 rfl (lv_at hl 1 rfl) ?_
                                refine lv_iload_n cx.x cx.b d_Lw_law_475 rfl (lv_at hl 0 rfl) ?_
                                refine lv_iconst (v := 3) cx.x cx.b d_Lw_law_476 (by decide) ?_
                                refine lv_iadd cx.x cx.b d_Lw_law_477 ?_
                                refine lv_topi (fun x296 e_x296 => ?_)
                                have e_x296 : x296 = nI ((6 * ct) + 3) := e_x296.trans (nI_add (6 * ct) 3)
                                subst e_x296
                                refine va_sld cx.x cx.b hX hbl hbA (va_So hO hlo) (vp_in_nI (show 6 * ct + 3 < L by omega) (by omega)) d_Lw_law_478 ?_
                                rw [show xs (nI (6 * ct + 3)).toNatClampNeg = w3 from hw3.symm]
                                refine lv_aload_n cx.x cx.b d_Lw_law_479 rfl (lv_at hl 1 rfl) ?_
                                refine lv_iload_n cx.x cx.b d_Lw_law_480 rfl (lv_at hl 0 rfl) ?_
                                refine lv_iconst (v := 4) cx.x cx.b d_Lw_law_481 (by decide) ?_
                                refine lv_iadd cx.x cx.b d_Lw_law_482 ?_
                                refine lv_topi (fun x297 e_x297 => ?_)
                                have e_x297 : x297 = nI ((6 * ct) + 4) := e_x297.trans (nI_add (6 * ct) 4)
                                subst e_x297
                                refine va_sld cx.x cx.b hX hbl hbA (va_So hO hlo) (vp_in_nI (show 6 * ct + 4 < L by omega) (by omega)) d_Lw_law_483 ?_
                                rw [show xs (nI (6 * ct + 4)).toNatClampNeg = w4 from hw4.symm]
                                refine lv_aload_n cx.x cx.b d_Lw_law_484 rfl (lv_at hl 1 rfl) ?_
                                refine lv_iload_n cx.x cx.b d_Lw_law_485 rfl (lv_at hl 0 rfl) ?_
                                refine lv_iconst (v := 5) cx.x cx.b d_Lw_law_486 (by decide) ?_
                                refine lv_iadd cx.x cx.b d_Lw_law_487 ?_
                                refine lv_topi (fun x298 e_x298 => ?_)
                                have e_x298 : x298 = nI ((6 * ct) + 5) := e_x298.trans (nI_add (6 * ct) 5)
                                subst e_x298
                                refine va_sld cx.x cx.b hX hbl hbA (va_So hO hlo) (vp_in_nI (show 6 * ct + 5 < L by omega) (by omega)) d_Lw_law_488 ?_
                                rw [show xs (nI (6 * ct + 5)).toNatClampNeg = w5 from hw5.symm]
                                refine hx_calli (iv_Lw_65_Mo cx (c_Mo_character l hE hM hcr (b := 1) (by decide) rV cv iv.2.2.1 w2 w3 w4 w5) hM.1 rfl hl.1 rfl (Nat.le_of_ble_eq_true rfl) d_Lw_law_489 ⟨Nat.le_of_ble_eq_true rfl, Nat.le_of_ble_eq_true rfl⟩ ⟨by show 30 + 680 * ct + 0 + 0 ≤ 600000; omega, by show 11827 + 7200 * ct + 0 + 0 ≤ 7302250; omega⟩) hlo (fun _ h => h) (fun r301 H300 locs hp299 hlo => ?_)
                                obtain ⟨q2, hH9⟩ := hp299
                                have hH9 := hH9.symm
                                subst hH9
                                have hreq : r293 = r301 := by rw [q1, q2, tySel_1, tyV_C, mbV_C, tyMap1, chV_C]; by_cases cw : w4 = -1; rw [if_pos cw, if_pos cw]; rw [if_neg cw, if_neg cw]
                                refine lv_icmp_eq (tgt := 544) cx.x cx.b d_Lw_law_492 (by decide) (fun _ => ?_) (fun c => absurd hreq c)
                                exact NX _ _ _ _ hlo (LI.same hB hM hdj hR hO) hi6 (by show 30 + 680 * ct + 0 + 0 ≤ 30 + 680 * (ct + 1); omega) (by show 11827 + 7200 * ct + 0 + 0 ≤ 11827 + 7200 * (ct + 1); omega) _ (lv_sub hl [0, 1, 2, 3] rfl)
                              · have hbn : ¬ (w1 = 0 ∨ w1 = 1) := fun z => by rcases z with z | z; exact hb0 z; exact hb1 z
                                refine lv_aload_n cx.x cx.b d_Lw_law_434 rfl (lv_at hl 2 rfl) ?_
                                refine lv_aload_n cx.x cx.b d_Lw_law_435 rfl (lv_at hl 1 rfl) ?_
                                refine lv_iload_n cx.x cx.b d_Lw_law_436 rfl (lv_at hl 0 rfl) ?_
                                refine lv_iconst (v := 1) cx.x cx.b d_Lw_law_437 (by decide) ?_
                                refine lv_iadd cx.x cx.b d_Lw_law_438 ?_
                                refine lv_topi (fun x302 e_x302 => ?_)
                                have e_x302 : x302 = nI ((6 * ct) + 1) := e_x302.trans (nI_add (6 * ct) 1)
                                subst e_x302
                                refine va_sld cx.x cx.b hX hbl hbA (va_So hO hlo) (vp_in_nI (show 6 * ct + 1 < L by omega) (by omega)) d_Lw_law_439 ?_
                                rw [show xs (nI (6 * ct + 1)).toNatClampNeg = w1 from hw1.symm]
                                refine lv_aload_n cx.x cx.b d_Lw_law_440 rfl (lv_at hl 1 rfl) ?_
                                refine lv_iload_n cx.x cx.b d_Lw_law_441 rfl (lv_at hl 0 rfl) ?_
                                refine lv_iconst (v := 2) cx.x cx.b d_Lw_law_442 (by decide) ?_
                                refine lv_iadd cx.x cx.b d_Lw_law_443 ?_
                                refine lv_topi (fun x303 e_x303 => ?_)
                                have e_x303 : x303 = nI ((6 * ct) + 2) := e_x303.trans (nI_add (6 * ct) 2)
                                subst e_x303
                                refine va_sld cx.x cx.b hX hbl hbA (va_So hO hlo) (vp_in_nI (show 6 * ct + 2 < L by omega) (by omega)) d_Lw_law_444 ?_
                                rw [show xs (nI (6 * ct + 2)).toNatClampNeg = w2 from hw2.symm]
                                refine lv_aload_n cx.x cx.b d_Lw_law_445 rfl (lv_at hl 1 rfl) ?_
                                refine lv_iload_n cx.x cx.b d_Lw_law_446 rfl (lv_at hl 0 rfl) ?_
                                refine lv_iconst (v := 3) cx.x cx.b d_Lw_law_447 (by decide) ?_
                                refine lv_iadd cx.x cx.b d_Lw_law_448 ?_
                                refine lv_topi (fun x304 e_x304 => ?_)
                                have e_x304 : x304 = nI ((6 * ct) + 3) := e_x304.trans (nI_add (6 * ct) 3)
                                subst e_x304
                                refine va_sld cx.x cx.b hX hbl hbA (va_So hO hlo) (vp_in_nI (show 6 * ct + 3 < L by omega) (by omega)) d_Lw_law_449 ?_
                                rw [show xs (nI (6 * ct + 3)).toNatClampNeg = w3 from hw3.symm]
                                refine lv_aload_n cx.x cx.b d_Lw_law_450 rfl (lv_at hl 1 rfl) ?_
                                refine lv_iload_n cx.x cx.b d_Lw_law_451 rfl (lv_at hl 0 rfl) ?_
                                refine lv_iconst (v := 4) cx.x cx.b d_Lw_law_452 (by decide) ?_
                                refine lv_iadd cx.x cx.b d_Lw_law_453 ?_
                                refine lv_topi (fun x305 e_x305 => ?_)
                                have e_x305 : x305 = nI ((6 * ct) + 4) := e_x305.trans (nI_add (6 * ct) 4)
                                subst e_x305
                                refine va_sld cx.x cx.b hX hbl hbA (va_So hO hlo) (vp_in_nI (show 6 * ct + 4 < L by omega) (by omega)) d_Lw_law_454 ?_
                                rw [show xs (nI (6 * ct + 4)).toNatClampNeg = w4 from hw4.symm]
                                refine lv_aload_n cx.x cx.b d_Lw_law_455 rfl (lv_at hl 1 rfl) ?_
                                refine lv_iload_n cx.x cx.b d_Lw_law_456 rfl (lv_at hl 0 rfl) ?_
                                refine lv_iconst (v := 5) cx.x cx.b d_Lw_law_457 (by decide) ?_
                                refine lv_iadd cx.x cx.b d_Lw_law_458 ?_
                                refine lv_topi (fun x306 e_x306 => ?_)
                                have e_x306 : x306 = nI ((6 * ct) + 5) := e_x306.trans (nI_add (6 * ct) 5)
                                subst e_x306
                                refine va_sld cx.x cx.b hX hbl hbA (va_So hO hlo) (vp_in_nI (show 6 * ct + 5 < L by omega) (by omega)) d_Lw_law_459 ?_
                                rw [show xs (nI (6 * ct + 5)).toNatClampNeg = w5 from hw5.symm]
                                refine hx_calli (iv_Lw_61_B cx (c_B_character l hE hB w1 w2 w3 w4 w5) hB.1 rfl hl.1 rfl (Nat.le_of_ble_eq_true rfl) d_Lw_law_460 ⟨Nat.le_of_ble_eq_true rfl, Nat.le_of_ble_eq_true rfl⟩ ⟨by show 30 + 680 * ct + 0 ≤ 600000; omega, by show 11827 + 7200 * ct + 0 ≤ 7302250; omega⟩) hlo (fun _ h => h) (fun r309 H308 locs hp307 hlo => ?_)
                                obtain ⟨q1, hH9⟩ := hp307
                                have hH9 := hH9.symm
                                subst hH9
                                refine lv_aload_n cx.x cx.b d_Lw_law_463 rfl (lv_at hl 3 rfl) ?_
                                refine lv_aload_n cx.x cx.b d_Lw_law_464 rfl (lv_at hl 1 rfl) ?_
                                refine lv_iload_n cx.x cx.b d_Lw_law_465 rfl (lv_at hl 0 rfl) ?_
                                refine lv_iconst (v := 1) cx.x cx.b d_Lw_law_466 (by decide) ?_
                                refine lv_iadd cx.x cx.b d_Lw_law_467 ?_
                                refine lv_topi (fun x310 e_x310 => ?_)
                                have e_x310 : x310 = nI ((6 * ct) + 1) := e_x310.trans (nI_add (6 * ct) 1)
                                subst e_x310
                                refine va_sld cx.x cx.b hX hbl hbA (va_So hO hlo) (vp_in_nI (show 6 * ct + 1 < L by omega) (by omega)) d_Lw_law_468 ?_
                                rw [show xs (nI (6 * ct + 1)).toNatClampNeg = w1 from hw1.symm]
                                refine lv_aload_n cx.x cx.b d_Lw_law_469 rfl (lv_at hl 1 rfl) ?_
                                refine lv_iload_n cx.x cx.b d_Lw_law_470 rfl (lv_at hl 0 rfl) ?_
                                refine lv_iconst (v := 2) cx.x cx.b d_Lw_law_471 (by decide) ?_
                                refine lv_iadd cx.x cx.b d_Lw_law_472 ?_
                                refine lv_topi (fun x311 e_x311 => ?_)
                                have e_x311 : x311 = nI ((6 * ct) + 2) := e_x311.trans (nI_add (6 * ct) 2)
                                subst e_x311
                                refine va_sld cx.x cx.b hX hbl hbA (va_So hO hlo) (vp_in_nI (show 6 * ct + 2 < L by omega) (by omega)) d_Lw_law_473 ?_
                                rw [show xs (nI (6 * ct + 2)).toNatClampNeg = w2 from hw2.symm]
                                refine lv_aload_n cx.x cx.b d_Lw_law_474 rfl (lv_at hl 1 rfl) ?_
                                refine lv_iload_n cx.x cx.b d_Lw_law_475 rfl (lv_at hl 0 rfl) ?_
                                refine lv_iconst (v := 3) cx.x cx.b d_Lw_law_476 (by decide) ?_
                                refine lv_iadd cx.x cx.b d_Lw_law_477 ?_
                                refine lv_topi (fun x312 e_x312 => ?_)
                                have e_x312 : x312 = nI ((6 * ct) + 3) := e_x312.trans (nI_add (6 * ct) 3)
                                subst e_x312
                                refine va_sld cx.x cx.b hX hbl hbA (va_So hO hlo) (vp_in_nI (show 6 * ct + 3 < L by omega) (by omega)) d_Lw_law_478 ?_
                                rw [show xs (nI (6 * ct + 3)).toNatClampNeg = w3 from hw3.symm]
                                refine lv_aload_n cx.x cx.b d_Lw_law_479 rfl (lv_at hl 1 rfl) ?_
                                refine lv_iload_n cx.x cx.b d_Lw_law_480 rfl (lv_at hl 0 rfl) ?_
                                refine lv_iconst (v := 4) cx.x cx.b d_Lw_law_481 (by decide) ?_
                                refine lv_iadd cx.x cx.b d_Lw_law_482 ?_
                                refine lv_topi (fun x313 e_x313 => ?_)
                                have e_x313 : x313 = nI ((6 * ct) + 4) := e_x313.trans (nI_add (6 * ct) 4)
                                subst e_x313
                                refine va_sld cx.x cx.b hX hbl hbA (va_So hO hlo) (vp_in_nI (show 6 * ct + 4 < L by omega) (by omega)) d_Lw_law_483 ?_
                                rw [show xs (nI (6 * ct + 4)).toNatClampNeg = w4 from hw4.symm]
                                refine lv_aload_n cx.x cx.b d_Lw_law_484 rfl (lv_at hl 1 rfl) ?_
                                refine lv_iload_n cx.x cx.b d_Lw_law_485 rfl (lv_at hl 0 rfl) ?_
                                refine lv_iconst (v := 5) cx.x cx.b d_Lw_law_486 (by decide) ?_
                                refine lv_iadd cx.x cx.b d_Lw_law_487 ?_
                                refine lv_topi (fun x314 e_x314 => ?_)
                                have e_x314 : x314 = nI ((6 * ct) + 5) := e_x314.trans (nI_add (6 * ct) 5)
                                subst e_x314
                                refine va_sld cx.x cx.b hX hbl hbA (va_So hO hlo) (vp_in_nI (show 6 * ct + 5 < L by omega) (by omega)) d_Lw_law_488 ?_
                                rw [show xs (nI (6 * ct + 5)).toNatClampNeg = w5 from hw5.symm]
                                refine hx_calli (iv_Lw_65_Mo cx (c_Mo_characterN l hE hM hbn w2 w3 w4 w5) hM.1 rfl hl.1 rfl (Nat.le_of_ble_eq_true rfl) d_Lw_law_489 ⟨Nat.le_of_ble_eq_true rfl, Nat.le_of_ble_eq_true rfl⟩ ⟨by show 30 + 680 * ct + 0 + 0 ≤ 600000; omega, by show 11827 + 7200 * ct + 0 + 0 ≤ 7302250; omega⟩) hlo (fun _ h => h) (fun r317 H316 locs hp315 hlo => ?_)
                                obtain ⟨q2, hH9⟩ := hp315
                                have hH9 := hH9.symm
                                subst hH9
                                have hreq : r309 = r317 := by rw [q1, q2, tySel_n hbn]; by_cases cw : w4 = -1; rw [if_pos cw]; rfl; rw [if_neg cw]; rfl
                                refine lv_icmp_eq (tgt := 544) cx.x cx.b d_Lw_law_492 (by decide) (fun _ => ?_) (fun c => absurd hreq c)
                                exact NX _ _ _ _ hlo (LI.same hB hM hdj hR hO) hi6 (by show 30 + 680 * ct + 0 + 0 ≤ 30 + 680 * (ct + 1); omega) (by show 11827 + 7200 * ct + 0 + 0 ≤ 11827 + 7200 * (ct + 1); omega) _ (lv_sub hl [0, 1, 2, 3] rfl)
                          · by_cases k_11 : x3 = 11
                            · subst k_11
                              refine lv_tableIn (tgt := 497) (off := 464) cx.x cx.b d_Lw_law_33 (by decide) (by decide) (by decide) (by decide) ?_
                              refine lv_aload_n cx.x cx.b d_Lw_law_497 rfl (lv_at hl 2 rfl) ?_
                              refine hx_calli (iv_Lw_66_B cx (c_B_differ l hE hB) hB.1 rfl hl.1 rfl (Nat.le_of_ble_eq_true rfl) d_Lw_law_498 ⟨Nat.le_of_ble_eq_true rfl, Nat.le_of_ble_eq_true rfl⟩ ⟨by show 30 + 680 * ct + 0 ≤ 600000; omega, by show 11827 + 7200 * ct + 0 ≤ 7302250; omega⟩) hlo (fun _ h => h) (fun r320 H319 locs hp318 hlo => ?_)
                              obtain ⟨q1, hH9⟩ := hp318
                              have hH9 := hH9.symm
                              subst hH9
                              rcases hcr with hc0 | hc1
                              · rw [if_pos hc0] at rU fU rV fV
                                have f0 := hR.fm
                                refine lv_aload_n cx.x cx.b d_Lw_law_501 rfl (lv_at hl 3 rfl) ?_
                                refine hx_calli (iv_Lw_69_Mo cx (c_Mo_differ l hE hM (C := us.map vwT) (D := vs.map vwT) rU cu iu f0.1 rV cv iv f0.2.1 (lns_big (lns_ok (cu.all iu zu).1 (cu.all iu zu).2 (by rw [show g.1 3 0 = _ from fU]; exact fU2))) (lns_big (lns_ok (cv.all iv zv).1 (cv.all iv zv).2 (by rw [show g.1 3 1 = _ from fV]; exact fV2)))) hM.1 rfl hl.1 rfl (Nat.le_of_ble_eq_true rfl) d_Lw_law_502 ⟨Nat.le_of_ble_eq_true rfl, Nat.le_of_ble_eq_true rfl⟩ ⟨by show 30 + 680 * ct + 0 + 0 ≤ 600000; omega, by show 11827 + 7200 * ct + 0 + 0 ≤ 7302250; omega⟩) hlo (fun _ h => h) (fun r323 H322 locs hp321 hlo => ?_)
                                obtain ⟨q2, o9, p9, n9, M9⟩ := hp321
                                have hfd := fm_is0 hR
                                rw [if_pos hc0, if_pos hc0] at hfd
                                have hreq : r320 = r323 := by rw [q1, q2, hfd]
                                refine lv_icmp_eq (tgt := 544) cx.x cx.b d_Lw_law_505 (by decide) (fun _ => ?_) (fun c => absurd hreq c)
                                exact NX _ _ _ _ hlo (LI.model hB M9 hdj (hR.mv rfl rfl rfl rfl rfl rfl rfl rfl rfl rfl rfl rfl ⟨hxc, hxl, hx, hgs⟩) hO) hi6 (by show 30 + 680 * ct + 0 + 0 ≤ 30 + 680 * (ct + 1); omega) (by show 11827 + 7200 * ct + 0 + 0 ≤ 11827 + 7200 * (ct + 1); omega) _ (lv_sub hl [0, 1, 2, 3] rfl)
                              · rw [if_neg (show ¬ g.2 2 = 0 by omega)] at rU fU rV fV
                                have f0 := hR.fm
                                refine lv_aload_n cx.x cx.b d_Lw_law_501 rfl (lv_at hl 3 rfl) ?_
                                refine hx_calli (iv_Lw_69_Mo cx (c_Mo_differ l hE hM (C := vs.map vwT) (D := us.map vwT) rV cv iv f0.1 rU cu iu f0.2.1 (lns_big (lns_ok (cv.all iv zv).1 (cv.all iv zv).2 (by rw [show g.1 3 0 = _ from fV]; exact fV2))) (lns_big (lns_ok (cu.all iu zu).1 (cu.all iu zu).2 (by rw [show g.1 3 1 = _ from fU]; exact fU2)))) hM.1 rfl hl.1 rfl (Nat.le_of_ble_eq_true rfl) d_Lw_law_502 ⟨Nat.le_of_ble_eq_true rfl, Nat.le_of_ble_eq_true rfl⟩ ⟨by show 30 + 680 * ct + 0 + 0 ≤ 600000; omega, by show 11827 + 7200 * ct + 0 + 0 ≤ 7302250; omega⟩) hlo (fun _ h => h) (fun r326 H325 locs hp324 hlo => ?_)
                                obtain ⟨q2, o9, p9, n9, M9⟩ := hp324
                                have hfd := fm_is0 hR
                                rw [if_neg (show ¬ g.2 2 = 0 by omega), if_neg (show ¬ g.2 2 = 0 by omega)] at hfd
                                have hreq : r320 = r326 := by rw [q1, q2, hfd]
                                refine lv_icmp_eq (tgt := 544) cx.x cx.b d_Lw_law_505 (by decide) (fun _ => ?_) (fun c => absurd hreq c)
                                exact NX _ _ _ _ hlo (LI.model hB M9 hdj (hR.mv rfl rfl rfl rfl rfl rfl rfl rfl rfl rfl rfl rfl ⟨hxc, hxl, hx, hgs⟩) hO) hi6 (by show 30 + 680 * ct + 0 + 0 ≤ 30 + 680 * (ct + 1); omega) (by show 11827 + 7200 * ct + 0 + 0 ≤ 11827 + 7200 * (ct + 1); omega) _ (lv_sub hl [0, 1, 2, 3] rfl)
                            · by_cases k_12 : x3 = 12
                              · subst k_12
                                refine lv_tableIn (tgt := 510) (off := 477) cx.x cx.b d_Lw_law_33 (by decide) (by decide) (by decide) (by decide) ?_
                                by_cases hb0 : w1 = 0
                                · subst hb0
                                  have f0 := hR.fm
                                  refine lv_aload_n cx.x cx.b d_Lw_law_510 rfl (lv_at hl 2 rfl) ?_
                                  refine lv_aload_n cx.x cx.b d_Lw_law_511 rfl (lv_at hl 1 rfl) ?_
                                  refine lv_iload_n cx.x cx.b d_Lw_law_512 rfl (lv_at hl 0 rfl) ?_
                                  refine lv_iconst (v := 1) cx.x cx.b d_Lw_law_513 (by decide) ?_
                                  refine lv_iadd cx.x cx.b d_Lw_law_514 ?_
                                  refine lv_topi (fun x327 e_x327 => ?_)
                                  have e_x327 : x327 = nI ((6 * ct) + 1) := e_x327.trans (nI_add (6 * ct) 1)
                                  subst e_x327
                                  refine va_sld cx.x cx.b hX hbl hbA (va_So hO hlo) (vp_in_nI (show 6 * ct + 1 < L by omega) (by omega)) d_Lw_law_515 ?_
                                  rw [show xs (nI (6 * ct + 1)).toNatClampNeg = 0 from hw1.symm]
                                  refine hx_calli (iv_Lw_70_B cx (c_B_lost l hE hB 0) hB.1 rfl hl.1 rfl (Nat.le_of_ble_eq_true rfl) d_Lw_law_516 ⟨Nat.le_of_ble_eq_true rfl, Nat.le_of_ble_eq_true rfl⟩ ⟨by show 30 + 680 * ct + 0 ≤ 600000; omega, by show 11827 + 7200 * ct + 0 ≤ 7302250; omega⟩) hlo (fun _ h => h) (fun r330 H329 locs hp328 hlo => ?_)
                                  obtain ⟨q1, hH9⟩ := hp328
                                  have hH9 := hH9.symm
                                  subst hH9
                                  refine lv_aload_n cx.x cx.b d_Lw_law_519 rfl (lv_at hl 3 rfl) ?_
                                  refine lv_aload_n cx.x cx.b d_Lw_law_520 rfl (lv_at hl 1 rfl) ?_
                                  refine lv_iload_n cx.x cx.b d_Lw_law_521 rfl (lv_at hl 0 rfl) ?_
                                  refine lv_iconst (v := 1) cx.x cx.b d_Lw_law_522 (by decide) ?_
                                  refine lv_iadd cx.x cx.b d_Lw_law_523 ?_
                                  refine lv_topi (fun x331 e_x331 => ?_)
                                  have e_x331 : x331 = nI ((6 * ct) + 1) := e_x331.trans (nI_add (6 * ct) 1)
                                  subst e_x331
                                  refine va_sld cx.x cx.b hX hbl hbA (va_So hO hlo) (vp_in_nI (show 6 * ct + 1 < L by omega) (by omega)) d_Lw_law_524 ?_
                                  rw [show xs (nI (6 * ct + 1)).toNatClampNeg = 0 from hw1.symm]
                                  refine hx_calli (iv_Lw_73_Mo cx (c_Mo_lost l hE hM f0.1 f0.2.1 hcr (b := 0) (by decide) rU (by rw [sd_o0]; exact rV) iu.2.2.1 iv.2.2.1 iu.1.2) hM.1 rfl hl.1 rfl (Nat.le_of_ble_eq_true rfl) d_Lw_law_525 ⟨Nat.le_of_ble_eq_true rfl, Nat.le_of_ble_eq_true rfl⟩ ⟨by show 30 + 680 * ct + 0 + 0 ≤ 600000; omega, by show 11827 + 7200 * ct + 0 + 0 ≤ 7302250; omega⟩) hlo (fun _ h => h) (fun r334 H333 locs hp332 hlo => ?_)
                                  obtain ⟨q2, hH9⟩ := hp332
                                  have hH9 := hH9.symm
                                  subst hH9
                                  have hreq : r330 = r334 := by rw [q1, q2, if_pos rfl, lost_eq ru rv iv.2.1 iv.2.2.1, f0.2.2]
                                  refine lv_icmp_eq (tgt := 544) cx.x cx.b d_Lw_law_528 (by decide) (fun _ => ?_) (fun c => absurd hreq c)
                                  exact NX _ _ _ _ hlo (LI.same hB hM hdj hR hO) hi6 (by show 30 + 680 * ct + 0 + 0 ≤ 30 + 680 * (ct + 1); omega) (by show 11827 + 7200 * ct + 0 + 0 ≤ 11827 + 7200 * (ct + 1); omega) _ (lv_sub hl [0, 1, 2, 3] rfl)
                                · by_cases hb1 : w1 = 1
                                  · subst hb1
                                    have f0 := hR.fm
                                    refine lv_aload_n cx.x cx.b d_Lw_law_510 rfl (lv_at hl 2 rfl) ?_
                                    refine lv_aload_n cx.x cx.b d_Lw_law_511 rfl (lv_at hl 1 rfl) ?_
                                    refine lv_iload_n cx.x cx.b d_Lw_law_512 rfl (lv_at hl 0 rfl) ?_
                                    refine lv_iconst (v := 1) cx.x cx.b d_Lw_law_513 (by decide) ?_
                                    refine lv_iadd cx.x cx.b d_Lw_law_514 ?_
                                    refine lv_topi (fun x335 e_x335 => ?_)
                                    have e_x335 : x335 = nI ((6 * ct) + 1) := e_x335.trans (nI_add (6 * ct) 1)
                                    subst e_x335
                                    refine va_sld cx.x cx.b hX hbl hbA (va_So hO hlo) (vp_in_nI (show 6 * ct + 1 < L by omega) (by omega)) d_Lw_law_515 ?_
                                    rw [show xs (nI (6 * ct + 1)).toNatClampNeg = 1 from hw1.symm]
                                    refine hx_calli (iv_Lw_70_B cx (c_B_lost l hE hB 1) hB.1 rfl hl.1 rfl (Nat.le_of_ble_eq_true rfl) d_Lw_law_516 ⟨Nat.le_of_ble_eq_true rfl, Nat.le_of_ble_eq_true rfl⟩ ⟨by show 30 + 680 * ct + 0 ≤ 600000; omega, by show 11827 + 7200 * ct + 0 ≤ 7302250; omega⟩) hlo (fun _ h => h) (fun r338 H337 locs hp336 hlo => ?_)
                                    obtain ⟨q1, hH9⟩ := hp336
                                    have hH9 := hH9.symm
                                    subst hH9
                                    refine lv_aload_n cx.x cx.b d_Lw_law_519 rfl (lv_at hl 3 rfl) ?_
                                    refine lv_aload_n cx.x cx.b d_Lw_law_520 rfl (lv_at hl 1 rfl) ?_
                                    refine lv_iload_n cx.x cx.b d_Lw_law_521 rfl (lv_at hl 0 rfl) ?_
                                    refine lv_iconst (v := 1) cx.x cx.b d_Lw_law_522 (by decide) ?_
                                    refine lv_iadd cx.x cx.b d_Lw_law_523 ?_
                                    refine lv_topi (fun x339 e_x339 => ?_)
                                    have e_x339 : x339 = nI ((6 * ct) + 1) := e_x339.trans (nI_add (6 * ct) 1)
                                    subst e_x339
                                    refine va_sld cx.x cx.b hX hbl hbA (va_So hO hlo) (vp_in_nI (show 6 * ct + 1 < L by omega) (by omega)) d_Lw_law_524 ?_
                                    rw [show xs (nI (6 * ct + 1)).toNatClampNeg = 1 from hw1.symm]
                                    refine hx_calli (iv_Lw_73_Mo cx (c_Mo_lost l hE hM f0.1 f0.2.1 hcr (b := 1) (by decide) rV (by rw [sd_o1]; exact rU) iv.2.2.1 iu.2.2.1 iv.1.2) hM.1 rfl hl.1 rfl (Nat.le_of_ble_eq_true rfl) d_Lw_law_525 ⟨Nat.le_of_ble_eq_true rfl, Nat.le_of_ble_eq_true rfl⟩ ⟨by show 30 + 680 * ct + 0 + 0 ≤ 600000; omega, by show 11827 + 7200 * ct + 0 + 0 ≤ 7302250; omega⟩) hlo (fun _ h => h) (fun r342 H341 locs hp340 hlo => ?_)
                                    obtain ⟨q2, hH9⟩ := hp340
                                    have hH9 := hH9.symm
                                    subst hH9
                                    have hreq : r338 = r342 := by rw [q1, q2, if_neg (by decide), if_pos rfl, lost_eq rv ru iu.2.1 iu.2.2.1, f0.2.2, show decide (fn = fm) = decide (fm = fn) from by by_cases cf : fm = fn; rw [decide_eq_true cf, decide_eq_true cf.symm]; rw [decide_eq_false cf, decide_eq_false (fun z => cf z.symm)]]
                                    refine lv_icmp_eq (tgt := 544) cx.x cx.b d_Lw_law_528 (by decide) (fun _ => ?_) (fun c => absurd hreq c)
                                    exact NX _ _ _ _ hlo (LI.same hB hM hdj hR hO) hi6 (by show 30 + 680 * ct + 0 + 0 ≤ 30 + 680 * (ct + 1); omega) (by show 11827 + 7200 * ct + 0 + 0 ≤ 11827 + 7200 * (ct + 1); omega) _ (lv_sub hl [0, 1, 2, 3] rfl)
                                  · have hbn : ¬ (w1 = 0 ∨ w1 = 1) := fun z => by rcases z with z | z; exact hb0 z; exact hb1 z
                                    refine lv_aload_n cx.x cx.b d_Lw_law_510 rfl (lv_at hl 2 rfl) ?_
                                    refine lv_aload_n cx.x cx.b d_Lw_law_511 rfl (lv_at hl 1 rfl) ?_
                                    refine lv_iload_n cx.x cx.b d_Lw_law_512 rfl (lv_at hl 0 rfl) ?_
                                    refine lv_iconst (v := 1) cx.x cx.b d_Lw_law_513 (by decide) ?_
                                    refine lv_iadd cx.x cx.b d_Lw_law_514 ?_
                                    refine lv_topi (fun x343 e_x343 => ?_)
                                    have e_x343 : x343 = nI ((6 * ct) + 1) := e_x343.trans (nI_add (6 * ct) 1)
                                    subst e_x343
                                    refine va_sld cx.x cx.b hX hbl hbA (va_So hO hlo) (vp_in_nI (show 6 * ct + 1 < L by omega) (by omega)) d_Lw_law_515 ?_
                                    rw [show xs (nI (6 * ct + 1)).toNatClampNeg = w1 from hw1.symm]
                                    refine hx_calli (iv_Lw_70_B cx (c_B_lost l hE hB w1) hB.1 rfl hl.1 rfl (Nat.le_of_ble_eq_true rfl) d_Lw_law_516 ⟨Nat.le_of_ble_eq_true rfl, Nat.le_of_ble_eq_true rfl⟩ ⟨by show 30 + 680 * ct + 0 ≤ 600000; omega, by show 11827 + 7200 * ct + 0 ≤ 7302250; omega⟩) hlo (fun _ h => h) (fun r346 H345 locs hp344 hlo => ?_)
                                    obtain ⟨q1, hH9⟩ := hp344
                                    have hH9 := hH9.symm
                                    subst hH9
                                    refine lv_aload_n cx.x cx.b d_Lw_law_519 rfl (lv_at hl 3 rfl) ?_
                                    refine lv_aload_n cx.x cx.b d_Lw_law_520 rfl (lv_at hl 1 rfl) ?_
                                    refine lv_iload_n cx.x cx.b d_Lw_law_521 rfl (lv_at hl 0 rfl) ?_
                                    refine lv_iconst (v := 1) cx.x cx.b d_Lw_law_522 (by decide) ?_
                                    refine lv_iadd cx.x cx.b d_Lw_law_523 ?_
                                    refine lv_topi (fun x347 e_x347 => ?_)
                                    have e_x347 : x347 = nI ((6 * ct) + 1) := e_x347.trans (nI_add (6 * ct) 1)
                                    subst e_x347
                                    refine va_sld cx.x cx.b hX hbl hbA (va_So hO hlo) (vp_in_nI (show 6 * ct + 1 < L by omega) (by omega)) d_Lw_law_524 ?_
                                    rw [show xs (nI (6 * ct + 1)).toNatClampNeg = w1 from hw1.symm]
                                    refine hx_calli (iv_Lw_73_Mo cx (c_Mo_lostN l hE hM hbn) hM.1 rfl hl.1 rfl (Nat.le_of_ble_eq_true rfl) d_Lw_law_525 ⟨Nat.le_of_ble_eq_true rfl, Nat.le_of_ble_eq_true rfl⟩ ⟨by show 30 + 680 * ct + 0 + 0 ≤ 600000; omega, by show 11827 + 7200 * ct + 0 + 0 ≤ 7302250; omega⟩) hlo (fun _ h => h) (fun r350 H349 locs hp348 hlo => ?_)
                                    obtain ⟨q2, hH9⟩ := hp348
                                    have hH9 := hH9.symm
                                    subst hH9
                                    have hreq : r346 = r350 := by rw [q1, q2, if_neg hb0, if_neg hb1]
                                    refine lv_icmp_eq (tgt := 544) cx.x cx.b d_Lw_law_528 (by decide) (fun _ => ?_) (fun c => absurd hreq c)
                                    exact NX _ _ _ _ hlo (LI.same hB hM hdj hR hO) hi6 (by show 30 + 680 * ct + 0 + 0 ≤ 30 + 680 * (ct + 1); omega) (by show 11827 + 7200 * ct + 0 + 0 ≤ 11827 + 7200 * (ct + 1); omega) _ (lv_sub hl [0, 1, 2, 3] rfl)
                              · by_cases k_13 : x3 = 13
                                · subst k_13
                                  refine lv_tableIn (tgt := 533) (off := 500) cx.x cx.b d_Lw_law_33 (by decide) (by decide) (by decide) (by decide) ?_
                                  refine lv_aload_n cx.x cx.b d_Lw_law_533 rfl (lv_at hl 2 rfl) ?_
                                  refine hx_callv (iv_Lw_74_B cx (c_B_swap l hE hB) hB.1 rfl hl.1 rfl (Nat.le_of_ble_eq_true rfl) d_Lw_law_534 ⟨Nat.le_of_ble_eq_true rfl, Nat.le_of_ble_eq_true rfl⟩ ⟨by show 30 + 680 * ct + 0 ≤ 600000; omega, by show 11827 + 7200 * ct + 0 ≤ 7302250; omega⟩) hlo (fun _ h => h) (fun H352 locs hp351 hlo => ?_)
                                  obtain ⟨hB1, k1⟩ := hp351
                                  have hM1 := hM.cls k1 hdj
                                  have hO1 := hO.ch k1 hB.lo
                                  refine lv_aload_n cx.x cx.b d_Lw_law_537 rfl (lv_at hl 3 rfl) ?_
                                  refine hx_callv (iv_Lw_77_Mo cx (c_Mo_swap l hE hM1 hcr) hM1.1 rfl hl.1 rfl (Nat.le_of_ble_eq_true rfl) d_Lw_law_538 ⟨Nat.le_of_ble_eq_true rfl, Nat.le_of_ble_eq_true rfl⟩ ⟨by show 30 + 680 * ct + 0 + 0 ≤ 600000; omega, by show 11827 + 7200 * ct + 0 + 0 ≤ 7302250; omega⟩) hlo (fun _ h => h) (fun H354 locs hp353 hlo => ?_)
                                  have M9 := hp353
                                  have hdj1 : ∀ q ∈ (grB E a tr tarr fr farr dg n1 n2 n3 bm bl sb sa vs sq us sp).flatten, ¬ moS ma ad q := by
                                    intro q hq z
                                    rcases grB_in.mp hq with z9 | z9 | z9
                                    · exact hdj q (grB_in.mpr (Or.inl z9)) z
                                    · exact hdj q (grB_in.mpr (Or.inr (Or.inr z9))) z
                                    · exact hdj q (grB_in.mpr (Or.inr (Or.inl z9))) z
                                  refine lv_goto (tgt := 544) cx.x cx.b d_Lw_law_541 (by decide) ?_
                                  exact NX _ _ _ _ hlo (LI.model hB1 M9 hdj1 hR.swap hO1) hi6 (by show 30 + 680 * ct + 0 + 0 ≤ 30 + 680 * (ct + 1); omega) (by show 11827 + 7200 * ct + 0 + 0 ≤ 11827 + 7200 * (ct + 1); omega) _ (lv_sub hl [0, 1, 2, 3] rfl)
                                · have nk_0 := lv_neT k_0 (show (0 : Int32).toInt = 0 from rfl)
                                  have nk_1 := lv_neT k_1 (show (1 : Int32).toInt = 1 from rfl)
                                  have nk_2 := lv_neT k_2 (show (2 : Int32).toInt = 2 from rfl)
                                  have nk_3 := lv_neT k_3 (show (3 : Int32).toInt = 3 from rfl)
                                  have nk_4 := lv_neT k_4 (show (4 : Int32).toInt = 4 from rfl)
                                  have nk_5 := lv_neT k_5 (show (5 : Int32).toInt = 5 from rfl)
                                  have nk_6 := lv_neT k_6 (show (6 : Int32).toInt = 6 from rfl)
                                  have nk_7 := lv_neT k_7 (show (7 : Int32).toInt = 7 from rfl)
                                  have nk_8 := lv_neT k_8 (show (8 : Int32).toInt = 8 from rfl)
                                  have nk_9 := lv_neT k_9 (show (9 : Int32).toInt = 9 from rfl)
                                  have nk_10 := lv_neT k_10 (show (10 : Int32).toInt = 10 from rfl)
                                  have nk_11 := lv_neT k_11 (show (11 : Int32).toInt = 11 from rfl)
                                  have nk_12 := lv_neT k_12 (show (12 : Int32).toInt = 12 from rfl)
                                  have nk_13 := lv_neT k_13 (show (13 : Int32).toInt = 13 from rfl)
                                  refine lv_tableOut (tgt := 544) cx.x cx.b d_Lw_law_33 (by omega) (by decide) ?_
                                  exact NX _ _ _ _ hlo hLI0 hi6 (by show 30 + 680 * ct ≤ 30 + 680 * (ct + 1); omega) (by show 11827 + 7200 * ct ≤ 11827 + 7200 * (ct + 1); omega) _ (lv_sub hl [0, 1, 2, 3] rfl)
