theorem Mw.cg {E : hE} {H0 H : Heap} {a : Nat} {ad : Nat → Nat} {g g2 : MS} (h : Mw E H0 H a ad g) (e0 : g2.1 0 = g.1 0) (e1 : g2.1 1 = g.1 1) (e2 : g2.1 2 = g.1 2) (e3 : g2.1 3 = g.1 3) (e4 : g2.1 4 = g.1 4) (e5 : g2.1 5 = g.1 5) (e6 : g2.1 6 = g.1 6) (e7 : g2.1 7 = g.1 7) (e8 : g2.1 8 = g.1 8) (e9 : g2.1 9 = g.1 9) (e10 : g2.1 10 = g.1 10) (e11 : g2.1 11 = g.1 11) (e12 : g2.1 12 = g.1 12) (e13 : g2.1 13 = g.1 13) (f0 : g2.2 0 = g.2 0) (f1 : g2.2 1 = g.2 1) (f2 : g2.2 2 = g.2 2) (f3 : g2.2 3 = g.2 3) (f4 : g2.2 4 = g.2 4) (f5 : g2.2 5 = g.2 5) (f6 : g2.2 6 = g.2 6) (f7 : g2.2 7 = g.2 7) (f8 : g2.2 8 = g.2 8) (f9 : g2.2 9 = g.2 9) (f10 : g2.2 10 = g.2 10) (f11 : g2.2 11 = g.2 11) : Mw E H0 H a ad g2 := by
  obtain ⟨⟨h1, h2, h3, h4, h5⟩, h6, h7⟩ := h
  refine ⟨⟨?_, fun k hk => ?_, h3, h4, h5⟩, h6, h7⟩
  · unfold moF at h1 ⊢
    rw [f0, f1, f2, f3, f4, f5, f6, f7, f8, f9, f10, f11]; exact h1
  · have e9 : g2.1 k = g.1 k := by
      rcases (show k = 0 ∨ k = 1 ∨ k = 2 ∨ k = 3 ∨ k = 4 ∨ k = 5 ∨ k = 6 ∨ k = 7 ∨ k = 8 ∨ k = 9 ∨ k = 10 ∨ k = 11 ∨ k = 12 ∨ k = 13 by omega) with e | e | e | e | e | e | e | e | e | e | e | e | e | e
      · rw [e]; exact e0
      · rw [e]; exact e1
      · rw [e]; exact e2
      · rw [e]; exact e3
      · rw [e]; exact e4
      · rw [e]; exact e5
      · rw [e]; exact e6
      · rw [e]; exact e7
      · rw [e]; exact e8
      · rw [e]; exact e9
      · rw [e]; exact e10
      · rw [e]; exact e11
      · rw [e]; exact e12
      · rw [e]; exact e13
    rw [e9]; exact h2 k hk
/-- a text in a row of the model -/
def RT (fs ft : Nat → Nat) (r : Nat) (xs : List Nat) : Prop := fs r = xs.length ∧ xs.length ≤ 20 ∧ (∀ i, i < xs.length → ft (20 * r + i) = xs.getD i 0) ∧ ∀ c ∈ xs, c < 128
def Row (f : Nat → Nat → Nat) (r : Nat) (x : DV) : Prop := RT (f 6) (f 4) r x.1 ∧ RT (f 7) (f 5) r x.2.1 ∧ f 8 r = x.2.2.1 ∧ f 9 r = x.2.2.2 ∧ x.2.2.1 < 10 ∧ x.2.2.2 < 64
def SameR (f f2 : Nat → Nat → Nat) (r : Nat) : Prop := f2 6 r = f 6 r ∧ f2 7 r = f 7 r ∧ f2 8 r = f 8 r ∧ f2 9 r = f 9 r ∧ ∀ i, i < 20 → f2 4 (20 * r + i) = f 4 (20 * r + i) ∧ f2 5 (20 * r + i) = f 5 (20 * r + i)
theorem SameR.rf (f : Nat → Nat → Nat) (r : Nat) : SameR f f r := ⟨rfl, rfl, rfl, rfl, fun _ _ => ⟨rfl, rfl⟩⟩
theorem SameR.tr {f f2 f3 : Nat → Nat → Nat} {r : Nat} (h : SameR f f2 r) (k : SameR f2 f3 r) : SameR f f3 r := ⟨k.1.trans h.1, k.2.1.trans h.2.1, k.2.2.1.trans h.2.2.1, k.2.2.2.1.trans h.2.2.2.1, fun i hi => ⟨(k.2.2.2.2 i hi).1.trans (h.2.2.2.2 i hi).1, (k.2.2.2.2 i hi).2.trans (h.2.2.2.2 i hi).2⟩⟩
theorem Row.same {f f2 : Nat → Nat → Nat} {r : Nat} {x : DV} (h : Row f r x) (k : SameR f f2 r) : Row f2 r x := by
  obtain ⟨⟨a1, a2, a3, a4⟩, ⟨b1, b2, b3, b4⟩, h3, h4, h5⟩ := h
  obtain ⟨k1, k2, k3, k4, k5⟩ := k
  exact ⟨⟨k1.trans a1, a2, fun i hi => (k5 i (by omega)).1.trans (a3 i hi), a4⟩, ⟨k2.trans b1, b2, fun i hi => (k5 i (by omega)).2.trans (b3 i hi), b4⟩, k3.trans h3, k4.trans h4, h5⟩
/-- a baseline in the model: its types in the order of reading -/
def Rows (f : Nat → Nat → Nat) (b : Nat) (U : List TU) : Prop := f 2 b = U.length ∧ U.length ≤ 12 ∧ ∀ t, t < U.length → Row f (108 * b + t) (U.getD t default).1 ∧ f 10 (12 * b + t) = (U.getD t default).2.length ∧ (U.getD t default).2.length ≤ 8 ∧ ∀ m, m < (U.getD t default).2.length → Row f (108 * b + 12 + 8 * t + m) ((U.getD t default).2.getD m default)
theorem Rows.fr {f f2 : Nat → Nat → Nat} {b : Nat} {U : List TU} (h : Rows f b U) (h2 : f2 2 b = f 2 b) (h3 : ∀ t, t < U.length → f2 10 (12 * b + t) = f 10 (12 * b + t)) (h4 : ∀ r, 108 * b ≤ r → r < 108 * b + 108 → SameR f f2 r) : Rows f2 b U := by
  obtain ⟨a1, a2, a3⟩ := h
  refine ⟨h2.trans a1, a2, fun t ht => ?_⟩
  obtain ⟨b1, b2, b3, b4⟩ := a3 t ht
  exact ⟨b1.same (h4 _ (by omega) (by omega)), (h3 t ht).trans b2, b3, fun m hm => (b4 m hm).same (h4 _ (by omega) (by omega))⟩
theorem cmpI_z {r : Int32} {z : Int} (h : r.toInt = z) : r = 0 ↔ z = 0 := by rw [← h]; exact i32_ne
theorem nI_subI {a b : Nat} (ha : a < 1000) (hb : b < 1000) : (nI a - nI b).toInt = (a : Int) - b := by
  rw [Int32.toInt_sub, nI_toInt (by omega), nI_toInt (by omega)]
  exact Int.bmod_eq_of_le (by omega) (by omega)
set_option maxHeartbeats 4000000 in
set_option maxRecDepth 100000 in
theorem c_Mo_compareNames (l : Launch) {E : hE} (hE : EnvOk E) {H : Heap} {a : Nat} {ad : Nat → Nat} {g : MS} (M : Mo E H a ad g) {r1 s1 : Nat} (hr1 : r1 < 217) (hs1 : s1 < 217) {xs ys : List Nat} (hr : RT (g.1 6) (g.1 4) r1 xs) (hs : RT (g.1 6) (g.1 4) s1 ys) : Ct l E y_Mo_compareNames b_Mo_compareNames 5 (some .int) (rmA 0 0 0) [.ref a, .int (nI r1), .int (nI s1)] H (hQi (fun r H1 => r.toInt = cmpL xs ys ∧ H1 = H)) := by
  refine hx_enter hE (by decide) (Nat.le_of_ble_eq_true rfl) ?_
  intro p e s m args below meth c ls cx hnm hl
  have hl : lv_has ls 5 [(0, .ref a), (1, .int (nI r1)), (2, .int (nI s1))] := hl
  have hlo : hLo (eB E) [] := hLo.nil
  generalize hQ : MQ below _ args s _ _ _ = Q
  have M0 : Mw E H H a ad g := ⟨M, hCh.rf, rfl⟩
  have hlx := hr.2.1
  have hly := hs.2.1
  generalize hG : cmpL xs ys = G at hQ
  have hG : cmpL (xs.drop 0) (ys.drop 0) = G := hG
  refine lv_aload_n cx.x cx.b d_Mo_compareNames_0 rfl (lv_at hl 0 rfl) ?_
  refine gf_Mo_28_Mo cx M0.1.1 rfl d_Mo_compareNames_1 ?_
  refine lv_iload_n cx.x cx.b d_Mo_compareNames_4 rfl (lv_at hl 1 rfl) ?_
  refine hx_iald cx.x cx.b cx.K 0 (M0.1.2.1 6 (by decide)) rfl (show vp_in (nI r1) 217 from vp_in_nI (show r1 < 217 by omega) (by decide)) d_Mo_compareNames_5 ?_
  refine lv_topi (fun x1 e_x1 => ?_)
  have e_x1 : x1 = nI xs.length := e_x1.trans (congrArg nI ((congrArg (g.1 6) (nI_clamp (n := r1) (by omega))).trans (hr.1)))
  subst e_x1
  refine lv_aload_n cx.x cx.b d_Mo_compareNames_6 rfl (lv_at hl 0 rfl) ?_
  refine gf_Mo_28_Mo cx M0.1.1 rfl d_Mo_compareNames_7 ?_
  refine lv_iload_n cx.x cx.b d_Mo_compareNames_10 rfl (lv_at hl 2 rfl) ?_
  refine hx_iald cx.x cx.b cx.K 0 (M0.1.2.1 6 (by decide)) rfl (show vp_in (nI s1) 217 from vp_in_nI (show s1 < 217 by omega) (by decide)) d_Mo_compareNames_11 ?_
  refine lv_topi (fun x2 e_x2 => ?_)
  have e_x2 : x2 = nI ys.length := e_x2.trans (congrArg nI ((congrArg (g.1 6) (nI_clamp (n := s1) (by omega))).trans (hs.1)))
  subst e_x2
  refine lv_icmp_ge (tgt := 24) cx.x cx.b d_Mo_compareNames_12 (by decide) (fun c1 => ?_) (fun c1 => ?_)
  · have c1 : ys.length ≤ xs.length := (nI_leI (a := ys.length) (b := xs.length) (by omega) (by omega)).mp c1
    refine lv_aload_n cx.x cx.b d_Mo_compareNames_24 rfl (lv_at hl 0 rfl) ?_
    refine gf_Mo_28_Mo cx M0.1.1 rfl d_Mo_compareNames_25 ?_
    refine lv_iload_n cx.x cx.b d_Mo_compareNames_28 rfl (lv_at hl 2 rfl) ?_
    refine hx_iald cx.x cx.b cx.K 0 (M0.1.2.1 6 (by decide)) rfl (show vp_in (nI s1) 217 from vp_in_nI (show s1 < 217 by omega) (by decide)) d_Mo_compareNames_29 ?_
    refine lv_topi (fun x3 e_x3 => ?_)
    have e_x3 : x3 = nI ys.length := e_x3.trans (congrArg nI ((congrArg (g.1 6) (nI_clamp (n := s1) (by omega))).trans (hs.1)))
    subst e_x3
    refine lv_istore_n (lv' := [(3, .int (nI ys.length)), (0, .ref a), (1, .int (nI r1)), (2, .int (nI s1))]) cx.x cx.b d_Mo_compareNames_30 rfl hl (by decide) rfl (fun ls hl => ?_)
    refine lv_iconst (v := 0) cx.x cx.b d_Mo_compareNames_31 (by decide) ?_
    refine lv_istore (lv' := [(4, .int 0), (3, .int (nI ys.length)), (0, .ref a), (1, .int (nI r1)), (2, .int (nI s1))]) cx.x cx.b d_Mo_compareNames_32 hl (by decide) rfl (fun ls hl => ?_)
    have LP : ∀ (k : Nat) (locs : List Loc) (j1 : Nat), hLo (eB E) locs → (ys.length - j1 < k) → (j1 ≤ ys.length) → (cmpL (xs.drop j1) (ys.drop j1) = G) → ∀ ls, lv_has ls 5 [(4, .int (nI j1)), (3, .int (nI (ys.length))), (0, .ref a), (1, .int (nI r1)), (2, .int (nI s1))] → W p l e (rmA 0 0 0) s m args below meth c H locs 0 0 Q (F0 m 34 ls []) := by
      intro k
      induction k with
      | zero => intro locs j1 hlo hk hj1 hi; exact absurd hk (by omega)
      | succ k ih =>
        intro locs j1 hlo hk hj1 hi ls hl
        refine lv_iload cx.x cx.b d_Mo_compareNames_34 (lv_at hl 0 rfl) ?_
        refine lv_iload_n cx.x cx.b d_Mo_compareNames_36 rfl (lv_at hl 1 rfl) ?_
        refine lv_icmp_ge (tgt := 99) cx.x cx.b d_Mo_compareNames_37 (by decide) (fun c2 => ?_) (fun c2 => ?_)
        · have c2 : (ys.length) ≤ j1 := (nI_leI (a := (ys.length)) (b := j1) (by omega) (by omega)).mp c2
          rw [cmpL_end (by omega) (by omega) (by omega)] at hi
          refine lv_aload_n cx.x cx.b d_Mo_compareNames_99 rfl (lv_at hl 2 rfl) ?_
          refine gf_Mo_28_Mo cx M0.1.1 rfl d_Mo_compareNames_100 ?_
          refine lv_iload_n cx.x cx.b d_Mo_compareNames_103 rfl (lv_at hl 3 rfl) ?_
          refine hx_iald cx.x cx.b cx.K 0 (M0.1.2.1 6 (by decide)) rfl (show vp_in (nI r1) 217 from vp_in_nI (show r1 < 217 by omega) (by decide)) d_Mo_compareNames_104 ?_
          refine lv_topi (fun x4 e_x4 => ?_)
          have e_x4 : x4 = nI xs.length := e_x4.trans (congrArg nI ((congrArg (g.1 6) (nI_clamp (n := r1) (by omega))).trans (hr.1)))
          subst e_x4
          refine lv_aload_n cx.x cx.b d_Mo_compareNames_105 rfl (lv_at hl 2 rfl) ?_
          refine gf_Mo_28_Mo cx M0.1.1 rfl d_Mo_compareNames_106 ?_
          refine lv_iload_n cx.x cx.b d_Mo_compareNames_109 rfl (lv_at hl 4 rfl) ?_
          refine hx_iald cx.x cx.b cx.K 0 (M0.1.2.1 6 (by decide)) rfl (show vp_in (nI s1) 217 from vp_in_nI (show s1 < 217 by omega) (by decide)) d_Mo_compareNames_110 ?_
          refine lv_topi (fun x5 e_x5 => ?_)
          have e_x5 : x5 = nI ys.length := e_x5.trans (congrArg nI ((congrArg (g.1 6) (nI_clamp (n := s1) (by omega))).trans (hs.1)))
          subst e_x5
          refine lv_isub cx.x cx.b d_Mo_compareNames_111 ?_
          refine lv_topi (fun x6 e_x6 => ?_)
          rw [← hQ]
          exact hx_reti cx.x cx.b cx.r cx.k rfl hlo (fun _ h => h) (Nat.le_of_ble_eq_true rfl) (Nat.le_of_ble_eq_true rfl) d_Mo_compareNames_112 (⟨by rw [e_x6, nI_subI (by omega) (by omega)]; exact hi, rfl⟩)
        · have c2 : j1 < (ys.length) := Nat.not_le.mp (fun zz => c2 ((nI_leI (a := (ys.length)) (b := j1) (by omega) (by omega)).mpr zz))
          rw [cmpL_step (by omega) (by omega)] at hi
          refine lv_aload_n cx.x cx.b d_Mo_compareNames_40 rfl (lv_at hl 2 rfl) ?_
          refine gf_Mo_22_Mo cx M0.1.1 rfl d_Mo_compareNames_41 ?_
          refine lv_bipush (v := 20) cx.x cx.b d_Mo_compareNames_44 (by decide) ?_
          refine lv_iload_n cx.x cx.b d_Mo_compareNames_46 rfl (lv_at hl 3 rfl) ?_
          refine lv_imul cx.x cx.b d_Mo_compareNames_47 ?_
          refine lv_topi (fun x7 e_x7 => ?_)
          have e_x7 : x7 = nI (20 * r1) := e_x7.trans (pk_mul 20 r1)
          subst e_x7
          refine lv_iload cx.x cx.b d_Mo_compareNames_48 (lv_at hl 0 rfl) ?_
          refine lv_iadd cx.x cx.b d_Mo_compareNames_50 ?_
          refine lv_topi (fun x8 e_x8 => ?_)
          have e_x8 : x8 = nI ((20 * r1) + j1) := e_x8.trans (nI_add (20 * r1) j1)
          subst e_x8
          refine hx_iald cx.x cx.b cx.K 0 (M0.1.2.1 4 (by decide)) rfl (show vp_in (nI ((20 * r1) + j1)) 4340 from vp_in_nI (show ((20 * r1) + j1) < 4340 by omega) (by decide)) d_Mo_compareNames_51 ?_
          refine lv_topi (fun x9 e_x9 => ?_)
          have hb_r1 : xs.getD j1 0 < 128 := hr.2.2.2 _ (getD_mem (show j1 < xs.length by omega))
          have e_x9 : x9 = nI (xs.getD j1 0) := e_x9.trans (congrArg nI ((congrArg (g.1 4) (nI_clamp (n := ((20 * r1) + j1)) (by omega))).trans (hr.2.2.1 j1 (by omega))))
          subst e_x9
          refine lv_aload_n cx.x cx.b d_Mo_compareNames_52 rfl (lv_at hl 2 rfl) ?_
          refine gf_Mo_22_Mo cx M0.1.1 rfl d_Mo_compareNames_53 ?_
          refine lv_bipush (v := 20) cx.x cx.b d_Mo_compareNames_56 (by decide) ?_
          refine lv_iload_n cx.x cx.b d_Mo_compareNames_58 rfl (lv_at hl 4 rfl) ?_
          refine lv_imul cx.x cx.b d_Mo_compareNames_59 ?_
          refine lv_topi (fun x10 e_x10 => ?_)
          have e_x10 : x10 = nI (20 * s1) := e_x10.trans (pk_mul 20 s1)
          subst e_x10
          refine lv_iload cx.x cx.b d_Mo_compareNames_60 (lv_at hl 0 rfl) ?_
          refine lv_iadd cx.x cx.b d_Mo_compareNames_62 ?_
          refine lv_topi (fun x11 e_x11 => ?_)
          have e_x11 : x11 = nI ((20 * s1) + j1) := e_x11.trans (nI_add (20 * s1) j1)
          subst e_x11
          refine hx_iald cx.x cx.b cx.K 0 (M0.1.2.1 4 (by decide)) rfl (show vp_in (nI ((20 * s1) + j1)) 4340 from vp_in_nI (show ((20 * s1) + j1) < 4340 by omega) (by decide)) d_Mo_compareNames_63 ?_
          refine lv_topi (fun x12 e_x12 => ?_)
          have hb_s1 : ys.getD j1 0 < 128 := hs.2.2.2 _ (getD_mem (show j1 < ys.length by omega))
          have e_x12 : x12 = nI (ys.getD j1 0) := e_x12.trans (congrArg nI ((congrArg (g.1 4) (nI_clamp (n := ((20 * s1) + j1)) (by omega))).trans (hs.2.2.1 j1 (by omega))))
          subst e_x12
          refine lv_icmp_eq (tgt := 93) cx.x cx.b d_Mo_compareNames_64 (by decide) (fun c3 => ?_) (fun c3 => ?_)
          · have c3 : (xs.getD j1 0) = (ys.getD j1 0) := (nI_eq (a := (xs.getD j1 0)) (b := (ys.getD j1 0)) (by omega) (by omega)).mp c3
            rw [if_pos c3] at hi
            obtain ⟨x13, e_x13⟩ : ∃ y : Int32, y = nI j1 + 1 := ⟨_, rfl⟩
            refine lv_iinc (v := x13) (lv' := [(4, .int x13), (3, .int (nI (ys.length))), (0, .ref a), (1, .int (nI r1)), (2, .int (nI s1))]) cx.x cx.b d_Mo_compareNames_93 hl (k := 0) rfl (by rw [e_x13]; rfl) (by decide) rfl (fun ls hl => ?_)
            have e_x13 : x13 = nI (j1 + 1) := e_x13.trans (nI_add j1 1)
            subst e_x13
            refine lv_goto (tgt := 34) cx.x cx.b d_Mo_compareNames_96 (by decide) ?_
            exact ih _ (j1 + 1) hlo (by omega) (by omega) hi _ (lv_sub hl [0, 1, 2, 3, 4] rfl)
          · have c3 : (xs.getD j1 0) ≠ (ys.getD j1 0) := fun zz => c3 ((nI_eq (a := (xs.getD j1 0)) (b := (ys.getD j1 0)) (by omega) (by omega)).mpr zz)
            rw [if_neg c3] at hi
            refine lv_aload_n cx.x cx.b d_Mo_compareNames_67 rfl (lv_at hl 2 rfl) ?_
            refine gf_Mo_22_Mo cx M0.1.1 rfl d_Mo_compareNames_68 ?_
            refine lv_bipush (v := 20) cx.x cx.b d_Mo_compareNames_71 (by decide) ?_
            refine lv_iload_n cx.x cx.b d_Mo_compareNames_73 rfl (lv_at hl 3 rfl) ?_
            refine lv_imul cx.x cx.b d_Mo_compareNames_74 ?_
            refine lv_topi (fun x14 e_x14 => ?_)
            have e_x14 : x14 = nI (20 * r1) := e_x14.trans (pk_mul 20 r1)
            subst e_x14
            refine lv_iload cx.x cx.b d_Mo_compareNames_75 (lv_at hl 0 rfl) ?_
            refine lv_iadd cx.x cx.b d_Mo_compareNames_77 ?_
            refine lv_topi (fun x15 e_x15 => ?_)
            have e_x15 : x15 = nI ((20 * r1) + j1) := e_x15.trans (nI_add (20 * r1) j1)
            subst e_x15
            refine hx_iald cx.x cx.b cx.K 0 (M0.1.2.1 4 (by decide)) rfl (show vp_in (nI ((20 * r1) + j1)) 4340 from vp_in_nI (show ((20 * r1) + j1) < 4340 by omega) (by decide)) d_Mo_compareNames_78 ?_
            refine lv_topi (fun x16 e_x16 => ?_)
            have hb_r1 : xs.getD j1 0 < 128 := hr.2.2.2 _ (getD_mem (show j1 < xs.length by omega))
            have e_x16 : x16 = nI (xs.getD j1 0) := e_x16.trans (congrArg nI ((congrArg (g.1 4) (nI_clamp (n := ((20 * r1) + j1)) (by omega))).trans (hr.2.2.1 j1 (by omega))))
            subst e_x16
            refine lv_aload_n cx.x cx.b d_Mo_compareNames_79 rfl (lv_at hl 2 rfl) ?_
            refine gf_Mo_22_Mo cx M0.1.1 rfl d_Mo_compareNames_80 ?_
            refine lv_bipush (v := 20) cx.x cx.b d_Mo_compareNames_83 (by decide) ?_
            refine lv_iload_n cx.x cx.b d_Mo_compareNames_85 rfl (lv_at hl 4 rfl) ?_
            refine lv_imul cx.x cx.b d_Mo_compareNames_86 ?_
            refine lv_topi (fun x17 e_x17 => ?_)
            have e_x17 : x17 = nI (20 * s1) := e_x17.trans (pk_mul 20 s1)
            subst e_x17
            refine lv_iload cx.x cx.b d_Mo_compareNames_87 (lv_at hl 0 rfl) ?_
            refine lv_iadd cx.x cx.b d_Mo_compareNames_89 ?_
            refine lv_topi (fun x18 e_x18 => ?_)
            have e_x18 : x18 = nI ((20 * s1) + j1) := e_x18.trans (nI_add (20 * s1) j1)
            subst e_x18
            refine hx_iald cx.x cx.b cx.K 0 (M0.1.2.1 4 (by decide)) rfl (show vp_in (nI ((20 * s1) + j1)) 4340 from vp_in_nI (show ((20 * s1) + j1) < 4340 by omega) (by decide)) d_Mo_compareNames_90 ?_
            refine lv_topi (fun x19 e_x19 => ?_)
            have hb_s1 : ys.getD j1 0 < 128 := hs.2.2.2 _ (getD_mem (show j1 < ys.length by omega))
            have e_x19 : x19 = nI (ys.getD j1 0) := e_x19.trans (congrArg nI ((congrArg (g.1 4) (nI_clamp (n := ((20 * s1) + j1)) (by omega))).trans (hs.2.2.1 j1 (by omega))))
            subst e_x19
            refine lv_isub cx.x cx.b d_Mo_compareNames_91 ?_
            refine lv_topi (fun x20 e_x20 => ?_)
            rw [← hQ]
            exact hx_reti cx.x cx.b cx.r cx.k rfl hlo (fun _ h => h) (Nat.le_of_ble_eq_true rfl) (Nat.le_of_ble_eq_true rfl) d_Mo_compareNames_92 (⟨by rw [e_x20, nI_subI (by omega) (by omega)]; exact hi, rfl⟩)
    exact LP _ _ 0 hlo (Nat.lt_succ_self _) (Nat.zero_le _) hG _ (lv_sub hl [0, 1, 2, 3, 4] rfl)
  · have c1 : xs.length < ys.length := Nat.not_le.mp (fun zz => c1 ((nI_leI (a := ys.length) (b := xs.length) (by omega) (by omega)).mpr zz))
    refine lv_aload_n cx.x cx.b d_Mo_compareNames_15 rfl (lv_at hl 0 rfl) ?_
    refine gf_Mo_28_Mo cx M0.1.1 rfl d_Mo_compareNames_16 ?_
    refine lv_iload_n cx.x cx.b d_Mo_compareNames_19 rfl (lv_at hl 1 rfl) ?_
    refine hx_iald cx.x cx.b cx.K 0 (M0.1.2.1 6 (by decide)) rfl (show vp_in (nI r1) 217 from vp_in_nI (show r1 < 217 by omega) (by decide)) d_Mo_compareNames_20 ?_
    refine lv_topi (fun x21 e_x21 => ?_)
    have e_x21 : x21 = nI xs.length := e_x21.trans (congrArg nI ((congrArg (g.1 6) (nI_clamp (n := r1) (by omega))).trans (hr.1)))
    subst e_x21
    refine lv_goto (tgt := 30) cx.x cx.b d_Mo_compareNames_21 (by decide) ?_
    refine lv_istore_n (lv' := [(3, .int (nI xs.length)), (0, .ref a), (1, .int (nI r1)), (2, .int (nI s1))]) cx.x cx.b d_Mo_compareNames_30 rfl hl (by decide) rfl (fun ls hl => ?_)
    refine lv_iconst (v := 0) cx.x cx.b d_Mo_compareNames_31 (by decide) ?_
    refine lv_istore (lv' := [(4, .int 0), (3, .int (nI xs.length)), (0, .ref a), (1, .int (nI r1)), (2, .int (nI s1))]) cx.x cx.b d_Mo_compareNames_32 hl (by decide) rfl (fun ls hl => ?_)
    have LP : ∀ (k : Nat) (locs : List Loc) (j1 : Nat), hLo (eB E) locs → (xs.length - j1 < k) → (j1 ≤ xs.length) → (cmpL (xs.drop j1) (ys.drop j1) = G) → ∀ ls, lv_has ls 5 [(4, .int (nI j1)), (3, .int (nI (xs.length))), (0, .ref a), (1, .int (nI r1)), (2, .int (nI s1))] → W p l e (rmA 0 0 0) s m args below meth c H locs 0 0 Q (F0 m 34 ls []) := by
      intro k
      induction k with
      | zero => intro locs j1 hlo hk hj1 hi; exact absurd hk (by omega)
      | succ k ih =>
        intro locs j1 hlo hk hj1 hi ls hl
        refine lv_iload cx.x cx.b d_Mo_compareNames_34 (lv_at hl 0 rfl) ?_
        refine lv_iload_n cx.x cx.b d_Mo_compareNames_36 rfl (lv_at hl 1 rfl) ?_
        refine lv_icmp_ge (tgt := 99) cx.x cx.b d_Mo_compareNames_37 (by decide) (fun c2 => ?_) (fun c2 => ?_)
        · have c2 : (xs.length) ≤ j1 := (nI_leI (a := (xs.length)) (b := j1) (by omega) (by omega)).mp c2
          rw [cmpL_end (by omega) (by omega) (by omega)] at hi
          refine lv_aload_n cx.x cx.b d_Mo_compareNames_99 rfl (lv_at hl 2 rfl) ?_
          refine gf_Mo_28_Mo cx M0.1.1 rfl d_Mo_compareNames_100 ?_
          refine lv_iload_n cx.x cx.b d_Mo_compareNames_103 rfl (lv_at hl 3 rfl) ?_
          refine hx_iald cx.x cx.b cx.K 0 (M0.1.2.1 6 (by decide)) rfl (show vp_in (nI r1) 217 from vp_in_nI (show r1 < 217 by omega) (by decide)) d_Mo_compareNames_104 ?_
          refine lv_topi (fun x22 e_x22 => ?_)
          have e_x22 : x22 = nI xs.length := e_x22.trans (congrArg nI ((congrArg (g.1 6) (nI_clamp (n := r1) (by omega))).trans (hr.1)))
          subst e_x22
          refine lv_aload_n cx.x cx.b d_Mo_compareNames_105 rfl (lv_at hl 2 rfl) ?_
          refine gf_Mo_28_Mo cx M0.1.1 rfl d_Mo_compareNames_106 ?_
          refine lv_iload_n cx.x cx.b d_Mo_compareNames_109 rfl (lv_at hl 4 rfl) ?_
          refine hx_iald cx.x cx.b cx.K 0 (M0.1.2.1 6 (by decide)) rfl (show vp_in (nI s1) 217 from vp_in_nI (show s1 < 217 by omega) (by decide)) d_Mo_compareNames_110 ?_
          refine lv_topi (fun x23 e_x23 => ?_)
          have e_x23 : x23 = nI ys.length := e_x23.trans (congrArg nI ((congrArg (g.1 6) (nI_clamp (n := s1) (by omega))).trans (hs.1)))
          subst e_x23
          refine lv_isub cx.x cx.b d_Mo_compareNames_111 ?_
          refine lv_topi (fun x24 e_x24 => ?_)
          rw [← hQ]
          exact hx_reti cx.x cx.b cx.r cx.k rfl hlo (fun _ h => h) (Nat.le_of_ble_eq_true rfl) (Nat.le_of_ble_eq_true rfl) d_Mo_compareNames_112 (⟨by rw [e_x24, nI_subI (by omega) (by omega)]; exact hi, rfl⟩)
        · have c2 : j1 < (xs.length) := Nat.not_le.mp (fun zz => c2 ((nI_leI (a := (xs.length)) (b := j1) (by omega) (by omega)).mpr zz))
          rw [cmpL_step (by omega) (by omega)] at hi
          refine lv_aload_n cx.x cx.b d_Mo_compareNames_40 rfl (lv_at hl 2 rfl) ?_
          refine gf_Mo_22_Mo cx M0.1.1 rfl d_Mo_compareNames_41 ?_
          refine lv_bipush (v := 20) cx.x cx.b d_Mo_compareNames_44 (by decide) ?_
          refine lv_iload_n cx.x cx.b d_Mo_compareNames_46 rfl (lv_at hl 3 rfl) ?_
          refine lv_imul cx.x cx.b d_Mo_compareNames_47 ?_
          refine lv_topi (fun x25 e_x25 => ?_)
          have e_x25 : x25 = nI (20 * r1) := e_x25.trans (pk_mul 20 r1)
          subst e_x25
          refine lv_iload cx.x cx.b d_Mo_compareNames_48 (lv_at hl 0 rfl) ?_
          refine lv_iadd cx.x cx.b d_Mo_compareNames_50 ?_
          refine lv_topi (fun x26 e_x26 => ?_)
          have e_x26 : x26 = nI ((20 * r1) + j1) := e_x26.trans (nI_add (20 * r1) j1)
          subst e_x26
          refine hx_iald cx.x cx.b cx.K 0 (M0.1.2.1 4 (by decide)) rfl (show vp_in (nI ((20 * r1) + j1)) 4340 from vp_in_nI (show ((20 * r1) + j1) < 4340 by omega) (by decide)) d_Mo_compareNames_51 ?_
          refine lv_topi (fun x27 e_x27 => ?_)
          have hb_r1 : xs.getD j1 0 < 128 := hr.2.2.2 _ (getD_mem (show j1 < xs.length by omega))
          have e_x27 : x27 = nI (xs.getD j1 0) := e_x27.trans (congrArg nI ((congrArg (g.1 4) (nI_clamp (n := ((20 * r1) + j1)) (by omega))).trans (hr.2.2.1 j1 (by omega))))
          subst e_x27
          refine lv_aload_n cx.x cx.b d_Mo_compareNames_52 rfl (lv_at hl 2 rfl) ?_
          refine gf_Mo_22_Mo cx M0.1.1 rfl d_Mo_compareNames_53 ?_
          refine lv_bipush (v := 20) cx.x cx.b d_Mo_compareNames_56 (by decide) ?_
          refine lv_iload_n cx.x cx.b d_Mo_compareNames_58 rfl (lv_at hl 4 rfl) ?_
          refine lv_imul cx.x cx.b d_Mo_compareNames_59 ?_
          refine lv_topi (fun x28 e_x28 => ?_)
          have e_x28 : x28 = nI (20 * s1) := e_x28.trans (pk_mul 20 s1)
          subst e_x28
          refine lv_iload cx.x cx.b d_Mo_compareNames_60 (lv_at hl 0 rfl) ?_
          refine lv_iadd cx.x cx.b d_Mo_compareNames_62 ?_
          refine lv_topi (fun x29 e_x29 => ?_)
          have e_x29 : x29 = nI ((20 * s1) + j1) := e_x29.trans (nI_add (20 * s1) j1)
          subst e_x29
          refine hx_iald cx.x cx.b cx.K 0 (M0.1.2.1 4 (by decide)) rfl (show vp_in (nI ((20 * s1) + j1)) 4340 from vp_in_nI (show ((20 * s1) + j1) < 4340 by omega) (by decide)) d_Mo_compareNames_63 ?_
          refine lv_topi (fun x30 e_x30 => ?_)
          have hb_s1 : ys.getD j1 0 < 128 := hs.2.2.2 _ (getD_mem (show j1 < ys.length by omega))
          have e_x30 : x30 = nI (ys.getD j1 0) := e_x30.trans (congrArg nI ((congrArg (g.1 4) (nI_clamp (n := ((20 * s1) + j1)) (by omega))).trans (hs.2.2.1 j1 (by omega))))
          subst e_x30
          refine lv_icmp_eq (tgt := 93) cx.x cx.b d_Mo_compareNames_64 (by decide) (fun c3 => ?_) (fun c3 => ?_)
          · have c3 : (xs.getD j1 0) = (ys.getD j1 0) := (nI_eq (a := (xs.getD j1 0)) (b := (ys.getD j1 0)) (by omega) (by omega)).mp c3
            rw [if_pos c3] at hi
            obtain ⟨x31, e_x31⟩ : ∃ y : Int32, y = nI j1 + 1 := ⟨_, rfl⟩
            refine lv_iinc (v := x31) (lv' := [(4, .int x31), (3, .int (nI (xs.length))), (0, .ref a), (1, .int (nI r1)), (2, .int (nI s1))]) cx.x cx.b d_Mo_compareNames_93 hl (k := 0) rfl (by rw [e_x31]; rfl) (by decide) rfl (fun ls hl => ?_)
            have e_x31 : x31 = nI (j1 + 1) := e_x31.trans (nI_add j1 1)
            subst e_x31
            refine lv_goto (tgt := 34) cx.x cx.b d_Mo_compareNames_96 (by decide) ?_
            exact ih _ (j1 + 1) hlo (by omega) (by omega) hi _ (lv_sub hl [0, 1, 2, 3, 4] rfl)
          · have c3 : (xs.getD j1 0) ≠ (ys.getD j1 0) := fun zz => c3 ((nI_eq (a := (xs.getD j1 0)) (b := (ys.getD j1 0)) (by omega) (by omega)).mpr zz)
            rw [if_neg c3] at hi
            refine lv_aload_n cx.x cx.b d_Mo_compareNames_67 rfl (lv_at hl 2 rfl) ?_
            refine gf_Mo_22_Mo cx M0.1.1 rfl d_Mo_compareNames_68 ?_
            refine lv_bipush (v := 20) cx.x cx.b d_Mo_compareNames_71 (by decide) ?_
            refine lv_iload_n cx.x cx.b d_Mo_compareNames_73 rfl (lv_at hl 3 rfl) ?_
            refine lv_imul cx.x cx.b d_Mo_compareNames_74 ?_
            refine lv_topi (fun x32 e_x32 => ?_)
            have e_x32 : x32 = nI (20 * r1) := e_x32.trans (pk_mul 20 r1)
            subst e_x32
            refine lv_iload cx.x cx.b d_Mo_compareNames_75 (lv_at hl 0 rfl) ?_
            refine lv_iadd cx.x cx.b d_Mo_compareNames_77 ?_
            refine lv_topi (fun x33 e_x33 => ?_)
            have e_x33 : x33 = nI ((20 * r1) + j1) := e_x33.trans (nI_add (20 * r1) j1)
            subst e_x33
            refine hx_iald cx.x cx.b cx.K 0 (M0.1.2.1 4 (by decide)) rfl (show vp_in (nI ((20 * r1) + j1)) 4340 from vp_in_nI (show ((20 * r1) + j1) < 4340 by omega) (by decide)) d_Mo_compareNames_78 ?_
            refine lv_topi (fun x34 e_x34 => ?_)
            have hb_r1 : xs.getD j1 0 < 128 := hr.2.2.2 _ (getD_mem (show j1 < xs.length by omega))
            have e_x34 : x34 = nI (xs.getD j1 0) := e_x34.trans (congrArg nI ((congrArg (g.1 4) (nI_clamp (n := ((20 * r1) + j1)) (by omega))).trans (hr.2.2.1 j1 (by omega))))
            subst e_x34
            refine lv_aload_n cx.x cx.b d_Mo_compareNames_79 rfl (lv_at hl 2 rfl) ?_
            refine gf_Mo_22_Mo cx M0.1.1 rfl d_Mo_compareNames_80 ?_
            refine lv_bipush (v := 20) cx.x cx.b d_Mo_compareNames_83 (by decide) ?_
            refine lv_iload_n cx.x cx.b d_Mo_compareNames_85 rfl (lv_at hl 4 rfl) ?_
            refine lv_imul cx.x cx.b d_Mo_compareNames_86 ?_
            refine lv_topi (fun x35 e_x35 => ?_)
            have e_x35 : x35 = nI (20 * s1) := e_x35.trans (pk_mul 20 s1)
            subst e_x35
            refine lv_iload cx.x cx.b d_Mo_compareNames_87 (lv_at hl 0 rfl) ?_
            refine lv_iadd cx.x cx.b d_Mo_compareNames_89 ?_
            refine lv_topi (fun x36 e_x36 => ?_)
            have e_x36 : x36 = nI ((20 * s1) + j1) := e_x36.trans (nI_add (20 * s1) j1)
            subst e_x36
            refine hx_iald cx.x cx.b cx.K 0 (M0.1.2.1 4 (by decide)) rfl (show vp_in (nI ((20 * s1) + j1)) 4340 from vp_in_nI (show ((20 * s1) + j1) < 4340 by omega) (by decide)) d_Mo_compareNames_90 ?_
            refine lv_topi (fun x37 e_x37 => ?_)
            have hb_s1 : ys.getD j1 0 < 128 := hs.2.2.2 _ (getD_mem (show j1 < ys.length by omega))
            have e_x37 : x37 = nI (ys.getD j1 0) := e_x37.trans (congrArg nI ((congrArg (g.1 4) (nI_clamp (n := ((20 * s1) + j1)) (by omega))).trans (hs.2.2.1 j1 (by omega))))
            subst e_x37
            refine lv_isub cx.x cx.b d_Mo_compareNames_91 ?_
            refine lv_topi (fun x38 e_x38 => ?_)
            rw [← hQ]
            exact hx_reti cx.x cx.b cx.r cx.k rfl hlo (fun _ h => h) (Nat.le_of_ble_eq_true rfl) (Nat.le_of_ble_eq_true rfl) d_Mo_compareNames_92 (⟨by rw [e_x38, nI_subI (by omega) (by omega)]; exact hi, rfl⟩)
    exact LP _ _ 0 hlo (Nat.lt_succ_self _) (Nat.zero_le _) hG _ (lv_sub hl [0, 1, 2, 3, 4] rfl)

set_option maxHeartbeats 4000000 in
set_option maxRecDepth 100000 in
theorem c_Mo_compareMembers (l : Launch) {E : hE} (hE : EnvOk E) {H : Heap} {a : Nat} {ad : Nat → Nat} {g : MS} (M : Mo E H a ad g) {r1 s1 : Nat} (hr1 : r1 < 217) (hs1 : s1 < 217) {x y : DV} (hr : Row g.1 r1 x) (hs : Row g.1 s1 y) : Ct l E y_Mo_compareMembers b_Mo_compareMembers 6 (some .int) (rmA 1 0 0) [.ref a, .int (nI r1), .int (nI s1)] H (hQi (fun r H1 => r.toInt = cmpD x y ∧ H1 = H)) := by
  refine hx_enter hE (by decide) (Nat.le_of_ble_eq_true rfl) ?_
  intro p e s m args below meth c ls cx hnm hl
  have hl : lv_has ls 6 [(0, .ref a), (1, .int (nI r1)), (2, .int (nI s1))] := hl
  have hlo : hLo (eB E) [] := hLo.nil
  generalize hQ : MQ below _ args s _ _ _ = Q
  have M0 : Mw E H H a ad g := ⟨M, hCh.rf, rfl⟩
  have hlx := hr.2.1.2.1
  have hly := hs.2.1.2.1
  have hkx := hr.2.2.2.2.1
  have hky := hs.2.2.2.2.1
  unfold cmpD at hQ
  refine lv_aload_n cx.x cx.b d_Mo_compareMembers_0 rfl (lv_at hl 0 rfl) ?_
  refine lv_iload_n cx.x cx.b d_Mo_compareMembers_1 rfl (lv_at hl 1 rfl) ?_
  refine lv_iload_n cx.x cx.b d_Mo_compareMembers_2 rfl (lv_at hl 2 rfl) ?_
  refine hx_calli (iv_Mo_152_Mo cx (c_Mo_compareNames l hE M hr1 hs1 hr.1 hs.1) M0.1.1 rfl hl.1 rfl (Nat.le_of_ble_eq_true rfl) d_Mo_compareMembers_3 ⟨Nat.le_of_ble_eq_true rfl, Nat.le_of_ble_eq_true rfl⟩ ⟨Nat.le_of_ble_eq_true rfl, Nat.le_of_ble_eq_true rfl⟩) hlo (fun _ h => h) (fun r41 H40 locs hp39 hlo => ?_)
  obtain ⟨hp39, hH9⟩ := hp39
  have hH9 := hH9.symm
  subst hH9
  refine lv_istore_n (lv' := [(3, .int r41), (0, .ref a), (1, .int (nI r1)), (2, .int (nI s1))]) cx.x cx.b d_Mo_compareMembers_6 rfl hl (by decide) rfl (fun ls hl => ?_)
  refine lv_iload_n cx.x cx.b d_Mo_compareMembers_7 rfl (lv_at hl 0 rfl) ?_
  refine lv_if_eq (tgt := 13) cx.x cx.b d_Mo_compareMembers_8 (by decide) (fun c1 => ?_) (fun c1 => ?_)
  · have c1 : cmpL x.1 y.1 = 0 := (cmpI_z hp39).mp c1
    rw [if_neg (fun z => z c1)] at hQ
    refine lv_aload_n cx.x cx.b d_Mo_compareMembers_13 rfl (lv_at hl 1 rfl) ?_
    refine gf_Mo_34_Mo cx M0.1.1 rfl d_Mo_compareMembers_14 ?_
    refine lv_iload_n cx.x cx.b d_Mo_compareMembers_17 rfl (lv_at hl 2 rfl) ?_
    refine hx_iald cx.x cx.b cx.K 0 (M0.1.2.1 8 (by decide)) rfl (show vp_in (nI r1) 217 from vp_in_nI (show r1 < 217 by omega) (by decide)) d_Mo_compareMembers_18 ?_
    refine lv_topi (fun x42 e_x42 => ?_)
    have e_x42 : x42 = nI x.2.2.1 := e_x42.trans (congrArg nI ((congrArg (g.1 8) (nI_clamp (n := r1) (by omega))).trans (hr.2.2.1)))
    subst e_x42
    refine lv_aload_n cx.x cx.b d_Mo_compareMembers_19 rfl (lv_at hl 1 rfl) ?_
    refine gf_Mo_34_Mo cx M0.1.1 rfl d_Mo_compareMembers_20 ?_
    refine lv_iload_n cx.x cx.b d_Mo_compareMembers_23 rfl (lv_at hl 3 rfl) ?_
    refine hx_iald cx.x cx.b cx.K 0 (M0.1.2.1 8 (by decide)) rfl (show vp_in (nI s1) 217 from vp_in_nI (show s1 < 217 by omega) (by decide)) d_Mo_compareMembers_24 ?_
    refine lv_topi (fun x43 e_x43 => ?_)
    have e_x43 : x43 = nI y.2.2.1 := e_x43.trans (congrArg nI ((congrArg (g.1 8) (nI_clamp (n := s1) (by omega))).trans (hs.2.2.1)))
    subst e_x43
    refine lv_icmp_eq (tgt := 42) cx.x cx.b d_Mo_compareMembers_25 (by decide) (fun c2 => ?_) (fun c2 => ?_)
    · have c2 : x.2.2.1 = y.2.2.1 := (nI_eq (a := x.2.2.1) (b := y.2.2.1) (by omega) (by omega)).mp c2
      rw [if_neg (fun z => z c2)] at hQ
      generalize hG : cmpL x.2.1 y.2.1 = G at hQ
      have hG : cmpL (x.2.1.drop 0) (y.2.1.drop 0) = G := hG
      refine lv_aload_n cx.x cx.b d_Mo_compareMembers_42 rfl (lv_at hl 1 rfl) ?_
      refine gf_Mo_31_Mo cx M0.1.1 rfl d_Mo_compareMembers_43 ?_
      refine lv_iload_n cx.x cx.b d_Mo_compareMembers_46 rfl (lv_at hl 2 rfl) ?_
      refine hx_iald cx.x cx.b cx.K 0 (M0.1.2.1 7 (by decide)) rfl (show vp_in (nI r1) 217 from vp_in_nI (show r1 < 217 by omega) (by decide)) d_Mo_compareMembers_47 ?_
      refine lv_topi (fun x47 e_x47 => ?_)
      have e_x47 : x47 = nI x.2.1.length := e_x47.trans (congrArg nI ((congrArg (g.1 7) (nI_clamp (n := r1) (by omega))).trans (hr.2.1.1)))
      subst e_x47
      refine lv_aload_n cx.x cx.b d_Mo_compareMembers_48 rfl (lv_at hl 1 rfl) ?_
      refine gf_Mo_31_Mo cx M0.1.1 rfl d_Mo_compareMembers_49 ?_
      refine lv_iload_n cx.x cx.b d_Mo_compareMembers_52 rfl (lv_at hl 3 rfl) ?_
      refine hx_iald cx.x cx.b cx.K 0 (M0.1.2.1 7 (by decide)) rfl (show vp_in (nI s1) 217 from vp_in_nI (show s1 < 217 by omega) (by decide)) d_Mo_compareMembers_53 ?_
      refine lv_topi (fun x48 e_x48 => ?_)
      have e_x48 : x48 = nI y.2.1.length := e_x48.trans (congrArg nI ((congrArg (g.1 7) (nI_clamp (n := s1) (by omega))).trans (hs.2.1.1)))
      subst e_x48
      refine lv_icmp_ge (tgt := 66) cx.x cx.b d_Mo_compareMembers_54 (by decide) (fun c1 => ?_) (fun c1 => ?_)
      · have c1 : y.2.1.length ≤ x.2.1.length := (nI_leI (a := y.2.1.length) (b := x.2.1.length) (by omega) (by omega)).mp c1
        refine lv_aload_n cx.x cx.b d_Mo_compareMembers_66 rfl (lv_at hl 1 rfl) ?_
        refine gf_Mo_31_Mo cx M0.1.1 rfl d_Mo_compareMembers_67 ?_
        refine lv_iload_n cx.x cx.b d_Mo_compareMembers_70 rfl (lv_at hl 3 rfl) ?_
        refine hx_iald cx.x cx.b cx.K 0 (M0.1.2.1 7 (by decide)) rfl (show vp_in (nI s1) 217 from vp_in_nI (show s1 < 217 by omega) (by decide)) d_Mo_compareMembers_71 ?_
        refine lv_topi (fun x49 e_x49 => ?_)
        have e_x49 : x49 = nI y.2.1.length := e_x49.trans (congrArg nI ((congrArg (g.1 7) (nI_clamp (n := s1) (by omega))).trans (hs.2.1.1)))
        subst e_x49
        refine lv_istore (lv' := [(4, .int (nI y.2.1.length)), (3, .int r41), (0, .ref a), (1, .int (nI r1)), (2, .int (nI s1))]) cx.x cx.b d_Mo_compareMembers_72 hl (by decide) rfl (fun ls hl => ?_)
        refine lv_iconst (v := 0) cx.x cx.b d_Mo_compareMembers_74 (by decide) ?_
        refine lv_istore (lv' := [(5, .int 0), (4, .int (nI y.2.1.length)), (3, .int r41), (0, .ref a), (1, .int (nI r1)), (2, .int (nI s1))]) cx.x cx.b d_Mo_compareMembers_75 hl (by decide) rfl (fun ls hl => ?_)
        have LP : ∀ (k : Nat) (locs : List Loc) (j1 : Nat), hLo (eB E) locs → (y.2.1.length - j1 < k) → (j1 ≤ y.2.1.length) → (cmpL (x.2.1.drop j1) (y.2.1.drop j1) = G) → ∀ ls, lv_has ls 6 [(5, .int (nI j1)), (4, .int (nI (y.2.1.length))), (0, .ref a), (1, .int (nI r1)), (2, .int (nI s1))] → W p l e (rmA 1 0 0) s m args below meth c H locs 0 0 Q (F0 m 77 ls []) := by
          intro k
          induction k with
          | zero => intro locs j1 hlo hk hj1 hi; exact absurd hk (by omega)
          | succ k ih =>
            intro locs j1 hlo hk hj1 hi ls hl
            refine lv_iload cx.x cx.b d_Mo_compareMembers_77 (lv_at hl 0 rfl) ?_
            refine lv_iload cx.x cx.b d_Mo_compareMembers_79 (lv_at hl 1 rfl) ?_
            refine lv_icmp_ge (tgt := 143) cx.x cx.b d_Mo_compareMembers_81 (by decide) (fun c2 => ?_) (fun c2 => ?_)
            · have c2 : (y.2.1.length) ≤ j1 := (nI_leI (a := (y.2.1.length)) (b := j1) (by omega) (by omega)).mp c2
              rw [cmpL_end (by omega) (by omega) (by omega)] at hi
              refine lv_aload_n cx.x cx.b d_Mo_compareMembers_143 rfl (lv_at hl 2 rfl) ?_
              refine gf_Mo_31_Mo cx M0.1.1 rfl d_Mo_compareMembers_144 ?_
              refine lv_iload_n cx.x cx.b d_Mo_compareMembers_147 rfl (lv_at hl 3 rfl) ?_
              refine hx_iald cx.x cx.b cx.K 0 (M0.1.2.1 7 (by decide)) rfl (show vp_in (nI r1) 217 from vp_in_nI (show r1 < 217 by omega) (by decide)) d_Mo_compareMembers_148 ?_
              refine lv_topi (fun x50 e_x50 => ?_)
              have e_x50 : x50 = nI x.2.1.length := e_x50.trans (congrArg nI ((congrArg (g.1 7) (nI_clamp (n := r1) (by omega))).trans (hr.2.1.1)))
              subst e_x50
              refine lv_aload_n cx.x cx.b d_Mo_compareMembers_149 rfl (lv_at hl 2 rfl) ?_
              refine gf_Mo_31_Mo cx M0.1.1 rfl d_Mo_compareMembers_150 ?_
              refine lv_iload_n cx.x cx.b d_Mo_compareMembers_153 rfl (lv_at hl 4 rfl) ?_
              refine hx_iald cx.x cx.b cx.K 0 (M0.1.2.1 7 (by decide)) rfl (show vp_in (nI s1) 217 from vp_in_nI (show s1 < 217 by omega) (by decide)) d_Mo_compareMembers_154 ?_
              refine lv_topi (fun x51 e_x51 => ?_)
              have e_x51 : x51 = nI y.2.1.length := e_x51.trans (congrArg nI ((congrArg (g.1 7) (nI_clamp (n := s1) (by omega))).trans (hs.2.1.1)))
              subst e_x51
              refine lv_isub cx.x cx.b d_Mo_compareMembers_155 ?_
              refine lv_topi (fun x52 e_x52 => ?_)
              rw [← hQ]
              exact hx_reti cx.x cx.b cx.r cx.k rfl hlo (fun _ h => h) (Nat.le_of_ble_eq_true rfl) (Nat.le_of_ble_eq_true rfl) d_Mo_compareMembers_156 (⟨by rw [e_x52, nI_subI (by omega) (by omega)]; exact hi, rfl⟩)
            · have c2 : j1 < (y.2.1.length) := Nat.not_le.mp (fun zz => c2 ((nI_leI (a := (y.2.1.length)) (b := j1) (by omega) (by omega)).mpr zz))
              rw [cmpL_step (by omega) (by omega)] at hi
              refine lv_aload_n cx.x cx.b d_Mo_compareMembers_84 rfl (lv_at hl 2 rfl) ?_
              refine gf_Mo_25_Mo cx M0.1.1 rfl d_Mo_compareMembers_85 ?_
              refine lv_bipush (v := 20) cx.x cx.b d_Mo_compareMembers_88 (by decide) ?_
              refine lv_iload_n cx.x cx.b d_Mo_compareMembers_90 rfl (lv_at hl 3 rfl) ?_
              refine lv_imul cx.x cx.b d_Mo_compareMembers_91 ?_
              refine lv_topi (fun x53 e_x53 => ?_)
              have e_x53 : x53 = nI (20 * r1) := e_x53.trans (pk_mul 20 r1)
              subst e_x53
              refine lv_iload cx.x cx.b d_Mo_compareMembers_92 (lv_at hl 0 rfl) ?_
              refine lv_iadd cx.x cx.b d_Mo_compareMembers_94 ?_
              refine lv_topi (fun x54 e_x54 => ?_)
              have e_x54 : x54 = nI ((20 * r1) + j1) := e_x54.trans (nI_add (20 * r1) j1)
              subst e_x54
              refine hx_iald cx.x cx.b cx.K 0 (M0.1.2.1 5 (by decide)) rfl (show vp_in (nI ((20 * r1) + j1)) 4340 from vp_in_nI (show ((20 * r1) + j1) < 4340 by omega) (by decide)) d_Mo_compareMembers_95 ?_
              refine lv_topi (fun x55 e_x55 => ?_)
              have hb_r1 : x.2.1.getD j1 0 < 128 := hr.2.1.2.2.2 _ (getD_mem (show j1 < x.2.1.length by omega))
              have e_x55 : x55 = nI (x.2.1.getD j1 0) := e_x55.trans (congrArg nI ((congrArg (g.1 5) (nI_clamp (n := ((20 * r1) + j1)) (by omega))).trans (hr.2.1.2.2.1 j1 (by omega))))
              subst e_x55
              refine lv_aload_n cx.x cx.b d_Mo_compareMembers_96 rfl (lv_at hl 2 rfl) ?_
              refine gf_Mo_25_Mo cx M0.1.1 rfl d_Mo_compareMembers_97 ?_
              refine lv_bipush (v := 20) cx.x cx.b d_Mo_compareMembers_100 (by decide) ?_
              refine lv_iload_n cx.x cx.b d_Mo_compareMembers_102 rfl (lv_at hl 4 rfl) ?_
              refine lv_imul cx.x cx.b d_Mo_compareMembers_103 ?_
              refine lv_topi (fun x56 e_x56 => ?_)
              have e_x56 : x56 = nI (20 * s1) := e_x56.trans (pk_mul 20 s1)
              subst e_x56
              refine lv_iload cx.x cx.b d_Mo_compareMembers_104 (lv_at hl 0 rfl) ?_
              refine lv_iadd cx.x cx.b d_Mo_compareMembers_106 ?_
              refine lv_topi (fun x57 e_x57 => ?_)
              have e_x57 : x57 = nI ((20 * s1) + j1) := e_x57.trans (nI_add (20 * s1) j1)
              subst e_x57
              refine hx_iald cx.x cx.b cx.K 0 (M0.1.2.1 5 (by decide)) rfl (show vp_in (nI ((20 * s1) + j1)) 4340 from vp_in_nI (show ((20 * s1) + j1) < 4340 by omega) (by decide)) d_Mo_compareMembers_107 ?_
              refine lv_topi (fun x58 e_x58 => ?_)
              have hb_s1 : y.2.1.getD j1 0 < 128 := hs.2.1.2.2.2 _ (getD_mem (show j1 < y.2.1.length by omega))
              have e_x58 : x58 = nI (y.2.1.getD j1 0) := e_x58.trans (congrArg nI ((congrArg (g.1 5) (nI_clamp (n := ((20 * s1) + j1)) (by omega))).trans (hs.2.1.2.2.1 j1 (by omega))))
              subst e_x58
              refine lv_icmp_eq (tgt := 137) cx.x cx.b d_Mo_compareMembers_108 (by decide) (fun c3 => ?_) (fun c3 => ?_)
              · have c3 : (x.2.1.getD j1 0) = (y.2.1.getD j1 0) := (nI_eq (a := (x.2.1.getD j1 0)) (b := (y.2.1.getD j1 0)) (by omega) (by omega)).mp c3
                rw [if_pos c3] at hi
                obtain ⟨x59, e_x59⟩ : ∃ y : Int32, y = nI j1 + 1 := ⟨_, rfl⟩
                refine lv_iinc (v := x59) (lv' := [(5, .int x59), (4, .int (nI (y.2.1.length))), (0, .ref a), (1, .int (nI r1)), (2, .int (nI s1))]) cx.x cx.b d_Mo_compareMembers_137 hl (k := 0) rfl (by rw [e_x59]; rfl) (by decide) rfl (fun ls hl => ?_)
                have e_x59 : x59 = nI (j1 + 1) := e_x59.trans (nI_add j1 1)
                subst e_x59
                refine lv_goto (tgt := 77) cx.x cx.b d_Mo_compareMembers_140 (by decide) ?_
                exact ih _ (j1 + 1) hlo (by omega) (by omega) hi _ (lv_sub hl [0, 1, 2, 3, 4] rfl)
              · have c3 : (x.2.1.getD j1 0) ≠ (y.2.1.getD j1 0) := fun zz => c3 ((nI_eq (a := (x.2.1.getD j1 0)) (b := (y.2.1.getD j1 0)) (by omega) (by omega)).mpr zz)
                rw [if_neg c3] at hi
                refine lv_aload_n cx.x cx.b d_Mo_compareMembers_111 rfl (lv_at hl 2 rfl) ?_
                refine gf_Mo_25_Mo cx M0.1.1 rfl d_Mo_compareMembers_112 ?_
                refine lv_bipush (v := 20) cx.x cx.b d_Mo_compareMembers_115 (by decide) ?_
                refine lv_iload_n cx.x cx.b d_Mo_compareMembers_117 rfl (lv_at hl 3 rfl) ?_
                refine lv_imul cx.x cx.b d_Mo_compareMembers_118 ?_
                refine lv_topi (fun x60 e_x60 => ?_)
                have e_x60 : x60 = nI (20 * r1) := e_x60.trans (pk_mul 20 r1)
                subst e_x60
                refine lv_iload cx.x cx.b d_Mo_compareMembers_119 (lv_at hl 0 rfl) ?_
                refine lv_iadd cx.x cx.b d_Mo_compareMembers_121 ?_
                refine lv_topi (fun x61 e_x61 => ?_)
                have e_x61 : x61 = nI ((20 * r1) + j1) := e_x61.trans (nI_add (20 * r1) j1)
                subst e_x61
                refine hx_iald cx.x cx.b cx.K 0 (M0.1.2.1 5 (by decide)) rfl (show vp_in (nI ((20 * r1) + j1)) 4340 from vp_in_nI (show ((20 * r1) + j1) < 4340 by omega) (by decide)) d_Mo_compareMembers_122 ?_
                refine lv_topi (fun x62 e_x62 => ?_)
                have hb_r1 : x.2.1.getD j1 0 < 128 := hr.2.1.2.2.2 _ (getD_mem (show j1 < x.2.1.length by omega))
                have e_x62 : x62 = nI (x.2.1.getD j1 0) := e_x62.trans (congrArg nI ((congrArg (g.1 5) (nI_clamp (n := ((20 * r1) + j1)) (by omega))).trans (hr.2.1.2.2.1 j1 (by omega))))
                subst e_x62
                refine lv_aload_n cx.x cx.b d_Mo_compareMembers_123 rfl (lv_at hl 2 rfl) ?_
                refine gf_Mo_25_Mo cx M0.1.1 rfl d_Mo_compareMembers_124 ?_
                refine lv_bipush (v := 20) cx.x cx.b d_Mo_compareMembers_127 (by decide) ?_
                refine lv_iload_n cx.x cx.b d_Mo_compareMembers_129 rfl (lv_at hl 4 rfl) ?_
                refine lv_imul cx.x cx.b d_Mo_compareMembers_130 ?_
                refine lv_topi (fun x63 e_x63 => ?_)
                have e_x63 : x63 = nI (20 * s1) := e_x63.trans (pk_mul 20 s1)
                subst e_x63
                refine lv_iload cx.x cx.b d_Mo_compareMembers_131 (lv_at hl 0 rfl) ?_
                refine lv_iadd cx.x cx.b d_Mo_compareMembers_133 ?_
                refine lv_topi (fun x64 e_x64 => ?_)
                have e_x64 : x64 = nI ((20 * s1) + j1) := e_x64.trans (nI_add (20 * s1) j1)
                subst e_x64
                refine hx_iald cx.x cx.b cx.K 0 (M0.1.2.1 5 (by decide)) rfl (show vp_in (nI ((20 * s1) + j1)) 4340 from vp_in_nI (show ((20 * s1) + j1) < 4340 by omega) (by decide)) d_Mo_compareMembers_134 ?_
                refine lv_topi (fun x65 e_x65 => ?_)
                have hb_s1 : y.2.1.getD j1 0 < 128 := hs.2.1.2.2.2 _ (getD_mem (show j1 < y.2.1.length by omega))
                have e_x65 : x65 = nI (y.2.1.getD j1 0) := e_x65.trans (congrArg nI ((congrArg (g.1 5) (nI_clamp (n := ((20 * s1) + j1)) (by omega))).trans (hs.2.1.2.2.1 j1 (by omega))))
                subst e_x65
                refine lv_isub cx.x cx.b d_Mo_compareMembers_135 ?_
                refine lv_topi (fun x66 e_x66 => ?_)
                rw [← hQ]
                exact hx_reti cx.x cx.b cx.r cx.k rfl hlo (fun _ h => h) (Nat.le_of_ble_eq_true rfl) (Nat.le_of_ble_eq_true rfl) d_Mo_compareMembers_136 (⟨by rw [e_x66, nI_subI (by omega) (by omega)]; exact hi, rfl⟩)
        exact LP _ _ 0 hlo (Nat.lt_succ_self _) (Nat.zero_le _) hG _ (lv_sub hl [0, 1, 3, 4, 5] rfl)
      · have c1 : x.2.1.length < y.2.1.length := Nat.not_le.mp (fun zz => c1 ((nI_leI (a := y.2.1.length) (b := x.2.1.length) (by omega) (by omega)).mpr zz))
        refine lv_aload_n cx.x cx.b d_Mo_compareMembers_57 rfl (lv_at hl 1 rfl) ?_
        refine gf_Mo_31_Mo cx M0.1.1 rfl d_Mo_compareMembers_58 ?_
        refine lv_iload_n cx.x cx.b d_Mo_compareMembers_61 rfl (lv_at hl 2 rfl) ?_
        refine hx_iald cx.x cx.b cx.K 0 (M0.1.2.1 7 (by decide)) rfl (show vp_in (nI r1) 217 from vp_in_nI (show r1 < 217 by omega) (by decide)) d_Mo_compareMembers_62 ?_
        refine lv_topi (fun x67 e_x67 => ?_)
        have e_x67 : x67 = nI x.2.1.length := e_x67.trans (congrArg nI ((congrArg (g.1 7) (nI_clamp (n := r1) (by omega))).trans (hr.2.1.1)))
        subst e_x67
        refine lv_goto (tgt := 72) cx.x cx.b d_Mo_compareMembers_63 (by decide) ?_
        refine lv_istore (lv' := [(4, .int (nI x.2.1.length)), (3, .int r41), (0, .ref a), (1, .int (nI r1)), (2, .int (nI s1))]) cx.x cx.b d_Mo_compareMembers_72 hl (by decide) rfl (fun ls hl => ?_)
        refine lv_iconst (v := 0) cx.x cx.b d_Mo_compareMembers_74 (by decide) ?_
        refine lv_istore (lv' := [(5, .int 0), (4, .int (nI x.2.1.length)), (3, .int r41), (0, .ref a), (1, .int (nI r1)), (2, .int (nI s1))]) cx.x cx.b d_Mo_compareMembers_75 hl (by decide) rfl (fun ls hl => ?_)
        have LP : ∀ (k : Nat) (locs : List Loc) (j1 : Nat), hLo (eB E) locs → (x.2.1.length - j1 < k) → (j1 ≤ x.2.1.length) → (cmpL (x.2.1.drop j1) (y.2.1.drop j1) = G) → ∀ ls, lv_has ls 6 [(5, .int (nI j1)), (4, .int (nI (x.2.1.length))), (0, .ref a), (1, .int (nI r1)), (2, .int (nI s1))] → W p l e (rmA 1 0 0) s m args below meth c H locs 0 0 Q (F0 m 77 ls []) := by
          intro k
          induction k with
          | zero => intro locs j1 hlo hk hj1 hi; exact absurd hk (by omega)
          | succ k ih =>
            intro locs j1 hlo hk hj1 hi ls hl
            refine lv_iload cx.x cx.b d_Mo_compareMembers_77 (lv_at hl 0 rfl) ?_
            refine lv_iload cx.x cx.b d_Mo_compareMembers_79 (lv_at hl 1 rfl) ?_
            refine lv_icmp_ge (tgt := 143) cx.x cx.b d_Mo_compareMembers_81 (by decide) (fun c2 => ?_) (fun c2 => ?_)
            · have c2 : (x.2.1.length) ≤ j1 := (nI_leI (a := (x.2.1.length)) (b := j1) (by omega) (by omega)).mp c2
              rw [cmpL_end (by omega) (by omega) (by omega)] at hi
              refine lv_aload_n cx.x cx.b d_Mo_compareMembers_143 rfl (lv_at hl 2 rfl) ?_
              refine gf_Mo_31_Mo cx M0.1.1 rfl d_Mo_compareMembers_144 ?_
              refine lv_iload_n cx.x cx.b d_Mo_compareMembers_147 rfl (lv_at hl 3 rfl) ?_
              refine hx_iald cx.x cx.b cx.K 0 (M0.1.2.1 7 (by decide)) rfl (show vp_in (nI r1) 217 from vp_in_nI (show r1 < 217 by omega) (by decide)) d_Mo_compareMembers_148 ?_
              refine lv_topi (fun x68 e_x68 => ?_)
              have e_x68 : x68 = nI x.2.1.length := e_x68.trans (congrArg nI ((congrArg (g.1 7) (nI_clamp (n := r1) (by omega))).trans (hr.2.1.1)))
              subst e_x68
              refine lv_aload_n cx.x cx.b d_Mo_compareMembers_149 rfl (lv_at hl 2 rfl) ?_
              refine gf_Mo_31_Mo cx M0.1.1 rfl d_Mo_compareMembers_150 ?_
              refine lv_iload_n cx.x cx.b d_Mo_compareMembers_153 rfl (lv_at hl 4 rfl) ?_
              refine hx_iald cx.x cx.b cx.K 0 (M0.1.2.1 7 (by decide)) rfl (show vp_in (nI s1) 217 from vp_in_nI (show s1 < 217 by omega) (by decide)) d_Mo_compareMembers_154 ?_
              refine lv_topi (fun x69 e_x69 => ?_)
              have e_x69 : x69 = nI y.2.1.length := e_x69.trans (congrArg nI ((congrArg (g.1 7) (nI_clamp (n := s1) (by omega))).trans (hs.2.1.1)))
              subst e_x69
              refine lv_isub cx.x cx.b d_Mo_compareMembers_155 ?_
              refine lv_topi (fun x70 e_x70 => ?_)
              rw [← hQ]
              exact hx_reti cx.x cx.b cx.r cx.k rfl hlo (fun _ h => h) (Nat.le_of_ble_eq_true rfl) (Nat.le_of_ble_eq_true rfl) d_Mo_compareMembers_156 (⟨by rw [e_x70, nI_subI (by omega) (by omega)]; exact hi, rfl⟩)
            · have c2 : j1 < (x.2.1.length) := Nat.not_le.mp (fun zz => c2 ((nI_leI (a := (x.2.1.length)) (b := j1) (by omega) (by omega)).mpr zz))
              rw [cmpL_step (by omega) (by omega)] at hi
              refine lv_aload_n cx.x cx.b d_Mo_compareMembers_84 rfl (lv_at hl 2 rfl) ?_
              refine gf_Mo_25_Mo cx M0.1.1 rfl d_Mo_compareMembers_85 ?_
              refine lv_bipush (v := 20) cx.x cx.b d_Mo_compareMembers_88 (by decide) ?_
              refine lv_iload_n cx.x cx.b d_Mo_compareMembers_90 rfl (lv_at hl 3 rfl) ?_
              refine lv_imul cx.x cx.b d_Mo_compareMembers_91 ?_
              refine lv_topi (fun x71 e_x71 => ?_)
              have e_x71 : x71 = nI (20 * r1) := e_x71.trans (pk_mul 20 r1)
              subst e_x71
              refine lv_iload cx.x cx.b d_Mo_compareMembers_92 (lv_at hl 0 rfl) ?_
              refine lv_iadd cx.x cx.b d_Mo_compareMembers_94 ?_
              refine lv_topi (fun x72 e_x72 => ?_)
              have e_x72 : x72 = nI ((20 * r1) + j1) := e_x72.trans (nI_add (20 * r1) j1)
              subst e_x72
              refine hx_iald cx.x cx.b cx.K 0 (M0.1.2.1 5 (by decide)) rfl (show vp_in (nI ((20 * r1) + j1)) 4340 from vp_in_nI (show ((20 * r1) + j1) < 4340 by omega) (by decide)) d_Mo_compareMembers_95 ?_
              refine lv_topi (fun x73 e_x73 => ?_)
              have hb_r1 : x.2.1.getD j1 0 < 128 := hr.2.1.2.2.2 _ (getD_mem (show j1 < x.2.1.length by omega))
              have e_x73 : x73 = nI (x.2.1.getD j1 0) := e_x73.trans (congrArg nI ((congrArg (g.1 5) (nI_clamp (n := ((20 * r1) + j1)) (by omega))).trans (hr.2.1.2.2.1 j1 (by omega))))
              subst e_x73
              refine lv_aload_n cx.x cx.b d_Mo_compareMembers_96 rfl (lv_at hl 2 rfl) ?_
              refine gf_Mo_25_Mo cx M0.1.1 rfl d_Mo_compareMembers_97 ?_
              refine lv_bipush (v := 20) cx.x cx.b d_Mo_compareMembers_100 (by decide) ?_
              refine lv_iload_n cx.x cx.b d_Mo_compareMembers_102 rfl (lv_at hl 4 rfl) ?_
              refine lv_imul cx.x cx.b d_Mo_compareMembers_103 ?_
              refine lv_topi (fun x74 e_x74 => ?_)
              have e_x74 : x74 = nI (20 * s1) := e_x74.trans (pk_mul 20 s1)
              subst e_x74
              refine lv_iload cx.x cx.b d_Mo_compareMembers_104 (lv_at hl 0 rfl) ?_
              refine lv_iadd cx.x cx.b d_Mo_compareMembers_106 ?_
              refine lv_topi (fun x75 e_x75 => ?_)
              have e_x75 : x75 = nI ((20 * s1) + j1) := e_x75.trans (nI_add (20 * s1) j1)
              subst e_x75
              refine hx_iald cx.x cx.b cx.K 0 (M0.1.2.1 5 (by decide)) rfl (show vp_in (nI ((20 * s1) + j1)) 4340 from vp_in_nI (show ((20 * s1) + j1) < 4340 by omega) (by decide)) d_Mo_compareMembers_107 ?_
              refine lv_topi (fun x76 e_x76 => ?_)
              have hb_s1 : y.2.1.getD j1 0 < 128 := hs.2.1.2.2.2 _ (getD_mem (show j1 < y.2.1.length by omega))
              have e_x76 : x76 = nI (y.2.1.getD j1 0) := e_x76.trans (congrArg nI ((congrArg (g.1 5) (nI_clamp (n := ((20 * s1) + j1)) (by omega))).trans (hs.2.1.2.2.1 j1 (by omega))))
              subst e_x76
              refine lv_icmp_eq (tgt := 137) cx.x cx.b d_Mo_compareMembers_108 (by decide) (fun c3 => ?_) (fun c3 => ?_)
              · have c3 : (x.2.1.getD j1 0) = (y.2.1.getD j1 0) := (nI_eq (a := (x.2.1.getD j1 0)) (b := (y.2.1.getD j1 0)) (by omega) (by omega)).mp c3
                rw [if_pos c3] at hi
                obtain ⟨x77, e_x77⟩ : ∃ y : Int32, y = nI j1 + 1 := ⟨_, rfl⟩
                refine lv_iinc (v := x77) (lv' := [(5, .int x77), (4, .int (nI (x.2.1.length))), (0, .ref a), (1, .int (nI r1)), (2, .int (nI s1))]) cx.x cx.b d_Mo_compareMembers_137 hl (k := 0) rfl (by rw [e_x77]; rfl) (by decide) rfl (fun ls hl => ?_)
                have e_x77 : x77 = nI (j1 + 1) := e_x77.trans (nI_add j1 1)
                subst e_x77
                refine lv_goto (tgt := 77) cx.x cx.b d_Mo_compareMembers_140 (by decide) ?_
                exact ih _ (j1 + 1) hlo (by omega) (by omega) hi _ (lv_sub hl [0, 1, 2, 3, 4] rfl)
              · have c3 : (x.2.1.getD j1 0) ≠ (y.2.1.getD j1 0) := fun zz => c3 ((nI_eq (a := (x.2.1.getD j1 0)) (b := (y.2.1.getD j1 0)) (by omega) (by omega)).mpr zz)
                rw [if_neg c3] at hi
                refine lv_aload_n cx.x cx.b d_Mo_compareMembers_111 rfl (lv_at hl 2 rfl) ?_
                refine gf_Mo_25_Mo cx M0.1.1 rfl d_Mo_compareMembers_112 ?_
                refine lv_bipush (v := 20) cx.x cx.b d_Mo_compareMembers_115 (by decide) ?_
                refine lv_iload_n cx.x cx.b d_Mo_compareMembers_117 rfl (lv_at hl 3 rfl) ?_
                refine lv_imul cx.x cx.b d_Mo_compareMembers_118 ?_
                refine lv_topi (fun x78 e_x78 => ?_)
                have e_x78 : x78 = nI (20 * r1) := e_x78.trans (pk_mul 20 r1)
                subst e_x78
                refine lv_iload cx.x cx.b d_Mo_compareMembers_119 (lv_at hl 0 rfl) ?_
                refine lv_iadd cx.x cx.b d_Mo_compareMembers_121 ?_
                refine lv_topi (fun x79 e_x79 => ?_)
                have e_x79 : x79 = nI ((20 * r1) + j1) := e_x79.trans (nI_add (20 * r1) j1)
                subst e_x79
                refine hx_iald cx.x cx.b cx.K 0 (M0.1.2.1 5 (by decide)) rfl (show vp_in (nI ((20 * r1) + j1)) 4340 from vp_in_nI (show ((20 * r1) + j1) < 4340 by omega) (by decide)) d_Mo_compareMembers_122 ?_
                refine lv_topi (fun x80 e_x80 => ?_)
                have hb_r1 : x.2.1.getD j1 0 < 128 := hr.2.1.2.2.2 _ (getD_mem (show j1 < x.2.1.length by omega))
                have e_x80 : x80 = nI (x.2.1.getD j1 0) := e_x80.trans (congrArg nI ((congrArg (g.1 5) (nI_clamp (n := ((20 * r1) + j1)) (by omega))).trans (hr.2.1.2.2.1 j1 (by omega))))
                subst e_x80
                refine lv_aload_n cx.x cx.b d_Mo_compareMembers_123 rfl (lv_at hl 2 rfl) ?_
                refine gf_Mo_25_Mo cx M0.1.1 rfl d_Mo_compareMembers_124 ?_
                refine lv_bipush (v := 20) cx.x cx.b d_Mo_compareMembers_127 (by decide) ?_
                refine lv_iload_n cx.x cx.b d_Mo_compareMembers_129 rfl (lv_at hl 4 rfl) ?_
                refine lv_imul cx.x cx.b d_Mo_compareMembers_130 ?_
                refine lv_topi (fun x81 e_x81 => ?_)
                have e_x81 : x81 = nI (20 * s1) := e_x81.trans (pk_mul 20 s1)
                subst e_x81
                refine lv_iload cx.x cx.b d_Mo_compareMembers_131 (lv_at hl 0 rfl) ?_
                refine lv_iadd cx.x cx.b d_Mo_compareMembers_133 ?_
                refine lv_topi (fun x82 e_x82 => ?_)
                have e_x82 : x82 = nI ((20 * s1) + j1) := e_x82.trans (nI_add (20 * s1) j1)
                subst e_x82
                refine hx_iald cx.x cx.b cx.K 0 (M0.1.2.1 5 (by decide)) rfl (show vp_in (nI ((20 * s1) + j1)) 4340 from vp_in_nI (show ((20 * s1) + j1) < 4340 by omega) (by decide)) d_Mo_compareMembers_134 ?_
                refine lv_topi (fun x83 e_x83 => ?_)
                have hb_s1 : y.2.1.getD j1 0 < 128 := hs.2.1.2.2.2 _ (getD_mem (show j1 < y.2.1.length by omega))
                have e_x83 : x83 = nI (y.2.1.getD j1 0) := e_x83.trans (congrArg nI ((congrArg (g.1 5) (nI_clamp (n := ((20 * s1) + j1)) (by omega))).trans (hs.2.1.2.2.1 j1 (by omega))))
                subst e_x83
                refine lv_isub cx.x cx.b d_Mo_compareMembers_135 ?_
                refine lv_topi (fun x84 e_x84 => ?_)
                rw [← hQ]
                exact hx_reti cx.x cx.b cx.r cx.k rfl hlo (fun _ h => h) (Nat.le_of_ble_eq_true rfl) (Nat.le_of_ble_eq_true rfl) d_Mo_compareMembers_136 (⟨by rw [e_x84, nI_subI (by omega) (by omega)]; exact hi, rfl⟩)
        exact LP _ _ 0 hlo (Nat.lt_succ_self _) (Nat.zero_le _) hG _ (lv_sub hl [0, 1, 3, 4, 5] rfl)
    · have c2 : x.2.2.1 ≠ y.2.2.1 := fun zz => c2 ((nI_eq (a := x.2.2.1) (b := y.2.2.1) (by omega) (by omega)).mpr zz)
      rw [if_pos c2] at hQ
      refine lv_aload_n cx.x cx.b d_Mo_compareMembers_28 rfl (lv_at hl 1 rfl) ?_
      refine gf_Mo_34_Mo cx M0.1.1 rfl d_Mo_compareMembers_29 ?_
      refine lv_iload_n cx.x cx.b d_Mo_compareMembers_32 rfl (lv_at hl 2 rfl) ?_
      refine hx_iald cx.x cx.b cx.K 0 (M0.1.2.1 8 (by decide)) rfl (show vp_in (nI r1) 217 from vp_in_nI (show r1 < 217 by omega) (by decide)) d_Mo_compareMembers_33 ?_
      refine lv_topi (fun x44 e_x44 => ?_)
      have e_x44 : x44 = nI x.2.2.1 := e_x44.trans (congrArg nI ((congrArg (g.1 8) (nI_clamp (n := r1) (by omega))).trans (hr.2.2.1)))
      subst e_x44
      refine lv_aload_n cx.x cx.b d_Mo_compareMembers_34 rfl (lv_at hl 1 rfl) ?_
      refine gf_Mo_34_Mo cx M0.1.1 rfl d_Mo_compareMembers_35 ?_
      refine lv_iload_n cx.x cx.b d_Mo_compareMembers_38 rfl (lv_at hl 3 rfl) ?_
      refine hx_iald cx.x cx.b cx.K 0 (M0.1.2.1 8 (by decide)) rfl (show vp_in (nI s1) 217 from vp_in_nI (show s1 < 217 by omega) (by decide)) d_Mo_compareMembers_39 ?_
      refine lv_topi (fun x45 e_x45 => ?_)
      have e_x45 : x45 = nI y.2.2.1 := e_x45.trans (congrArg nI ((congrArg (g.1 8) (nI_clamp (n := s1) (by omega))).trans (hs.2.2.1)))
      subst e_x45
      refine lv_isub cx.x cx.b d_Mo_compareMembers_40 ?_
      refine lv_topi (fun x46 e_x46 => ?_)
      rw [← hQ]
      exact hx_reti cx.x cx.b cx.r cx.k rfl hlo (fun _ h => h) (Nat.le_of_ble_eq_true rfl) (Nat.le_of_ble_eq_true rfl) d_Mo_compareMembers_41 (⟨by rw [e_x46]; exact nI_subI (by omega) (by omega), rfl⟩)
  · have c1 : cmpL x.1 y.1 ≠ 0 := fun z => c1 ((cmpI_z hp39).mpr z)
    rw [if_pos c1] at hQ
    refine lv_iload_n cx.x cx.b d_Mo_compareMembers_11 rfl (lv_at hl 0 rfl) ?_
    rw [← hQ]
    exact hx_reti cx.x cx.b cx.r cx.k rfl hlo (fun _ h => h) (Nat.le_of_ble_eq_true rfl) (Nat.le_of_ble_eq_true rfl) d_Mo_compareMembers_12 (⟨hp39, rfl⟩)

set_option maxHeartbeats 4000000 in
set_option maxRecDepth 100000 in
theorem c_Mo_move (l : Launch) {E : hE} (hE : EnvOk E) {H : Heap} {a : Nat} {ad : Nat → Nat} {g : MS} (M : Mo E H a ad g) {t1 : Nat} (ht1 : t1 < 216) : Ct l E y_Mo_move b_Mo_move 4 none (rmA 0 0 0) [.ref a, .int 216, .int (nI t1)] H (hQv (fun H1 => ∃ g2 : MS, Mw E H H1 a ad g2 ∧ (g2.1 0 = g.1 0 ∧ g2.1 1 = g.1 1 ∧ g2.1 2 = g.1 2 ∧ g2.1 3 = g.1 3 ∧ g2.1 10 = g.1 10) ∧ g2.2 = g.2 ∧ (∀ x, Row g.1 216 x → Row g2.1 t1 x) ∧ ∀ r, r < 217 → r ≠ t1 → SameR g.1 g2.1 r)) := by
  refine hx_enter hE (by decide) (Nat.le_of_ble_eq_true rfl) ?_
  intro p e s m args below meth c ls cx hnm hl
  have hl : lv_has ls 4 [(0, .ref a), (1, .int 216), (2, .int (nI t1))] := hl
  have hlo : hLo (eB E) [] := hLo.nil
  generalize hQ : MQ below _ args s _ _ _ = Q
  have M0 : Mw E H H a ad g := ⟨M, hCh.rf, rfl⟩
  have LP : ∀ (k : Nat) (locs : List Loc) (j1 : Nat) (N9 D9 : Nat → Nat) (H5 : Heap), hLo (eB E) locs → (20 - j1 < k) → (j1 ≤ 20) → (Mw E H H5 a ad (up (up g.1 4 N9) 5 D9, g.2)) → (∀ i, i < j1 → N9 (20 * t1 + i) = g.1 4 (20 * 216 + i) ∧ D9 (20 * t1 + i) = g.1 5 (20 * 216 + i)) → (∀ i, (i < 20 * t1 ∨ 20 * t1 + 20 ≤ i) → N9 i = g.1 4 i ∧ D9 i = g.1 5 i) → ∀ ls, lv_has ls 4 [(3, .int (nI j1)), (0, .ref a), (1, .int 216), (2, .int (nI t1))] → W p l e (rmA 0 0 0) s m args below meth c H5 locs 0 0 Q (F0 m 2 ls []) := by
    intro k
    induction k with
    | zero => intro locs j1 N9 D9 H5 hlo hk hj1 M5 hN hO; exact absurd hk (by omega)
    | succ k ih =>
      intro locs j1 N9 D9 H5 hlo hk hj1 M5 hN hO ls hl
      have oM85 : hOb (eD E) classes H5 a 10 [.ref (ad 0), .int (nI (g.2 0)), .ref (ad 1), .int (nI (g.2 1)), .int (nI (g.2 2)), .ref (ad 2), .ref (ad 3), .ref (ad 4), .ref (ad 5), .ref (ad 6), .ref (ad 7), .ref (ad 8), .ref (ad 9), .ref (ad 10), .int (nI (g.2 3)), .int (nI (g.2 4)), .int (nI (g.2 5)), .int (nI (g.2 6)), .int (nI (g.2 7)), .ref (ad 11), .int (nI (g.2 8)), .int (nI (g.2 9)), .int (nI (g.2 10)), .ref (ad 12), .int (nI (g.2 11)), .ref (ad 13)] := M5.1.1
      refine lv_iload_n cx.x cx.b d_Mo_move_2 rfl (lv_at hl 0 rfl) ?_
      refine lv_bipush (v := 20) cx.x cx.b d_Mo_move_3 (by decide) ?_
      refine lv_icmp_ge (tgt := 58) cx.x cx.b d_Mo_move_5 (by decide) (fun c1 => ?_) (fun c1 => ?_)
      · have c1 : 20 ≤ j1 := (nI_leI (a := 20) (b := j1) (by omega) (by omega)).mp c1
        refine lv_aload_n cx.x cx.b d_Mo_move_58 rfl (lv_at hl 1 rfl) ?_
        refine gf_Mo_28_Mo cx oM85 rfl d_Mo_move_59 ?_
        refine lv_iload_n cx.x cx.b d_Mo_move_62 rfl (lv_at hl 3 rfl) ?_
        refine lv_aload_n cx.x cx.b d_Mo_move_63 rfl (lv_at hl 1 rfl) ?_
        refine gf_Mo_28_Mo cx oM85 rfl d_Mo_move_64 ?_
        refine lv_iload_n cx.x cx.b d_Mo_move_67 rfl (lv_at hl 2 rfl) ?_
        refine hx_iald cx.x cx.b cx.K 0 (M5.1.2.1 6 (by decide)) rfl (show vp_in (nI 216) 217 from vp_in_nI (show 216 < 217 by omega) (by decide)) d_Mo_move_68 ?_
        refine lv_topi (fun x86 e_x86 => ?_)
        have e_x86 : x86 = nI ((g.1 6) 216) := e_x86.trans (congrArg (fun z9 => nI ((g.1 6) z9)) (nI_clamp (n := 216) (by omega)))
        subst e_x86
        refine hx_iast cx.x cx.b cx.K 0 (M5.1.2.1 6 (by decide)) hlo (M5.1.2.2.2.1 6 (by decide)).1 rfl (show vp_in (nI t1) 217 from vp_in_nI (show t1 < 217 by omega) (by decide)) d_Mo_move_69 (fun H87 locs ha88 z_H87 o_H87 hlo => ?_)
        have M89 : Mw E H H87 a ad (up (up (up g.1 4 N9) 5 D9) 6 (updN (g.1 6) t1 ((g.1 6) 216)), g.2) := M5.ar (up (up (up g.1 4 N9) 5 D9) 6 (updN (g.1 6) t1 ((g.1 6) 216)), g.2) 6 (by decide) (by have h9 := ha88; rw [show (nI t1 : Int32).toNatClampNeg = t1 from nI_clamp (n := t1) (by omega)] at h9; have h9 : hAi H87 (ad 6) (eA E 0) (arL 6) (upd (fun i => nI ((g.1 6) i)) t1 (nI ((g.1 6) 216))) := h9; rw [upd_nI] at h9; exact h9) z_H87 o_H87 rfl (fun j hj hn => arN6 hj hn rfl rfl rfl rfl rfl rfl rfl rfl rfl rfl rfl rfl rfl)
        have oM90 : hOb (eD E) classes H87 a 10 [.ref (ad 0), .int (nI (g.2 0)), .ref (ad 1), .int (nI (g.2 1)), .int (nI (g.2 2)), .ref (ad 2), .ref (ad 3), .ref (ad 4), .ref (ad 5), .ref (ad 6), .ref (ad 7), .ref (ad 8), .ref (ad 9), .ref (ad 10), .int (nI (g.2 3)), .int (nI (g.2 4)), .int (nI (g.2 5)), .int (nI (g.2 6)), .int (nI (g.2 7)), .ref (ad 11), .int (nI (g.2 8)), .int (nI (g.2 9)), .int (nI (g.2 10)), .ref (ad 12), .int (nI (g.2 11)), .ref (ad 13)] := M89.1.1
        refine lv_aload_n cx.x cx.b d_Mo_move_70 rfl (lv_at hl 1 rfl) ?_
        refine gf_Mo_31_Mo cx oM90 rfl d_Mo_move_71 ?_
        refine lv_iload_n cx.x cx.b d_Mo_move_74 rfl (lv_at hl 3 rfl) ?_
        refine lv_aload_n cx.x cx.b d_Mo_move_75 rfl (lv_at hl 1 rfl) ?_
        refine gf_Mo_31_Mo cx oM90 rfl d_Mo_move_76 ?_
        refine lv_iload_n cx.x cx.b d_Mo_move_79 rfl (lv_at hl 2 rfl) ?_
        refine hx_iald cx.x cx.b cx.K 0 (M89.1.2.1 7 (by decide)) rfl (show vp_in (nI 216) 217 from vp_in_nI (show 216 < 217 by omega) (by decide)) d_Mo_move_80 ?_
        refine lv_topi (fun x91 e_x91 => ?_)
        have e_x91 : x91 = nI ((g.1 7) 216) := e_x91.trans (congrArg (fun z9 => nI ((g.1 7) z9)) (nI_clamp (n := 216) (by omega)))
        subst e_x91
        refine hx_iast cx.x cx.b cx.K 0 (M89.1.2.1 7 (by decide)) hlo (M89.1.2.2.2.1 7 (by decide)).1 rfl (show vp_in (nI t1) 217 from vp_in_nI (show t1 < 217 by omega) (by decide)) d_Mo_move_81 (fun H92 locs ha93 z_H92 o_H92 hlo => ?_)
        have M94 : Mw E H H92 a ad (up (up (up (up g.1 4 N9) 5 D9) 6 (updN (g.1 6) t1 ((g.1 6) 216))) 7 (updN (g.1 7) t1 ((g.1 7) 216)), g.2) := M89.ar (up (up (up (up g.1 4 N9) 5 D9) 6 (updN (g.1 6) t1 ((g.1 6) 216))) 7 (updN (g.1 7) t1 ((g.1 7) 216)), g.2) 7 (by decide) (by have h9 := ha93; rw [show (nI t1 : Int32).toNatClampNeg = t1 from nI_clamp (n := t1) (by omega)] at h9; have h9 : hAi H92 (ad 7) (eA E 0) (arL 7) (upd (fun i => nI ((g.1 7) i)) t1 (nI ((g.1 7) 216))) := h9; rw [upd_nI] at h9; exact h9) z_H92 o_H92 rfl (fun j hj hn => arN7 hj hn rfl rfl rfl rfl rfl rfl rfl rfl rfl rfl rfl rfl rfl)
        have oM95 : hOb (eD E) classes H92 a 10 [.ref (ad 0), .int (nI (g.2 0)), .ref (ad 1), .int (nI (g.2 1)), .int (nI (g.2 2)), .ref (ad 2), .ref (ad 3), .ref (ad 4), .ref (ad 5), .ref (ad 6), .ref (ad 7), .ref (ad 8), .ref (ad 9), .ref (ad 10), .int (nI (g.2 3)), .int (nI (g.2 4)), .int (nI (g.2 5)), .int (nI (g.2 6)), .int (nI (g.2 7)), .ref (ad 11), .int (nI (g.2 8)), .int (nI (g.2 9)), .int (nI (g.2 10)), .ref (ad 12), .int (nI (g.2 11)), .ref (ad 13)] := M94.1.1
        refine lv_aload_n cx.x cx.b d_Mo_move_82 rfl (lv_at hl 1 rfl) ?_
        refine gf_Mo_34_Mo cx oM95 rfl d_Mo_move_83 ?_
        refine lv_iload_n cx.x cx.b d_Mo_move_86 rfl (lv_at hl 3 rfl) ?_
        refine lv_aload_n cx.x cx.b d_Mo_move_87 rfl (lv_at hl 1 rfl) ?_
        refine gf_Mo_34_Mo cx oM95 rfl d_Mo_move_88 ?_
        refine lv_iload_n cx.x cx.b d_Mo_move_91 rfl (lv_at hl 2 rfl) ?_
        refine hx_iald cx.x cx.b cx.K 0 (M94.1.2.1 8 (by decide)) rfl (show vp_in (nI 216) 217 from vp_in_nI (show 216 < 217 by omega) (by decide)) d_Mo_move_92 ?_
        refine lv_topi (fun x96 e_x96 => ?_)
        have e_x96 : x96 = nI ((g.1 8) 216) := e_x96.trans (congrArg (fun z9 => nI ((g.1 8) z9)) (nI_clamp (n := 216) (by omega)))
        subst e_x96
        refine hx_iast cx.x cx.b cx.K 0 (M94.1.2.1 8 (by decide)) hlo (M94.1.2.2.2.1 8 (by decide)).1 rfl (show vp_in (nI t1) 217 from vp_in_nI (show t1 < 217 by omega) (by decide)) d_Mo_move_93 (fun H97 locs ha98 z_H97 o_H97 hlo => ?_)
        have M99 : Mw E H H97 a ad (up (up (up (up (up g.1 4 N9) 5 D9) 6 (updN (g.1 6) t1 ((g.1 6) 216))) 7 (updN (g.1 7) t1 ((g.1 7) 216))) 8 (updN (g.1 8) t1 ((g.1 8) 216)), g.2) := M94.ar (up (up (up (up (up g.1 4 N9) 5 D9) 6 (updN (g.1 6) t1 ((g.1 6) 216))) 7 (updN (g.1 7) t1 ((g.1 7) 216))) 8 (updN (g.1 8) t1 ((g.1 8) 216)), g.2) 8 (by decide) (by have h9 := ha98; rw [show (nI t1 : Int32).toNatClampNeg = t1 from nI_clamp (n := t1) (by omega)] at h9; have h9 : hAi H97 (ad 8) (eA E 0) (arL 8) (upd (fun i => nI ((g.1 8) i)) t1 (nI ((g.1 8) 216))) := h9; rw [upd_nI] at h9; exact h9) z_H97 o_H97 rfl (fun j hj hn => arN8 hj hn rfl rfl rfl rfl rfl rfl rfl rfl rfl rfl rfl rfl rfl)
        have oM100 : hOb (eD E) classes H97 a 10 [.ref (ad 0), .int (nI (g.2 0)), .ref (ad 1), .int (nI (g.2 1)), .int (nI (g.2 2)), .ref (ad 2), .ref (ad 3), .ref (ad 4), .ref (ad 5), .ref (ad 6), .ref (ad 7), .ref (ad 8), .ref (ad 9), .ref (ad 10), .int (nI (g.2 3)), .int (nI (g.2 4)), .int (nI (g.2 5)), .int (nI (g.2 6)), .int (nI (g.2 7)), .ref (ad 11), .int (nI (g.2 8)), .int (nI (g.2 9)), .int (nI (g.2 10)), .ref (ad 12), .int (nI (g.2 11)), .ref (ad 13)] := M99.1.1
        refine lv_aload_n cx.x cx.b d_Mo_move_94 rfl (lv_at hl 1 rfl) ?_
        refine gf_Mo_37_Mo cx oM100 rfl d_Mo_move_95 ?_
        refine lv_iload_n cx.x cx.b d_Mo_move_98 rfl (lv_at hl 3 rfl) ?_
        refine lv_aload_n cx.x cx.b d_Mo_move_99 rfl (lv_at hl 1 rfl) ?_
        refine gf_Mo_37_Mo cx oM100 rfl d_Mo_move_100 ?_
        refine lv_iload_n cx.x cx.b d_Mo_move_103 rfl (lv_at hl 2 rfl) ?_
        refine hx_iald cx.x cx.b cx.K 0 (M99.1.2.1 9 (by decide)) rfl (show vp_in (nI 216) 217 from vp_in_nI (show 216 < 217 by omega) (by decide)) d_Mo_move_104 ?_
        refine lv_topi (fun x101 e_x101 => ?_)
        have e_x101 : x101 = nI ((g.1 9) 216) := e_x101.trans (congrArg (fun z9 => nI ((g.1 9) z9)) (nI_clamp (n := 216) (by omega)))
        subst e_x101
        refine hx_iast cx.x cx.b cx.K 0 (M99.1.2.1 9 (by decide)) hlo (M99.1.2.2.2.1 9 (by decide)).1 rfl (show vp_in (nI t1) 217 from vp_in_nI (show t1 < 217 by omega) (by decide)) d_Mo_move_105 (fun H102 locs ha103 z_H102 o_H102 hlo => ?_)
        have M104 : Mw E H H102 a ad (up (up (up (up (up (up g.1 4 N9) 5 D9) 6 (updN (g.1 6) t1 ((g.1 6) 216))) 7 (updN (g.1 7) t1 ((g.1 7) 216))) 8 (updN (g.1 8) t1 ((g.1 8) 216))) 9 (updN (g.1 9) t1 ((g.1 9) 216)), g.2) := M99.ar (up (up (up (up (up (up g.1 4 N9) 5 D9) 6 (updN (g.1 6) t1 ((g.1 6) 216))) 7 (updN (g.1 7) t1 ((g.1 7) 216))) 8 (updN (g.1 8) t1 ((g.1 8) 216))) 9 (updN (g.1 9) t1 ((g.1 9) 216)), g.2) 9 (by decide) (by have h9 := ha103; rw [show (nI t1 : Int32).toNatClampNeg = t1 from nI_clamp (n := t1) (by omega)] at h9; have h9 : hAi H102 (ad 9) (eA E 0) (arL 9) (upd (fun i => nI ((g.1 9) i)) t1 (nI ((g.1 9) 216))) := h9; rw [upd_nI] at h9; exact h9) z_H102 o_H102 rfl (fun j hj hn => arN9 hj hn rfl rfl rfl rfl rfl rfl rfl rfl rfl rfl rfl rfl rfl)
        have oM105 : hOb (eD E) classes H102 a 10 [.ref (ad 0), .int (nI (g.2 0)), .ref (ad 1), .int (nI (g.2 1)), .int (nI (g.2 2)), .ref (ad 2), .ref (ad 3), .ref (ad 4), .ref (ad 5), .ref (ad 6), .ref (ad 7), .ref (ad 8), .ref (ad 9), .ref (ad 10), .int (nI (g.2 3)), .int (nI (g.2 4)), .int (nI (g.2 5)), .int (nI (g.2 6)), .int (nI (g.2 7)), .ref (ad 11), .int (nI (g.2 8)), .int (nI (g.2 9)), .int (nI (g.2 10)), .ref (ad 12), .int (nI (g.2 11)), .ref (ad 13)] := M104.1.1
        rw [← hQ]
        exact hx_retv cx.x cx.b cx.r cx.k hlo (fun _ h => h) (Nat.le_of_ble_eq_true rfl) (Nat.le_of_ble_eq_true rfl) d_Mo_move_106 (⟨_, M104, ⟨rfl, rfl, rfl, rfl, rfl⟩, rfl, fun x hx => ⟨⟨updN_s.trans hx.1.1, hx.1.2.1, fun i hi => (hN i (by have := hx.1.2.1; omega)).1.trans (hx.1.2.2.1 i hi), hx.1.2.2.2⟩, ⟨updN_s.trans hx.2.1.1, hx.2.1.2.1, fun i hi => (hN i (by have := hx.2.1.2.1; omega)).2.trans (hx.2.1.2.2.1 i hi), hx.2.1.2.2.2⟩, updN_s.trans hx.2.2.1, updN_s.trans hx.2.2.2.1, hx.2.2.2.2⟩, fun r hr hn => ⟨updN_n hn, updN_n hn, updN_n hn, updN_n hn, fun i hi => hO _ (by omega)⟩⟩)
      · have c1 : j1 < 20 := Nat.not_le.mp (fun zz => c1 ((nI_leI (a := 20) (b := j1) (by omega) (by omega)).mpr zz))
        refine lv_aload_n cx.x cx.b d_Mo_move_8 rfl (lv_at hl 1 rfl) ?_
        refine gf_Mo_22_Mo cx oM85 rfl d_Mo_move_9 ?_
        refine lv_bipush (v := 20) cx.x cx.b d_Mo_move_12 (by decide) ?_
        refine lv_iload_n cx.x cx.b d_Mo_move_14 rfl (lv_at hl 3 rfl) ?_
        refine lv_imul cx.x cx.b d_Mo_move_15 ?_
        refine lv_topi (fun x106 e_x106 => ?_)
        have e_x106 : x106 = nI (20 * t1) := e_x106.trans (pk_mul 20 t1)
        subst e_x106
        refine lv_iload_n cx.x cx.b d_Mo_move_16 rfl (lv_at hl 0 rfl) ?_
        refine lv_iadd cx.x cx.b d_Mo_move_17 ?_
        refine lv_topi (fun x107 e_x107 => ?_)
        have e_x107 : x107 = nI ((20 * t1) + j1) := e_x107.trans (nI_add (20 * t1) j1)
        subst e_x107
        refine lv_aload_n cx.x cx.b d_Mo_move_18 rfl (lv_at hl 1 rfl) ?_
        refine gf_Mo_22_Mo cx oM85 rfl d_Mo_move_19 ?_
        refine lv_bipush (v := 20) cx.x cx.b d_Mo_move_22 (by decide) ?_
        refine lv_iload_n cx.x cx.b d_Mo_move_24 rfl (lv_at hl 2 rfl) ?_
        refine lv_imul cx.x cx.b d_Mo_move_25 ?_
        refine lv_topi (fun x108 e_x108 => ?_)
        have e_x108 : x108 = nI (20 * 216) := e_x108.trans (pk_mul 20 216)
        subst e_x108
        refine lv_iload_n cx.x cx.b d_Mo_move_26 rfl (lv_at hl 0 rfl) ?_
        refine lv_iadd cx.x cx.b d_Mo_move_27 ?_
        refine lv_topi (fun x109 e_x109 => ?_)
        have e_x109 : x109 = nI ((20 * 216) + j1) := e_x109.trans (nI_add (20 * 216) j1)
        subst e_x109
        refine hx_iald cx.x cx.b cx.K 0 (M5.1.2.1 4 (by decide)) rfl (show vp_in (nI ((20 * 216) + j1)) 4340 from vp_in_nI (show ((20 * 216) + j1) < 4340 by omega) (by decide)) d_Mo_move_28 ?_
        refine lv_topi (fun x110 e_x110 => ?_)
        have e_x110 : x110 = nI (N9 ((20 * 216) + j1)) := e_x110.trans (congrArg (fun z9 => nI (N9 z9)) (nI_clamp (n := ((20 * 216) + j1)) (by omega)))
        subst e_x110
        refine hx_iast cx.x cx.b cx.K 0 (M5.1.2.1 4 (by decide)) hlo (M5.1.2.2.2.1 4 (by decide)).1 rfl (show vp_in (nI ((20 * t1) + j1)) 4340 from vp_in_nI (show ((20 * t1) + j1) < 4340 by omega) (by decide)) d_Mo_move_29 (fun H111 locs ha112 z_H111 o_H111 hlo => ?_)
        have M113 : Mw E H H111 a ad (up (up g.1 4 (updN N9 ((20 * t1) + j1) (N9 ((20 * 216) + j1)))) 5 D9, g.2) := M5.ar (up (up g.1 4 (updN N9 ((20 * t1) + j1) (N9 ((20 * 216) + j1)))) 5 D9, g.2) 4 (by decide) (by have h9 := ha112; rw [show (nI ((20 * t1) + j1) : Int32).toNatClampNeg = ((20 * t1) + j1) from nI_clamp (n := ((20 * t1) + j1)) (by omega)] at h9; have h9 : hAi H111 (ad 4) (eA E 0) (arL 4) (upd (fun i => nI (N9 i)) ((20 * t1) + j1) (nI (N9 ((20 * 216) + j1)))) := h9; rw [upd_nI] at h9; exact h9) z_H111 o_H111 rfl (fun j hj hn => arN4 hj hn rfl rfl rfl rfl rfl rfl rfl rfl rfl rfl rfl rfl rfl)
        have oM114 : hOb (eD E) classes H111 a 10 [.ref (ad 0), .int (nI (g.2 0)), .ref (ad 1), .int (nI (g.2 1)), .int (nI (g.2 2)), .ref (ad 2), .ref (ad 3), .ref (ad 4), .ref (ad 5), .ref (ad 6), .ref (ad 7), .ref (ad 8), .ref (ad 9), .ref (ad 10), .int (nI (g.2 3)), .int (nI (g.2 4)), .int (nI (g.2 5)), .int (nI (g.2 6)), .int (nI (g.2 7)), .ref (ad 11), .int (nI (g.2 8)), .int (nI (g.2 9)), .int (nI (g.2 10)), .ref (ad 12), .int (nI (g.2 11)), .ref (ad 13)] := M113.1.1
        refine lv_aload_n cx.x cx.b d_Mo_move_30 rfl (lv_at hl 1 rfl) ?_
        refine gf_Mo_25_Mo cx oM114 rfl d_Mo_move_31 ?_
        refine lv_bipush (v := 20) cx.x cx.b d_Mo_move_34 (by decide) ?_
        refine lv_iload_n cx.x cx.b d_Mo_move_36 rfl (lv_at hl 3 rfl) ?_
        refine lv_imul cx.x cx.b d_Mo_move_37 ?_
        refine lv_topi (fun x115 e_x115 => ?_)
        have e_x115 : x115 = nI (20 * t1) := e_x115.trans (pk_mul 20 t1)
        subst e_x115
        refine lv_iload_n cx.x cx.b d_Mo_move_38 rfl (lv_at hl 0 rfl) ?_
        refine lv_iadd cx.x cx.b d_Mo_move_39 ?_
        refine lv_topi (fun x116 e_x116 => ?_)
        have e_x116 : x116 = nI ((20 * t1) + j1) := e_x116.trans (nI_add (20 * t1) j1)
        subst e_x116
        refine lv_aload_n cx.x cx.b d_Mo_move_40 rfl (lv_at hl 1 rfl) ?_
        refine gf_Mo_25_Mo cx oM114 rfl d_Mo_move_41 ?_
        refine lv_bipush (v := 20) cx.x cx.b d_Mo_move_44 (by decide) ?_
        refine lv_iload_n cx.x cx.b d_Mo_move_46 rfl (lv_at hl 2 rfl) ?_
        refine lv_imul cx.x cx.b d_Mo_move_47 ?_
        refine lv_topi (fun x117 e_x117 => ?_)
        have e_x117 : x117 = nI (20 * 216) := e_x117.trans (pk_mul 20 216)
        subst e_x117
        refine lv_iload_n cx.x cx.b d_Mo_move_48 rfl (lv_at hl 0 rfl) ?_
        refine lv_iadd cx.x cx.b d_Mo_move_49 ?_
        refine lv_topi (fun x118 e_x118 => ?_)
        have e_x118 : x118 = nI ((20 * 216) + j1) := e_x118.trans (nI_add (20 * 216) j1)
        subst e_x118
        refine hx_iald cx.x cx.b cx.K 0 (M113.1.2.1 5 (by decide)) rfl (show vp_in (nI ((20 * 216) + j1)) 4340 from vp_in_nI (show ((20 * 216) + j1) < 4340 by omega) (by decide)) d_Mo_move_50 ?_
        refine lv_topi (fun x119 e_x119 => ?_)
        have e_x119 : x119 = nI (D9 ((20 * 216) + j1)) := e_x119.trans (congrArg (fun z9 => nI (D9 z9)) (nI_clamp (n := ((20 * 216) + j1)) (by omega)))
        subst e_x119
        refine hx_iast cx.x cx.b cx.K 0 (M113.1.2.1 5 (by decide)) hlo (M113.1.2.2.2.1 5 (by decide)).1 rfl (show vp_in (nI ((20 * t1) + j1)) 4340 from vp_in_nI (show ((20 * t1) + j1) < 4340 by omega) (by decide)) d_Mo_move_51 (fun H120 locs ha121 z_H120 o_H120 hlo => ?_)
        have M122 : Mw E H H120 a ad (up (up g.1 4 (updN N9 ((20 * t1) + j1) (N9 ((20 * 216) + j1)))) 5 (updN D9 ((20 * t1) + j1) (D9 ((20 * 216) + j1))), g.2) := M113.ar (up (up g.1 4 (updN N9 ((20 * t1) + j1) (N9 ((20 * 216) + j1)))) 5 (updN D9 ((20 * t1) + j1) (D9 ((20 * 216) + j1))), g.2) 5 (by decide) (by have h9 := ha121; rw [show (nI ((20 * t1) + j1) : Int32).toNatClampNeg = ((20 * t1) + j1) from nI_clamp (n := ((20 * t1) + j1)) (by omega)] at h9; have h9 : hAi H120 (ad 5) (eA E 0) (arL 5) (upd (fun i => nI (D9 i)) ((20 * t1) + j1) (nI (D9 ((20 * 216) + j1)))) := h9; rw [upd_nI] at h9; exact h9) z_H120 o_H120 rfl (fun j hj hn => arN5 hj hn rfl rfl rfl rfl rfl rfl rfl rfl rfl rfl rfl rfl rfl)
        have oM123 : hOb (eD E) classes H120 a 10 [.ref (ad 0), .int (nI (g.2 0)), .ref (ad 1), .int (nI (g.2 1)), .int (nI (g.2 2)), .ref (ad 2), .ref (ad 3), .ref (ad 4), .ref (ad 5), .ref (ad 6), .ref (ad 7), .ref (ad 8), .ref (ad 9), .ref (ad 10), .int (nI (g.2 3)), .int (nI (g.2 4)), .int (nI (g.2 5)), .int (nI (g.2 6)), .int (nI (g.2 7)), .ref (ad 11), .int (nI (g.2 8)), .int (nI (g.2 9)), .int (nI (g.2 10)), .ref (ad 12), .int (nI (g.2 11)), .ref (ad 13)] := M122.1.1
        obtain ⟨x124, e_x124⟩ : ∃ y : Int32, y = nI j1 + 1 := ⟨_, rfl⟩
        refine lv_iinc (v := x124) (lv' := [(3, .int x124), (0, .ref a), (1, .int 216), (2, .int (nI t1))]) cx.x cx.b d_Mo_move_52 hl (k := 0) rfl (by rw [e_x124]; rfl) (by decide) rfl (fun ls hl => ?_)
        have e_x124 : x124 = nI (j1 + 1) := e_x124.trans (nI_add j1 1)
        subst e_x124
        refine lv_goto (tgt := 2) cx.x cx.b d_Mo_move_55 (by decide) ?_
        exact ih _ (j1 + 1) _ _ _ hlo (by omega) (by omega) M122 (fun i hi => by by_cases e : i = j1; subst e; exact ⟨updN_s.trans (hO _ (by omega)).1, updN_s.trans (hO _ (by omega)).2⟩; have h9 := hN i (by omega); exact ⟨(updN_n (by omega)).trans h9.1, (updN_n (by omega)).trans h9.2⟩) (fun i hi => ⟨(updN_n (by omega)).trans (hO i hi).1, (updN_n (by omega)).trans (hO i hi).2⟩) _ (lv_sub hl [0, 1, 2, 3] rfl)
  refine lv_iconst (v := 0) cx.x cx.b d_Mo_move_0 (by decide) ?_
  refine lv_istore_n (lv' := [(3, .int 0), (0, .ref a), (1, .int 216), (2, .int (nI t1))]) cx.x cx.b d_Mo_move_1 rfl hl (by decide) rfl (fun ls hl => ?_)
  exact LP _ _ 0 (g.1 4) (g.1 5) _ hlo (Nat.lt_succ_self _) (by omega) (Mw.cg M0 rfl rfl rfl rfl rfl rfl rfl rfl rfl rfl rfl rfl rfl rfl rfl rfl rfl rfl rfl rfl rfl rfl rfl rfl rfl rfl) (fun i hi => absurd hi (Nat.not_lt_zero i)) (fun i _ => ⟨rfl, rfl⟩) _ (lv_sub hl [0, 1, 2, 3] rfl)
