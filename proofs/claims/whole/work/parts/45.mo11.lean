theorem sx8 (v : BitVec 64) (s : Nat) (hs : s + 8 ≤ 64) : (v.sshiftRight s &&& 255#64).toNat = v.toNat / 2 ^ s % 256 := by
  have e : v.sshiftRight s &&& 255#64 = v >>> s &&& 255#64 := by
    apply BitVec.eq_of_getLsbD_eq
    intro i hi
    rw [BitVec.getLsbD_and, BitVec.getLsbD_and, BitVec.getLsbD_sshiftRight, BitVec.getLsbD_ushiftRight]
    by_cases c : i < 8
    · rw [if_pos (by omega)]
      simp [hi, show ¬ 64 ≤ i by omega]
    · have : (255#64).getLsbD i = false := by
        rw [BitVec.getLsbD_ofNat, Nat.testBit_lt_two_pow (Nat.lt_of_lt_of_le (by decide : 255 < 2 ^ 8) (Nat.pow_le_pow_right (by decide) (by omega)))]
        simp
      rw [this, Bool.and_false, Bool.and_false]
  rw [e, BitVec.toNat_and, BitVec.toNat_ushiftRight, Nat.shiftRight_eq_div_pow]
  exact Nat.and_two_pow_sub_one_eq_mod (v.toNat / 2 ^ s) 8
theorem shm8 : ∀ k, k < 8 → (((nI (8 * k)).toInt64 &&& 63).toBitVec.smod 64).toNat = 8 * k := by decide +kernel
theorem byt_mod (v : Int64) {k : Nat} (hk : k < 8) : (v >>> ((nI (8 * k)).toInt64 &&& 63) &&& 255).toInt32 = nI (byt v k) := by
  have h := shm8 k hk
  generalize (nI (8 * k)).toInt64 &&& 63 = z at h
  have e1 : (v >>> z &&& 255).toBitVec.toNat = byt v k := by
    rw [Int64.toBitVec_and, Int64.toBitVec_shiftRight, BitVec.sshiftRight_eq']
    have : z.toBitVec.smod 64 = BitVec.ofNat 64 (8 * k) := BitVec.eq_of_toNat_eq (by rw [h, BitVec.toNat_ofNat]; omega)
    rw [h]
    exact sx8 v.toBitVec (8 * k) (by omega)
  apply Int32.toBitVec_inj.mp
  apply BitVec.eq_of_toNat_eq
  rw [Int64.toBitVec_toInt32, BitVec.signExtend_eq_setWidth_of_le _ (by decide), BitVec.toNat_setWidth, e1]
  show byt v k % 2 ^ 32 = (BitVec.ofNat 32 (byt v k)).toNat
  rw [BitVec.toNat_ofNat]
theorem w3 {w : Int32} (h1 : ¬ w < -1) (h2 : w ≤ 1) : w = -1 ∨ w = 0 ∨ w = 1 := by
  rw [Int32.lt_iff_toInt_lt] at h1
  rw [Int32.le_iff_toInt_le] at h2
  have e1 : (-1 : Int32).toInt = -1 := by decide
  have e2 : (1 : Int32).toInt = 1 := by decide
  have e0 : (0 : Int32).toInt = 0 := by decide
  rw [← Int32.toInt_inj, ← Int32.toInt_inj, ← Int32.toInt_inj, e0, e1, e2]
  rw [e1] at h1
  rw [e2] at h2
  omega
theorem q3 {w : Int32} (h1 : ¬ w < 0) (h2 : w ≤ 2) : w = 0 ∨ w = 1 ∨ w = 2 := by
  rw [Int32.lt_iff_toInt_lt] at h1
  rw [Int32.le_iff_toInt_le] at h2
  have e1 : (2 : Int32).toInt = 2 := by decide
  have e2 : (1 : Int32).toInt = 1 := by decide
  have e0 : (0 : Int32).toInt = 0 := by decide
  rw [← Int32.toInt_inj, ← Int32.toInt_inj, ← Int32.toInt_inj, e0, e1, e2]
  rw [e0] at h1
  rw [e1] at h2
  omega
theorem chC_no {o : Option DV} {w i : Int32} (h1 : w ≠ -1) (h2 : w ≠ 0) (h3 : w ≠ 1) : chC o w i = -1 := by
  unfold chC
  cases o with
  | none => rfl
  | some d => simp only; rw [if_neg h1, if_neg h2, if_neg h3]
set_option maxHeartbeats 4000000 in
set_option maxRecDepth 100000 in
theorem c_Mo_character (l : Launch) {E : hE} (hE : EnvOk E) {H : Heap} {a : Nat} {ad : Nat → Nat} {g : MS} (M : Mo E H a ad g) (hcr : g.2 2 = 0 ∨ g.2 2 = 1) {b : Nat} (hb : b < 2) {U C : List TU} (hU : Rows g.1 (if g.2 2 = 0 then b else 1 - b) U) (hC : Srt C U) (hd : ∀ u ∈ U, u.2.Pairwise (fun a b => cmpD a b ≠ 0)) (t x w i : Int32) : Ct l E y_Mo_character b_Mo_character 7 (some .int) (rmA 4 0 0) [.ref a, .int (nI b), .int t, .int x, .int w, .int i] H (hQi (fun r H1 => r = chC (if w = -1 then (tyC C t.toInt).map (·.1) else (tyC C t.toInt).bind (fun c => mbC c.2 x.toInt)) w i ∧ H1 = H)) := by
  refine hx_enter hE (by decide) (Nat.le_of_ble_eq_true rfl) ?_
  intro p e s m args below meth c ls cx hnm hl
  have hl : lv_has ls 7 [(0, .ref a), (1, .int (nI b)), (2, .int t), (3, .int x), (4, .int w), (5, .int i)] := hl
  have hlo : hLo (eB E) [] := hLo.nil
  generalize hQ : MQ below _ args s _ _ _ = Q
  have M0 : Mw E H H a ad g := ⟨M, hCh.rf, rfl⟩
  have hU0 := hU
  have hb1 : (if g.2 2 = 0 then b else 1 - b) < 2 := by by_cases c : (g.2 2) = 0; rw [if_pos c]; exact hb; rw [if_neg c]; omega
  have hsd := c_Mo_side l hE M hcr hb
  refine lv_iload_n cx.x cx.b d_Mo_character_0 rfl (lv_at hl 1 rfl) ?_
  refine hx_calli (iv_Mo_173 cx (c_Mo_none l hE (H := H) (nI b)) rfl hl.1 rfl (Nat.le_of_ble_eq_true rfl) d_Mo_character_1 ⟨Nat.le_of_ble_eq_true rfl, Nat.le_of_ble_eq_true rfl⟩ ⟨Nat.le_of_ble_eq_true rfl, Nat.le_of_ble_eq_true rfl⟩) hlo (fun _ h => h) (fun r3 H2 locs hp1 hlo => ?_)
  obtain ⟨hp1, hH9⟩ := hp1
  have hH9 := hH9.symm
  subst hH9
  rw [show decide (¬ (nI b = 0 ∨ nI b = 1)) = false from decide_eq_false (fun z => z (by rcases (show b = 0 ∨ b = 1 by omega) with e | e; rw [e]; exact Or.inl rfl; rw [e]; exact Or.inr rfl))] at hp1
  subst hp1
  refine lv_if_ne (tgt := 19) cx.x cx.b d_Mo_character_4 (by decide) (fun c => absurd (by decide) c) (fun _ => ?_)
  refine lv_iload cx.x cx.b d_Mo_character_7 (lv_at hl 4 rfl) ?_
  refine lv_iconst (v := (-1)) cx.x cx.b d_Mo_character_9 (by decide) ?_
  refine lv_icmp_lt (tgt := 19) cx.x cx.b d_Mo_character_10 (by decide) (fun g1 => ?_) (fun g1 => ?_)
  · rw [chC_no (fun z => by rw [z] at g1; exact absurd g1 (by decide)) (fun z => by rw [z] at g1; exact absurd g1 (by decide)) (fun z => by rw [z] at g1; exact absurd g1 (by decide))] at hQ
    refine lv_iconst (v := (-1)) cx.x cx.b d_Mo_character_19 (by decide) ?_
    rw [← hQ]
    exact hx_reti cx.x cx.b cx.r cx.k rfl hlo (fun _ h => h) (Nat.le_of_ble_eq_true rfl) (Nat.le_of_ble_eq_true rfl) d_Mo_character_20 (⟨rfl, rfl⟩)
  · refine lv_iload cx.x cx.b d_Mo_character_13 (lv_at hl 4 rfl) ?_
    refine lv_iconst (v := 1) cx.x cx.b d_Mo_character_15 (by decide) ?_
    refine lv_icmp_le (tgt := 21) cx.x cx.b d_Mo_character_16 (by decide) (fun g2 => ?_) (fun g2 => ?_)
    · rcases w3 g1 g2 with rfl | rfl | rfl
      · rw [if_pos rfl] at hQ
        generalize (if g.2 2 = 0 then b else 1 - b) = b1 at *
        refine lv_iload cx.x cx.b d_Mo_character_21 (lv_at hl 4 rfl) ?_
        refine lv_if_ge (tgt := 39) cx.x cx.b d_Mo_character_23 (by decide) (fun c => absurd c (by decide)) (fun _ => ?_)
        refine lv_aload_n cx.x cx.b d_Mo_character_26 rfl (lv_at hl 0 rfl) ?_
        refine lv_aload_n cx.x cx.b d_Mo_character_27 rfl (lv_at hl 0 rfl) ?_
        refine lv_iload_n cx.x cx.b d_Mo_character_28 rfl (lv_at hl 1 rfl) ?_
        refine hx_calli (iv_Mo_176_Mo cx (hsd) M0.1.1 rfl hl.1 rfl (Nat.le_of_ble_eq_true rfl) d_Mo_character_29 ⟨Nat.le_of_ble_eq_true rfl, Nat.le_of_ble_eq_true rfl⟩ ⟨Nat.le_of_ble_eq_true rfl, Nat.le_of_ble_eq_true rfl⟩) hlo (fun _ h => h) (fun r6 H5 locs hp4 hlo => ?_)
        obtain ⟨hp4, hH9⟩ := hp4
        have hH9 := hH9.symm
        subst hH9
        subst hp4
        refine lv_iload_n cx.x cx.b d_Mo_character_32 rfl (lv_at hl 2 rfl) ?_
        refine hx_calli (iv_Mo_217_Mo cx (c_Mo_typeRow l hE M hb1 hU hC t) M0.1.1 rfl hl.1 rfl (Nat.le_of_ble_eq_true rfl) d_Mo_character_33 ⟨Nat.le_of_ble_eq_true rfl, Nat.le_of_ble_eq_true rfl⟩ ⟨Nat.le_of_ble_eq_true rfl, Nat.le_of_ble_eq_true rfl⟩) hlo (fun _ h => h) (fun r9 H8 locs hp7 hlo => ?_)
        obtain ⟨hp7, hH9⟩ := hp7
        have hH9 := hH9.symm
        subst hH9
        have hrt := hp7
        have hl12 := hU.2.1
        rcases hty : tyC C t.toInt with _ | c1
        · rw [hty] at hrt
          have hrt : r9 = -1 := hrt
          subst hrt
          rw [hty] at hQ
          refine lv_goto (tgt := 46) cx.x cx.b d_Mo_character_36 (by decide) ?_
          refine lv_istore (lv' := [(6, .int (-1)), (0, .ref a), (1, .int (nI b)), (2, .int t), (3, .int x), (4, .int (-1)), (5, .int i)]) cx.x cx.b d_Mo_character_46 hl (by decide) rfl (fun ls hl => ?_)
          refine lv_iload cx.x cx.b d_Mo_character_48 (lv_at hl 0 rfl) ?_
          refine lv_if_lt (tgt := 86) cx.x cx.b d_Mo_character_50 (by decide) (fun _ => ?_) (fun c => absurd (by decide) c)
          refine lv_iconst (v := (-1)) cx.x cx.b d_Mo_character_86 (by decide) ?_
          rw [← hQ]
          exact hx_reti cx.x cx.b cx.r cx.k rfl hlo (fun _ h => h) (Nat.le_of_ble_eq_true rfl) (Nat.le_of_ble_eq_true rfl) d_Mo_character_87 (⟨rfl, rfl⟩)
        · rw [hty] at hrt
          obtain ⟨k1, hk1, hc1, hrt⟩ := hrt
          subst hrt
          rw [hty] at hQ
          subst hc1
          obtain ⟨u1, u2, u3, u4⟩ := hU.2.2 k1 hk1
          rw [show chC (Option.map (·.1) (some (srU (U.getD k1 default)))) (-1) i = atI (U.getD k1 default).1.1 i from rfl] at hQ
          unfold atI at hQ
          refine lv_goto (tgt := 46) cx.x cx.b d_Mo_character_36 (by decide) ?_
          refine lv_istore (lv' := [(6, .int (nI (108 * b1 + k1))), (0, .ref a), (1, .int (nI b)), (2, .int t), (3, .int x), (4, .int (-1)), (5, .int i)]) cx.x cx.b d_Mo_character_46 hl (by decide) rfl (fun ls hl => ?_)
          refine lv_iload cx.x cx.b d_Mo_character_48 (lv_at hl 0 rfl) ?_
          refine lv_if_lt (tgt := 86) cx.x cx.b d_Mo_character_50 (by decide) (fun c => absurd c (nI_pos (by omega))) (fun _ => ?_)
          refine lv_iload cx.x cx.b d_Mo_character_53 (lv_at hl 6 rfl) ?_
          refine lv_if_lt (tgt := 86) cx.x cx.b d_Mo_character_55 (by decide) (fun g3 => ?_) (fun g3 => ?_)
          · rw [if_pos g3] at hQ
            refine lv_iconst (v := (-1)) cx.x cx.b d_Mo_character_86 (by decide) ?_
            rw [← hQ]
            exact hx_reti cx.x cx.b cx.r cx.k rfl hlo (fun _ h => h) (Nat.le_of_ble_eq_true rfl) (Nat.le_of_ble_eq_true rfl) d_Mo_character_87 (⟨rfl, rfl⟩)
          · rw [if_neg g3] at hQ
            refine lv_iload cx.x cx.b d_Mo_character_58 (lv_at hl 6 rfl) ?_
            refine lv_iload cx.x cx.b d_Mo_character_60 (lv_at hl 5 rfl) ?_
            refine lv_iconst (v := 1) cx.x cx.b d_Mo_character_62 (by decide) ?_
            refine lv_icmp_ne (tgt := 76) cx.x cx.b d_Mo_character_63 (by decide) (fun _ => ?_) (fun c => absurd c (by decide))
            refine lv_aload_n cx.x cx.b d_Mo_character_76 rfl (lv_at hl 1 rfl) ?_
            refine gf_Mo_28_Mo cx M0.1.1 rfl d_Mo_character_77 ?_
            refine lv_iload cx.x cx.b d_Mo_character_80 (lv_at hl 0 rfl) ?_
            refine hx_iald cx.x cx.b cx.K 0 (M0.1.2.1 6 (by decide)) rfl (show vp_in (nI (108 * b1 + k1)) 217 from vp_in_nI (show (108 * b1 + k1) < 217 by omega) (by decide)) d_Mo_character_82 ?_
            refine lv_topi (fun x10 e_x10 => ?_)
            have e_x10 : x10 = nI ((U.getD k1 default).1.1.length) := e_x10.trans (congrArg nI ((congrArg (g.1 6) (nI_clamp (n := (108 * b1 + k1)) (by omega))).trans (u1.1.1)))
            subst e_x10
            refine lv_icmp_lt (tgt := 88) cx.x cx.b d_Mo_character_83 (by decide) (fun g4 => ?_) (fun g4 => ?_)
            · rw [if_neg (Int32.not_le.mpr g4)] at hQ
              have hl20 := u1.1.2.1
              rcases pk_ix i (n := (U.getD k1 default).1.1.length) (by omega) with z | z | ⟨j, hj, z⟩
              · exact absurd z g3
              · exact absurd g4 (Int32.not_lt.mpr z)
              subst z
              rw [nI_clamp (by omega)] at hQ
              refine lv_iload cx.x cx.b d_Mo_character_88 (lv_at hl 5 rfl) ?_
              refine lv_iconst (v := 1) cx.x cx.b d_Mo_character_90 (by decide) ?_
              refine lv_icmp_ne (tgt := 110) cx.x cx.b d_Mo_character_91 (by decide) (fun _ => ?_) (fun c => absurd c (by decide))
              refine lv_aload_n cx.x cx.b d_Mo_character_110 rfl (lv_at hl 1 rfl) ?_
              refine gf_Mo_22_Mo cx M0.1.1 rfl d_Mo_character_111 ?_
              refine lv_bipush (v := 20) cx.x cx.b d_Mo_character_114 (by decide) ?_
              refine lv_iload cx.x cx.b d_Mo_character_116 (lv_at hl 0 rfl) ?_
              refine lv_imul cx.x cx.b d_Mo_character_118 ?_
              refine lv_topi (fun x11 e_x11 => ?_)
              have e_x11 : x11 = nI (20 * (108 * b1 + k1)) := e_x11.trans (pk_mul 20 (108 * b1 + k1))
              subst e_x11
              refine lv_iload cx.x cx.b d_Mo_character_119 (lv_at hl 6 rfl) ?_
              refine lv_iadd cx.x cx.b d_Mo_character_121 ?_
              refine lv_topi (fun x12 e_x12 => ?_)
              have e_x12 : x12 = nI ((20 * (108 * b1 + k1)) + j) := e_x12.trans (nI_add (20 * (108 * b1 + k1)) j)
              subst e_x12
              refine hx_iald cx.x cx.b cx.K 0 (M0.1.2.1 4 (by decide)) rfl (show vp_in (nI ((20 * (108 * b1 + k1)) + j)) 4340 from vp_in_nI (show ((20 * (108 * b1 + k1)) + j) < 4340 by omega) (by decide)) d_Mo_character_122 ?_
              refine lv_topi (fun x13 e_x13 => ?_)
              have e_x13 : x13 = nI ((U.getD k1 default).1.1.getD j 0) := e_x13.trans (congrArg nI ((congrArg (g.1 4) (nI_clamp (n := ((20 * (108 * b1 + k1)) + j)) (by omega))).trans (u1.1.2.2.1 j hj)))
              subst e_x13
              rw [← hQ]
              exact hx_reti cx.x cx.b cx.r cx.k rfl hlo (fun _ h => h) (Nat.le_of_ble_eq_true rfl) (Nat.le_of_ble_eq_true rfl) d_Mo_character_123 (⟨rfl, rfl⟩)
            · rw [if_pos (Int32.not_lt.mp g4)] at hQ
              refine lv_iconst (v := (-1)) cx.x cx.b d_Mo_character_86 (by decide) ?_
              rw [← hQ]
              exact hx_reti cx.x cx.b cx.r cx.k rfl hlo (fun _ h => h) (Nat.le_of_ble_eq_true rfl) (Nat.le_of_ble_eq_true rfl) d_Mo_character_87 (⟨rfl, rfl⟩)
      · rw [if_neg (by decide)] at hQ
        refine lv_iload cx.x cx.b d_Mo_character_21 (lv_at hl 4 rfl) ?_
        refine lv_if_ge (tgt := 39) cx.x cx.b d_Mo_character_23 (by decide) (fun _ => ?_) (fun c => absurd (by decide) c)
        refine lv_aload_n cx.x cx.b d_Mo_character_39 rfl (lv_at hl 0 rfl) ?_
        refine lv_iload_n cx.x cx.b d_Mo_character_40 rfl (lv_at hl 1 rfl) ?_
        refine lv_iload_n cx.x cx.b d_Mo_character_41 rfl (lv_at hl 2 rfl) ?_
        refine lv_iload_n cx.x cx.b d_Mo_character_42 rfl (lv_at hl 3 rfl) ?_
        refine hx_calli (iv_Mo_230_Mo cx (c_Mo_memberAt l hE M hcr hb hU hC hd t x) M0.1.1 rfl hl.1 rfl (Nat.le_of_ble_eq_true rfl) d_Mo_character_43 ⟨Nat.le_of_ble_eq_true rfl, Nat.le_of_ble_eq_true rfl⟩ ⟨Nat.le_of_ble_eq_true rfl, Nat.le_of_ble_eq_true rfl⟩) hlo (fun _ h => h) (fun r16 H15 locs hp14 hlo => ?_)
        obtain ⟨hp14, hH9⟩ := hp14
        have hH9 := hH9.symm
        subst hH9
        have hro := hp14
        generalize (tyC C t.toInt).bind (fun c => mbC c.2 x.toInt) = o9 at hro hQ
        rcases o9 with _ | d1
        · have hro : r16 = -1 := hro
          subst hro
          refine lv_istore (lv' := [(6, .int (-1)), (0, .ref a), (1, .int (nI b)), (2, .int t), (3, .int x), (4, .int 0), (5, .int i)]) cx.x cx.b d_Mo_character_46 hl (by decide) rfl (fun ls hl => ?_)
          refine lv_iload cx.x cx.b d_Mo_character_48 (lv_at hl 0 rfl) ?_
          refine lv_if_lt (tgt := 86) cx.x cx.b d_Mo_character_50 (by decide) (fun _ => ?_) (fun c => absurd (by decide) c)
          refine lv_iconst (v := (-1)) cx.x cx.b d_Mo_character_86 (by decide) ?_
          rw [← hQ]
          exact hx_reti cx.x cx.b cx.r cx.k rfl hlo (fun _ h => h) (Nat.le_of_ble_eq_true rfl) (Nat.le_of_ble_eq_true rfl) d_Mo_character_87 (⟨rfl, rfl⟩)
        · obtain ⟨k1, hk1, u1, hro⟩ := hro
          subst hro
          rw [show chC (some d1) 0 i = atI d1.1 i from rfl] at hQ
          unfold atI at hQ
          refine lv_istore (lv' := [(6, .int (nI k1)), (0, .ref a), (1, .int (nI b)), (2, .int t), (3, .int x), (4, .int 0), (5, .int i)]) cx.x cx.b d_Mo_character_46 hl (by decide) rfl (fun ls hl => ?_)
          refine lv_iload cx.x cx.b d_Mo_character_48 (lv_at hl 0 rfl) ?_
          refine lv_if_lt (tgt := 86) cx.x cx.b d_Mo_character_50 (by decide) (fun c => absurd c (nI_pos (by omega))) (fun _ => ?_)
          refine lv_iload cx.x cx.b d_Mo_character_53 (lv_at hl 6 rfl) ?_
          refine lv_if_lt (tgt := 86) cx.x cx.b d_Mo_character_55 (by decide) (fun g3 => ?_) (fun g3 => ?_)
          · rw [if_pos g3] at hQ
            refine lv_iconst (v := (-1)) cx.x cx.b d_Mo_character_86 (by decide) ?_
            rw [← hQ]
            exact hx_reti cx.x cx.b cx.r cx.k rfl hlo (fun _ h => h) (Nat.le_of_ble_eq_true rfl) (Nat.le_of_ble_eq_true rfl) d_Mo_character_87 (⟨rfl, rfl⟩)
          · rw [if_neg g3] at hQ
            refine lv_iload cx.x cx.b d_Mo_character_58 (lv_at hl 6 rfl) ?_
            refine lv_iload cx.x cx.b d_Mo_character_60 (lv_at hl 5 rfl) ?_
            refine lv_iconst (v := 1) cx.x cx.b d_Mo_character_62 (by decide) ?_
            refine lv_icmp_ne (tgt := 76) cx.x cx.b d_Mo_character_63 (by decide) (fun _ => ?_) (fun c => absurd c (by decide))
            refine lv_aload_n cx.x cx.b d_Mo_character_76 rfl (lv_at hl 1 rfl) ?_
            refine gf_Mo_28_Mo cx M0.1.1 rfl d_Mo_character_77 ?_
            refine lv_iload cx.x cx.b d_Mo_character_80 (lv_at hl 0 rfl) ?_
            refine hx_iald cx.x cx.b cx.K 0 (M0.1.2.1 6 (by decide)) rfl (show vp_in (nI k1) 217 from vp_in_nI (show k1 < 217 by omega) (by decide)) d_Mo_character_82 ?_
            refine lv_topi (fun x17 e_x17 => ?_)
            have e_x17 : x17 = nI d1.1.length := e_x17.trans (congrArg nI ((congrArg (g.1 6) (nI_clamp (n := k1) (by omega))).trans (u1.1.1)))
            subst e_x17
            refine lv_icmp_lt (tgt := 88) cx.x cx.b d_Mo_character_83 (by decide) (fun g4 => ?_) (fun g4 => ?_)
            · rw [if_neg (Int32.not_le.mpr g4)] at hQ
              have hl20 := u1.1.2.1
              rcases pk_ix i (n := d1.1.length) (by omega) with z | z | ⟨j, hj, z⟩
              · exact absurd z g3
              · exact absurd g4 (Int32.not_lt.mpr z)
              subst z
              rw [nI_clamp (by omega)] at hQ
              refine lv_iload cx.x cx.b d_Mo_character_88 (lv_at hl 5 rfl) ?_
              refine lv_iconst (v := 1) cx.x cx.b d_Mo_character_90 (by decide) ?_
              refine lv_icmp_ne (tgt := 110) cx.x cx.b d_Mo_character_91 (by decide) (fun _ => ?_) (fun c => absurd c (by decide))
              refine lv_aload_n cx.x cx.b d_Mo_character_110 rfl (lv_at hl 1 rfl) ?_
              refine gf_Mo_22_Mo cx M0.1.1 rfl d_Mo_character_111 ?_
              refine lv_bipush (v := 20) cx.x cx.b d_Mo_character_114 (by decide) ?_
              refine lv_iload cx.x cx.b d_Mo_character_116 (lv_at hl 0 rfl) ?_
              refine lv_imul cx.x cx.b d_Mo_character_118 ?_
              refine lv_topi (fun x18 e_x18 => ?_)
              have e_x18 : x18 = nI (20 * k1) := e_x18.trans (pk_mul 20 k1)
              subst e_x18
              refine lv_iload cx.x cx.b d_Mo_character_119 (lv_at hl 6 rfl) ?_
              refine lv_iadd cx.x cx.b d_Mo_character_121 ?_
              refine lv_topi (fun x19 e_x19 => ?_)
              have e_x19 : x19 = nI ((20 * k1) + j) := e_x19.trans (nI_add (20 * k1) j)
              subst e_x19
              refine hx_iald cx.x cx.b cx.K 0 (M0.1.2.1 4 (by decide)) rfl (show vp_in (nI ((20 * k1) + j)) 4340 from vp_in_nI (show ((20 * k1) + j) < 4340 by omega) (by decide)) d_Mo_character_122 ?_
              refine lv_topi (fun x20 e_x20 => ?_)
              have e_x20 : x20 = nI (d1.1.getD j 0) := e_x20.trans (congrArg nI ((congrArg (g.1 4) (nI_clamp (n := ((20 * k1) + j)) (by omega))).trans (u1.1.2.2.1 j hj)))
              subst e_x20
              rw [← hQ]
              exact hx_reti cx.x cx.b cx.r cx.k rfl hlo (fun _ h => h) (Nat.le_of_ble_eq_true rfl) (Nat.le_of_ble_eq_true rfl) d_Mo_character_123 (⟨rfl, rfl⟩)
            · rw [if_pos (Int32.not_lt.mp g4)] at hQ
              refine lv_iconst (v := (-1)) cx.x cx.b d_Mo_character_86 (by decide) ?_
              rw [← hQ]
              exact hx_reti cx.x cx.b cx.r cx.k rfl hlo (fun _ h => h) (Nat.le_of_ble_eq_true rfl) (Nat.le_of_ble_eq_true rfl) d_Mo_character_87 (⟨rfl, rfl⟩)
      · rw [if_neg (by decide)] at hQ
        refine lv_iload cx.x cx.b d_Mo_character_21 (lv_at hl 4 rfl) ?_
        refine lv_if_ge (tgt := 39) cx.x cx.b d_Mo_character_23 (by decide) (fun _ => ?_) (fun c => absurd (by decide) c)
        refine lv_aload_n cx.x cx.b d_Mo_character_39 rfl (lv_at hl 0 rfl) ?_
        refine lv_iload_n cx.x cx.b d_Mo_character_40 rfl (lv_at hl 1 rfl) ?_
        refine lv_iload_n cx.x cx.b d_Mo_character_41 rfl (lv_at hl 2 rfl) ?_
        refine lv_iload_n cx.x cx.b d_Mo_character_42 rfl (lv_at hl 3 rfl) ?_
        refine hx_calli (iv_Mo_230_Mo cx (c_Mo_memberAt l hE M hcr hb hU hC hd t x) M0.1.1 rfl hl.1 rfl (Nat.le_of_ble_eq_true rfl) d_Mo_character_43 ⟨Nat.le_of_ble_eq_true rfl, Nat.le_of_ble_eq_true rfl⟩ ⟨Nat.le_of_ble_eq_true rfl, Nat.le_of_ble_eq_true rfl⟩) hlo (fun _ h => h) (fun r23 H22 locs hp21 hlo => ?_)
        obtain ⟨hp21, hH9⟩ := hp21
        have hH9 := hH9.symm
        subst hH9
        have hro := hp21
        generalize (tyC C t.toInt).bind (fun c => mbC c.2 x.toInt) = o9 at hro hQ
        rcases o9 with _ | d1
        · have hro : r23 = -1 := hro
          subst hro
          refine lv_istore (lv' := [(6, .int (-1)), (0, .ref a), (1, .int (nI b)), (2, .int t), (3, .int x), (4, .int 1), (5, .int i)]) cx.x cx.b d_Mo_character_46 hl (by decide) rfl (fun ls hl => ?_)
          refine lv_iload cx.x cx.b d_Mo_character_48 (lv_at hl 0 rfl) ?_
          refine lv_if_lt (tgt := 86) cx.x cx.b d_Mo_character_50 (by decide) (fun _ => ?_) (fun c => absurd (by decide) c)
          refine lv_iconst (v := (-1)) cx.x cx.b d_Mo_character_86 (by decide) ?_
          rw [← hQ]
          exact hx_reti cx.x cx.b cx.r cx.k rfl hlo (fun _ h => h) (Nat.le_of_ble_eq_true rfl) (Nat.le_of_ble_eq_true rfl) d_Mo_character_87 (⟨rfl, rfl⟩)
        · obtain ⟨k1, hk1, u1, hro⟩ := hro
          subst hro
          rw [show chC (some d1) 1 i = atI d1.2.1 i from rfl] at hQ
          unfold atI at hQ
          refine lv_istore (lv' := [(6, .int (nI k1)), (0, .ref a), (1, .int (nI b)), (2, .int t), (3, .int x), (4, .int 1), (5, .int i)]) cx.x cx.b d_Mo_character_46 hl (by decide) rfl (fun ls hl => ?_)
          refine lv_iload cx.x cx.b d_Mo_character_48 (lv_at hl 0 rfl) ?_
          refine lv_if_lt (tgt := 86) cx.x cx.b d_Mo_character_50 (by decide) (fun c => absurd c (nI_pos (by omega))) (fun _ => ?_)
          refine lv_iload cx.x cx.b d_Mo_character_53 (lv_at hl 6 rfl) ?_
          refine lv_if_lt (tgt := 86) cx.x cx.b d_Mo_character_55 (by decide) (fun g3 => ?_) (fun g3 => ?_)
          · rw [if_pos g3] at hQ
            refine lv_iconst (v := (-1)) cx.x cx.b d_Mo_character_86 (by decide) ?_
            rw [← hQ]
            exact hx_reti cx.x cx.b cx.r cx.k rfl hlo (fun _ h => h) (Nat.le_of_ble_eq_true rfl) (Nat.le_of_ble_eq_true rfl) d_Mo_character_87 (⟨rfl, rfl⟩)
          · rw [if_neg g3] at hQ
            refine lv_iload cx.x cx.b d_Mo_character_58 (lv_at hl 6 rfl) ?_
            refine lv_iload cx.x cx.b d_Mo_character_60 (lv_at hl 5 rfl) ?_
            refine lv_iconst (v := 1) cx.x cx.b d_Mo_character_62 (by decide) ?_
            refine lv_icmp_ne (tgt := 76) cx.x cx.b d_Mo_character_63 (by decide) (fun c => absurd (by decide) c) (fun _ => ?_)
            refine lv_aload_n cx.x cx.b d_Mo_character_66 rfl (lv_at hl 1 rfl) ?_
            refine gf_Mo_31_Mo cx M0.1.1 rfl d_Mo_character_67 ?_
            refine lv_iload cx.x cx.b d_Mo_character_70 (lv_at hl 0 rfl) ?_
            refine hx_iald cx.x cx.b cx.K 0 (M0.1.2.1 7 (by decide)) rfl (show vp_in (nI k1) 217 from vp_in_nI (show k1 < 217 by omega) (by decide)) d_Mo_character_72 ?_
            refine lv_topi (fun x24 e_x24 => ?_)
            have e_x24 : x24 = nI d1.2.1.length := e_x24.trans (congrArg nI ((congrArg (g.1 7) (nI_clamp (n := k1) (by omega))).trans (u1.2.1.1)))
            subst e_x24
            refine lv_goto (tgt := 83) cx.x cx.b d_Mo_character_73 (by decide) ?_
            refine lv_icmp_lt (tgt := 88) cx.x cx.b d_Mo_character_83 (by decide) (fun g4 => ?_) (fun g4 => ?_)
            · rw [if_neg (Int32.not_le.mpr g4)] at hQ
              have hl20 := u1.2.1.2.1
              rcases pk_ix i (n := d1.2.1.length) (by omega) with z | z | ⟨j, hj, z⟩
              · exact absurd z g3
              · exact absurd g4 (Int32.not_lt.mpr z)
              subst z
              rw [nI_clamp (by omega)] at hQ
              refine lv_iload cx.x cx.b d_Mo_character_88 (lv_at hl 5 rfl) ?_
              refine lv_iconst (v := 1) cx.x cx.b d_Mo_character_90 (by decide) ?_
              refine lv_icmp_ne (tgt := 110) cx.x cx.b d_Mo_character_91 (by decide) (fun c => absurd (by decide) c) (fun _ => ?_)
              refine lv_aload_n cx.x cx.b d_Mo_character_94 rfl (lv_at hl 1 rfl) ?_
              refine gf_Mo_25_Mo cx M0.1.1 rfl d_Mo_character_95 ?_
              refine lv_bipush (v := 20) cx.x cx.b d_Mo_character_98 (by decide) ?_
              refine lv_iload cx.x cx.b d_Mo_character_100 (lv_at hl 0 rfl) ?_
              refine lv_imul cx.x cx.b d_Mo_character_102 ?_
              refine lv_topi (fun x25 e_x25 => ?_)
              have e_x25 : x25 = nI (20 * k1) := e_x25.trans (pk_mul 20 k1)
              subst e_x25
              refine lv_iload cx.x cx.b d_Mo_character_103 (lv_at hl 6 rfl) ?_
              refine lv_iadd cx.x cx.b d_Mo_character_105 ?_
              refine lv_topi (fun x26 e_x26 => ?_)
              have e_x26 : x26 = nI ((20 * k1) + j) := e_x26.trans (nI_add (20 * k1) j)
              subst e_x26
              refine hx_iald cx.x cx.b cx.K 0 (M0.1.2.1 5 (by decide)) rfl (show vp_in (nI ((20 * k1) + j)) 4340 from vp_in_nI (show ((20 * k1) + j) < 4340 by omega) (by decide)) d_Mo_character_106 ?_
              refine lv_topi (fun x27 e_x27 => ?_)
              have e_x27 : x27 = nI (d1.2.1.getD j 0) := e_x27.trans (congrArg nI ((congrArg (g.1 5) (nI_clamp (n := ((20 * k1) + j)) (by omega))).trans (u1.2.1.2.2.1 j hj)))
              subst e_x27
              refine lv_goto (tgt := 123) cx.x cx.b d_Mo_character_107 (by decide) ?_
              rw [← hQ]
              exact hx_reti cx.x cx.b cx.r cx.k rfl hlo (fun _ h => h) (Nat.le_of_ble_eq_true rfl) (Nat.le_of_ble_eq_true rfl) d_Mo_character_123 (⟨rfl, rfl⟩)
            · rw [if_pos (Int32.not_lt.mp g4)] at hQ
              refine lv_iconst (v := (-1)) cx.x cx.b d_Mo_character_86 (by decide) ?_
              rw [← hQ]
              exact hx_reti cx.x cx.b cx.r cx.k rfl hlo (fun _ h => h) (Nat.le_of_ble_eq_true rfl) (Nat.le_of_ble_eq_true rfl) d_Mo_character_87 (⟨rfl, rfl⟩)
    · rw [chC_no (fun z => by rw [z] at g2; exact absurd (by decide) g2) (fun z => by rw [z] at g2; exact absurd (by decide) g2) (fun z => by rw [z] at g2; exact absurd (by decide) g2)] at hQ
      refine lv_iconst (v := (-1)) cx.x cx.b d_Mo_character_19 (by decide) ?_
      rw [← hQ]
      exact hx_reti cx.x cx.b cx.r cx.k rfl hlo (fun _ h => h) (Nat.le_of_ble_eq_true rfl) (Nat.le_of_ble_eq_true rfl) d_Mo_character_20 (⟨rfl, rfl⟩)

set_option maxHeartbeats 4000000 in
set_option maxRecDepth 100000 in
theorem c_Mo_characterN (l : Launch) {E : hE} (hE : EnvOk E) {H : Heap} {a : Nat} {ad : Nat → Nat} {g : MS} (M : Mo E H a ad g) {b : Int32} (hb : ¬ (b = 0 ∨ b = 1)) (t x w i : Int32) : Ct l E y_Mo_character b_Mo_character 7 (some .int) (rmA 4 0 0) [.ref a, .int b, .int t, .int x, .int w, .int i] H (hQi (fun r H1 => r = -1 ∧ H1 = H)) := by
  refine hx_enter hE (by decide) (Nat.le_of_ble_eq_true rfl) ?_
  intro p e s m args below meth c ls cx hnm hl
  have hl : lv_has ls 7 [(0, .ref a), (1, .int b), (2, .int t), (3, .int x), (4, .int w), (5, .int i)] := hl
  have hlo : hLo (eB E) [] := hLo.nil
  generalize hQ : MQ below _ args s _ _ _ = Q
  have M0 : Mw E H H a ad g := ⟨M, hCh.rf, rfl⟩
  refine lv_iload_n cx.x cx.b d_Mo_character_0 rfl (lv_at hl 1 rfl) ?_
  refine hx_calli (iv_Mo_173 cx (c_Mo_none l hE (H := H) b) rfl hl.1 rfl (Nat.le_of_ble_eq_true rfl) d_Mo_character_1 ⟨Nat.le_of_ble_eq_true rfl, Nat.le_of_ble_eq_true rfl⟩ ⟨Nat.le_of_ble_eq_true rfl, Nat.le_of_ble_eq_true rfl⟩) hlo (fun _ h => h) (fun r30 H29 locs hp28 hlo => ?_)
  obtain ⟨hp28, hH9⟩ := hp28
  have hH9 := hH9.symm
  subst hH9
  rw [decide_eq_true hb] at hp28
  subst hp28
  refine lv_if_ne (tgt := 19) cx.x cx.b d_Mo_character_4 (by decide) (fun _ => ?_) (fun c => absurd c (by decide))
  refine lv_iconst (v := (-1)) cx.x cx.b d_Mo_character_19 (by decide) ?_
  rw [← hQ]
  exact hx_reti cx.x cx.b cx.r cx.k rfl hlo (fun _ h => h) (Nat.le_of_ble_eq_true rfl) (Nat.le_of_ble_eq_true rfl) d_Mo_character_20 (⟨rfl, rfl⟩)

set_option maxHeartbeats 4000000 in
set_option maxRecDepth 100000 in
theorem c_Mo_diagnostic (l : Launch) {E : hE} (hE : EnvOk E) {H : Heap} {a : Nat} {ad : Nat → Nat} {g : MS} (M : Mo E H a ad g) {ds : List (Nat × Nat × Nat)} (hD : DgR (g.1 1) (g.2 1) ds) (hdl : ds.length < 1000) (i q : Int32) : Ct l E y_Mo_diagnostic b_Mo_diagnostic 4 (some .int) (rmA 0 0 0) [.ref a, .int i, .int q] H (hQi (fun r H1 => r = dgV ds i q ∧ H1 = H)) := by
  refine hx_enter hE (by decide) (Nat.le_of_ble_eq_true rfl) ?_
  intro p e s m args below meth c ls cx hnm hl
  have hl : lv_has ls 4 [(0, .ref a), (1, .int i), (2, .int q)] := hl
  have hlo : hLo (eB E) [] := hLo.nil
  generalize hQ : MQ below _ args s _ _ _ = Q
  have M0 : Mw E H H a ad g := ⟨M, hCh.rf, rfl⟩
  have hdn := hD.1
  unfold dgV at hQ
  refine lv_aload_n cx.x cx.b d_Mo_diagnostic_0 rfl (lv_at hl 0 rfl) ?_
  refine gf_Mo_113_Mo cx M0.1.1 rfl d_Mo_diagnostic_1 ?_
  refine lv_bipush (v := 20) cx.x cx.b d_Mo_diagnostic_4 (by decide) ?_
  refine lv_icmp_ge (tgt := 16) cx.x cx.b d_Mo_diagnostic_6 (by decide) (fun c1 => ?_) (fun c1 => ?_)
  · have c1 : 20 ≤ (g.2 1) := (nI_leI (a := 20) (b := (g.2 1)) (by omega) (by omega)).mp c1
    refine lv_bipush (v := 20) cx.x cx.b d_Mo_diagnostic_16 (by decide) ?_
    refine lv_istore_n (lv' := [(3, .int 20), (0, .ref a), (1, .int i), (2, .int q)]) cx.x cx.b d_Mo_diagnostic_18 rfl hl (by decide) rfl (fun ls hl => ?_)
    rw [show min ds.length 20 = 20 by omega] at hQ
    refine lv_iload_n cx.x cx.b d_Mo_diagnostic_19 rfl (lv_at hl 2 rfl) ?_
    have hl : lv_has ls 4 [(3, .int (nI 20)), (0, .ref a), (1, .int i), (2, .int q)] := hl
    refine lv_if_lt (tgt := 37) cx.x cx.b d_Mo_diagnostic_20 (by decide) (fun g1 => ?_) (fun g1 => ?_)
    · rw [if_pos g1] at hQ
      refine lv_iconst (v := (-1)) cx.x cx.b d_Mo_diagnostic_37 (by decide) ?_
      refine lv_goto (tgt := 51) cx.x cx.b d_Mo_diagnostic_38 (by decide) ?_
      rw [← hQ]
      exact hx_reti cx.x cx.b cx.r cx.k rfl hlo (fun _ h => h) (Nat.le_of_ble_eq_true rfl) (Nat.le_of_ble_eq_true rfl) d_Mo_diagnostic_51 (⟨rfl, rfl⟩)
    · rw [if_neg g1] at hQ
      refine lv_iload_n cx.x cx.b d_Mo_diagnostic_23 rfl (lv_at hl 2 rfl) ?_
      refine lv_iload_n cx.x cx.b d_Mo_diagnostic_24 rfl (lv_at hl 0 rfl) ?_
      refine lv_icmp_ge (tgt := 37) cx.x cx.b d_Mo_diagnostic_25 (by decide) (fun g2 => ?_) (fun g2 => ?_)
      · rw [if_pos g2] at hQ
        refine lv_iconst (v := (-1)) cx.x cx.b d_Mo_diagnostic_37 (by decide) ?_
        refine lv_goto (tgt := 51) cx.x cx.b d_Mo_diagnostic_38 (by decide) ?_
        rw [← hQ]
        exact hx_reti cx.x cx.b cx.r cx.k rfl hlo (fun _ h => h) (Nat.le_of_ble_eq_true rfl) (Nat.le_of_ble_eq_true rfl) d_Mo_diagnostic_51 (⟨rfl, rfl⟩)
      · rw [if_neg g2] at hQ
        refine lv_iload_n cx.x cx.b d_Mo_diagnostic_28 rfl (lv_at hl 3 rfl) ?_
        refine lv_if_lt (tgt := 37) cx.x cx.b d_Mo_diagnostic_29 (by decide) (fun g3 => ?_) (fun g3 => ?_)
        · rw [if_neg (fun z => by rw [z] at g3; exact absurd g3 (by decide)), if_neg (fun z => by rw [z] at g3; exact absurd g3 (by decide)), if_neg (fun z => by rw [z] at g3; exact absurd g3 (by decide))] at hQ
          refine lv_iconst (v := (-1)) cx.x cx.b d_Mo_diagnostic_37 (by decide) ?_
          refine lv_goto (tgt := 51) cx.x cx.b d_Mo_diagnostic_38 (by decide) ?_
          rw [← hQ]
          exact hx_reti cx.x cx.b cx.r cx.k rfl hlo (fun _ h => h) (Nat.le_of_ble_eq_true rfl) (Nat.le_of_ble_eq_true rfl) d_Mo_diagnostic_51 (⟨rfl, rfl⟩)
        · refine lv_iload_n cx.x cx.b d_Mo_diagnostic_32 rfl (lv_at hl 3 rfl) ?_
          refine lv_iconst (v := 2) cx.x cx.b d_Mo_diagnostic_33 (by decide) ?_
          refine lv_icmp_le (tgt := 41) cx.x cx.b d_Mo_diagnostic_34 (by decide) (fun g4 => ?_) (fun g4 => ?_)
          · rcases pk_ix i (n := 20) (by omega) with z | z | ⟨j, hj, z⟩
            · exact absurd z g1
            · exact absurd z g2
            subst z
            rw [nI_clamp (by omega)] at hQ
            obtain ⟨d0, d1, d2⟩ := hD.2 j (by omega) (by omega)
            rcases q3 g3 g4 with rfl | rfl | rfl
            · rw [if_pos rfl] at hQ
              refine lv_aload_n cx.x cx.b d_Mo_diagnostic_41 rfl (lv_at hl 1 rfl) ?_
              refine gf_Mo_13_Mo cx M0.1.1 rfl d_Mo_diagnostic_42 ?_
              refine lv_iconst (v := 3) cx.x cx.b d_Mo_diagnostic_45 (by decide) ?_
              refine lv_iload_n cx.x cx.b d_Mo_diagnostic_46 rfl (lv_at hl 2 rfl) ?_
              refine lv_imul cx.x cx.b d_Mo_diagnostic_47 ?_
              refine lv_topi (fun x31 e_x31 => ?_)
              have e_x31 : x31 = nI (3 * j) := e_x31.trans (pk_mul 3 j)
              subst e_x31
              refine lv_iload_n cx.x cx.b d_Mo_diagnostic_48 rfl (lv_at hl 3 rfl) ?_
              refine lv_iadd cx.x cx.b d_Mo_diagnostic_49 ?_
              refine lv_topi (fun x32 e_x32 => ?_)
              have e_x32 : x32 = nI ((3 * j) + 0) := e_x32.trans (nI_add (3 * j) 0)
              subst e_x32
              refine hx_iald cx.x cx.b cx.K 0 (M0.1.2.1 1 (by decide)) rfl (show vp_in (nI ((3 * j) + 0)) 60 from vp_in_nI (show ((3 * j) + 0) < 60 by omega) (by decide)) d_Mo_diagnostic_50 ?_
              refine lv_topi (fun x33 e_x33 => ?_)
              have e_x33 : x33 = nI ((ds.getD j (0, 0, 0)).1) := e_x33.trans (congrArg nI ((congrArg (g.1 1) (nI_clamp (n := ((3 * j) + 0)) (by omega))).trans (d0)))
              subst e_x33
              rw [← hQ]
              exact hx_reti cx.x cx.b cx.r cx.k rfl hlo (fun _ h => h) (Nat.le_of_ble_eq_true rfl) (Nat.le_of_ble_eq_true rfl) d_Mo_diagnostic_51 (⟨rfl, rfl⟩)
            · rw [if_neg (by decide), if_pos rfl] at hQ
              refine lv_aload_n cx.x cx.b d_Mo_diagnostic_41 rfl (lv_at hl 1 rfl) ?_
              refine gf_Mo_13_Mo cx M0.1.1 rfl d_Mo_diagnostic_42 ?_
              refine lv_iconst (v := 3) cx.x cx.b d_Mo_diagnostic_45 (by decide) ?_
              refine lv_iload_n cx.x cx.b d_Mo_diagnostic_46 rfl (lv_at hl 2 rfl) ?_
              refine lv_imul cx.x cx.b d_Mo_diagnostic_47 ?_
              refine lv_topi (fun x34 e_x34 => ?_)
              have e_x34 : x34 = nI (3 * j) := e_x34.trans (pk_mul 3 j)
              subst e_x34
              refine lv_iload_n cx.x cx.b d_Mo_diagnostic_48 rfl (lv_at hl 3 rfl) ?_
              refine lv_iadd cx.x cx.b d_Mo_diagnostic_49 ?_
              refine lv_topi (fun x35 e_x35 => ?_)
              have e_x35 : x35 = nI ((3 * j) + 1) := e_x35.trans (nI_add (3 * j) 1)
              subst e_x35
              refine hx_iald cx.x cx.b cx.K 0 (M0.1.2.1 1 (by decide)) rfl (show vp_in (nI ((3 * j) + 1)) 60 from vp_in_nI (show ((3 * j) + 1) < 60 by omega) (by decide)) d_Mo_diagnostic_50 ?_
              refine lv_topi (fun x36 e_x36 => ?_)
              have e_x36 : x36 = nI ((ds.getD j (0, 0, 0)).2.1) := e_x36.trans (congrArg nI ((congrArg (g.1 1) (nI_clamp (n := ((3 * j) + 1)) (by omega))).trans (d1)))
              subst e_x36
              rw [← hQ]
              exact hx_reti cx.x cx.b cx.r cx.k rfl hlo (fun _ h => h) (Nat.le_of_ble_eq_true rfl) (Nat.le_of_ble_eq_true rfl) d_Mo_diagnostic_51 (⟨rfl, rfl⟩)
            · rw [if_neg (by decide), if_neg (by decide), if_pos rfl] at hQ
              refine lv_aload_n cx.x cx.b d_Mo_diagnostic_41 rfl (lv_at hl 1 rfl) ?_
              refine gf_Mo_13_Mo cx M0.1.1 rfl d_Mo_diagnostic_42 ?_
              refine lv_iconst (v := 3) cx.x cx.b d_Mo_diagnostic_45 (by decide) ?_
              refine lv_iload_n cx.x cx.b d_Mo_diagnostic_46 rfl (lv_at hl 2 rfl) ?_
              refine lv_imul cx.x cx.b d_Mo_diagnostic_47 ?_
              refine lv_topi (fun x37 e_x37 => ?_)
              have e_x37 : x37 = nI (3 * j) := e_x37.trans (pk_mul 3 j)
              subst e_x37
              refine lv_iload_n cx.x cx.b d_Mo_diagnostic_48 rfl (lv_at hl 3 rfl) ?_
              refine lv_iadd cx.x cx.b d_Mo_diagnostic_49 ?_
              refine lv_topi (fun x38 e_x38 => ?_)
              have e_x38 : x38 = nI ((3 * j) + 2) := e_x38.trans (nI_add (3 * j) 2)
              subst e_x38
              refine hx_iald cx.x cx.b cx.K 0 (M0.1.2.1 1 (by decide)) rfl (show vp_in (nI ((3 * j) + 2)) 60 from vp_in_nI (show ((3 * j) + 2) < 60 by omega) (by decide)) d_Mo_diagnostic_50 ?_
              refine lv_topi (fun x39 e_x39 => ?_)
              have e_x39 : x39 = nI ((ds.getD j (0, 0, 0)).2.2) := e_x39.trans (congrArg nI ((congrArg (g.1 1) (nI_clamp (n := ((3 * j) + 2)) (by omega))).trans (d2)))
              subst e_x39
              rw [← hQ]
              exact hx_reti cx.x cx.b cx.r cx.k rfl hlo (fun _ h => h) (Nat.le_of_ble_eq_true rfl) (Nat.le_of_ble_eq_true rfl) d_Mo_diagnostic_51 (⟨rfl, rfl⟩)
          · rw [if_neg (fun z => by rw [z] at g4; exact absurd (by decide) g4), if_neg (fun z => by rw [z] at g4; exact absurd (by decide) g4), if_neg (fun z => by rw [z] at g4; exact absurd (by decide) g4)] at hQ
            refine lv_iconst (v := (-1)) cx.x cx.b d_Mo_diagnostic_37 (by decide) ?_
            refine lv_goto (tgt := 51) cx.x cx.b d_Mo_diagnostic_38 (by decide) ?_
            rw [← hQ]
            exact hx_reti cx.x cx.b cx.r cx.k rfl hlo (fun _ h => h) (Nat.le_of_ble_eq_true rfl) (Nat.le_of_ble_eq_true rfl) d_Mo_diagnostic_51 (⟨rfl, rfl⟩)
  · have c1 : (g.2 1) < 20 := Nat.not_le.mp (fun zz => c1 ((nI_leI (a := 20) (b := (g.2 1)) (by omega) (by omega)).mpr zz))
    refine lv_aload_n cx.x cx.b d_Mo_diagnostic_9 rfl (lv_at hl 0 rfl) ?_
    refine gf_Mo_113_Mo cx M0.1.1 rfl d_Mo_diagnostic_10 ?_
    refine lv_goto (tgt := 18) cx.x cx.b d_Mo_diagnostic_13 (by decide) ?_
    refine lv_istore_n (lv' := [(3, .int (nI (g.2 1))), (0, .ref a), (1, .int i), (2, .int q)]) cx.x cx.b d_Mo_diagnostic_18 rfl hl (by decide) rfl (fun ls hl => ?_)
    rw [show min ds.length 20 = ds.length by omega] at hQ
    refine lv_iload_n cx.x cx.b d_Mo_diagnostic_19 rfl (lv_at hl 2 rfl) ?_
    rw [hdn] at hl
    have hl : lv_has ls 4 [(3, .int (nI ds.length)), (0, .ref a), (1, .int i), (2, .int q)] := hl
    refine lv_if_lt (tgt := 37) cx.x cx.b d_Mo_diagnostic_20 (by decide) (fun g1 => ?_) (fun g1 => ?_)
    · rw [if_pos g1] at hQ
      refine lv_iconst (v := (-1)) cx.x cx.b d_Mo_diagnostic_37 (by decide) ?_
      refine lv_goto (tgt := 51) cx.x cx.b d_Mo_diagnostic_38 (by decide) ?_
      rw [← hQ]
      exact hx_reti cx.x cx.b cx.r cx.k rfl hlo (fun _ h => h) (Nat.le_of_ble_eq_true rfl) (Nat.le_of_ble_eq_true rfl) d_Mo_diagnostic_51 (⟨rfl, rfl⟩)
    · rw [if_neg g1] at hQ
      refine lv_iload_n cx.x cx.b d_Mo_diagnostic_23 rfl (lv_at hl 2 rfl) ?_
      refine lv_iload_n cx.x cx.b d_Mo_diagnostic_24 rfl (lv_at hl 0 rfl) ?_
      refine lv_icmp_ge (tgt := 37) cx.x cx.b d_Mo_diagnostic_25 (by decide) (fun g2 => ?_) (fun g2 => ?_)
      · rw [if_pos g2] at hQ
        refine lv_iconst (v := (-1)) cx.x cx.b d_Mo_diagnostic_37 (by decide) ?_
        refine lv_goto (tgt := 51) cx.x cx.b d_Mo_diagnostic_38 (by decide) ?_
        rw [← hQ]
        exact hx_reti cx.x cx.b cx.r cx.k rfl hlo (fun _ h => h) (Nat.le_of_ble_eq_true rfl) (Nat.le_of_ble_eq_true rfl) d_Mo_diagnostic_51 (⟨rfl, rfl⟩)
      · rw [if_neg g2] at hQ
        refine lv_iload_n cx.x cx.b d_Mo_diagnostic_28 rfl (lv_at hl 3 rfl) ?_
        refine lv_if_lt (tgt := 37) cx.x cx.b d_Mo_diagnostic_29 (by decide) (fun g3 => ?_) (fun g3 => ?_)
        · rw [if_neg (fun z => by rw [z] at g3; exact absurd g3 (by decide)), if_neg (fun z => by rw [z] at g3; exact absurd g3 (by decide)), if_neg (fun z => by rw [z] at g3; exact absurd g3 (by decide))] at hQ
          refine lv_iconst (v := (-1)) cx.x cx.b d_Mo_diagnostic_37 (by decide) ?_
          refine lv_goto (tgt := 51) cx.x cx.b d_Mo_diagnostic_38 (by decide) ?_
          rw [← hQ]
          exact hx_reti cx.x cx.b cx.r cx.k rfl hlo (fun _ h => h) (Nat.le_of_ble_eq_true rfl) (Nat.le_of_ble_eq_true rfl) d_Mo_diagnostic_51 (⟨rfl, rfl⟩)
        · refine lv_iload_n cx.x cx.b d_Mo_diagnostic_32 rfl (lv_at hl 3 rfl) ?_
          refine lv_iconst (v := 2) cx.x cx.b d_Mo_diagnostic_33 (by decide) ?_
          refine lv_icmp_le (tgt := 41) cx.x cx.b d_Mo_diagnostic_34 (by decide) (fun g4 => ?_) (fun g4 => ?_)
          · rcases pk_ix i (n := ds.length) (by omega) with z | z | ⟨j, hj, z⟩
            · exact absurd z g1
            · exact absurd z g2
            subst z
            rw [nI_clamp (by omega)] at hQ
            obtain ⟨d0, d1, d2⟩ := hD.2 j (by omega) (by omega)
            rcases q3 g3 g4 with rfl | rfl | rfl
            · rw [if_pos rfl] at hQ
              refine lv_aload_n cx.x cx.b d_Mo_diagnostic_41 rfl (lv_at hl 1 rfl) ?_
              refine gf_Mo_13_Mo cx M0.1.1 rfl d_Mo_diagnostic_42 ?_
              refine lv_iconst (v := 3) cx.x cx.b d_Mo_diagnostic_45 (by decide) ?_
              refine lv_iload_n cx.x cx.b d_Mo_diagnostic_46 rfl (lv_at hl 2 rfl) ?_
              refine lv_imul cx.x cx.b d_Mo_diagnostic_47 ?_
              refine lv_topi (fun x40 e_x40 => ?_)
              have e_x40 : x40 = nI (3 * j) := e_x40.trans (pk_mul 3 j)
              subst e_x40
              refine lv_iload_n cx.x cx.b d_Mo_diagnostic_48 rfl (lv_at hl 3 rfl) ?_
              refine lv_iadd cx.x cx.b d_Mo_diagnostic_49 ?_
              refine lv_topi (fun x41 e_x41 => ?_)
              have e_x41 : x41 = nI ((3 * j) + 0) := e_x41.trans (nI_add (3 * j) 0)
              subst e_x41
              refine hx_iald cx.x cx.b cx.K 0 (M0.1.2.1 1 (by decide)) rfl (show vp_in (nI ((3 * j) + 0)) 60 from vp_in_nI (show ((3 * j) + 0) < 60 by omega) (by decide)) d_Mo_diagnostic_50 ?_
              refine lv_topi (fun x42 e_x42 => ?_)
              have e_x42 : x42 = nI ((ds.getD j (0, 0, 0)).1) := e_x42.trans (congrArg nI ((congrArg (g.1 1) (nI_clamp (n := ((3 * j) + 0)) (by omega))).trans (d0)))
              subst e_x42
              rw [← hQ]
              exact hx_reti cx.x cx.b cx.r cx.k rfl hlo (fun _ h => h) (Nat.le_of_ble_eq_true rfl) (Nat.le_of_ble_eq_true rfl) d_Mo_diagnostic_51 (⟨rfl, rfl⟩)
            · rw [if_neg (by decide), if_pos rfl] at hQ
              refine lv_aload_n cx.x cx.b d_Mo_diagnostic_41 rfl (lv_at hl 1 rfl) ?_
              refine gf_Mo_13_Mo cx M0.1.1 rfl d_Mo_diagnostic_42 ?_
              refine lv_iconst (v := 3) cx.x cx.b d_Mo_diagnostic_45 (by decide) ?_
              refine lv_iload_n cx.x cx.b d_Mo_diagnostic_46 rfl (lv_at hl 2 rfl) ?_
              refine lv_imul cx.x cx.b d_Mo_diagnostic_47 ?_
              refine lv_topi (fun x43 e_x43 => ?_)
              have e_x43 : x43 = nI (3 * j) := e_x43.trans (pk_mul 3 j)
              subst e_x43
              refine lv_iload_n cx.x cx.b d_Mo_diagnostic_48 rfl (lv_at hl 3 rfl) ?_
              refine lv_iadd cx.x cx.b d_Mo_diagnostic_49 ?_
              refine lv_topi (fun x44 e_x44 => ?_)
              have e_x44 : x44 = nI ((3 * j) + 1) := e_x44.trans (nI_add (3 * j) 1)
              subst e_x44
              refine hx_iald cx.x cx.b cx.K 0 (M0.1.2.1 1 (by decide)) rfl (show vp_in (nI ((3 * j) + 1)) 60 from vp_in_nI (show ((3 * j) + 1) < 60 by omega) (by decide)) d_Mo_diagnostic_50 ?_
              refine lv_topi (fun x45 e_x45 => ?_)
              have e_x45 : x45 = nI ((ds.getD j (0, 0, 0)).2.1) := e_x45.trans (congrArg nI ((congrArg (g.1 1) (nI_clamp (n := ((3 * j) + 1)) (by omega))).trans (d1)))
              subst e_x45
              rw [← hQ]
              exact hx_reti cx.x cx.b cx.r cx.k rfl hlo (fun _ h => h) (Nat.le_of_ble_eq_true rfl) (Nat.le_of_ble_eq_true rfl) d_Mo_diagnostic_51 (⟨rfl, rfl⟩)
            · rw [if_neg (by decide), if_neg (by decide), if_pos rfl] at hQ
              refine lv_aload_n cx.x cx.b d_Mo_diagnostic_41 rfl (lv_at hl 1 rfl) ?_
              refine gf_Mo_13_Mo cx M0.1.1 rfl d_Mo_diagnostic_42 ?_
              refine lv_iconst (v := 3) cx.x cx.b d_Mo_diagnostic_45 (by decide) ?_
              refine lv_iload_n cx.x cx.b d_Mo_diagnostic_46 rfl (lv_at hl 2 rfl) ?_
              refine lv_imul cx.x cx.b d_Mo_diagnostic_47 ?_
              refine lv_topi (fun x46 e_x46 => ?_)
              have e_x46 : x46 = nI (3 * j) := e_x46.trans (pk_mul 3 j)
              subst e_x46
              refine lv_iload_n cx.x cx.b d_Mo_diagnostic_48 rfl (lv_at hl 3 rfl) ?_
              refine lv_iadd cx.x cx.b d_Mo_diagnostic_49 ?_
              refine lv_topi (fun x47 e_x47 => ?_)
              have e_x47 : x47 = nI ((3 * j) + 2) := e_x47.trans (nI_add (3 * j) 2)
              subst e_x47
              refine hx_iald cx.x cx.b cx.K 0 (M0.1.2.1 1 (by decide)) rfl (show vp_in (nI ((3 * j) + 2)) 60 from vp_in_nI (show ((3 * j) + 2) < 60 by omega) (by decide)) d_Mo_diagnostic_50 ?_
              refine lv_topi (fun x48 e_x48 => ?_)
              have e_x48 : x48 = nI ((ds.getD j (0, 0, 0)).2.2) := e_x48.trans (congrArg nI ((congrArg (g.1 1) (nI_clamp (n := ((3 * j) + 2)) (by omega))).trans (d2)))
              subst e_x48
              rw [← hQ]
              exact hx_reti cx.x cx.b cx.r cx.k rfl hlo (fun _ h => h) (Nat.le_of_ble_eq_true rfl) (Nat.le_of_ble_eq_true rfl) d_Mo_diagnostic_51 (⟨rfl, rfl⟩)
          · rw [if_neg (fun z => by rw [z] at g4; exact absurd (by decide) g4), if_neg (fun z => by rw [z] at g4; exact absurd (by decide) g4), if_neg (fun z => by rw [z] at g4; exact absurd (by decide) g4)] at hQ
            refine lv_iconst (v := (-1)) cx.x cx.b d_Mo_diagnostic_37 (by decide) ?_
            refine lv_goto (tgt := 51) cx.x cx.b d_Mo_diagnostic_38 (by decide) ?_
            rw [← hQ]
            exact hx_reti cx.x cx.b cx.r cx.k rfl hlo (fun _ h => h) (Nat.le_of_ble_eq_true rfl) (Nat.le_of_ble_eq_true rfl) d_Mo_diagnostic_51 (⟨rfl, rfl⟩)

set_option maxHeartbeats 4000000 in
set_option maxRecDepth 100000 in
theorem c_Mo_format (l : Launch) {E : hE} (hE : EnvOk E) {H : Heap} {a : Nat} {ad : Nat → Nat} {g : MS} (M : Mo E H a ad g) (hcr : g.2 2 = 0 ∨ g.2 2 = 1) {b f1 : Nat} (hb : b < 2) (hf : f1 = 1 ∨ f1 = 2) : Ct l E y_Mo_format b_Mo_format 4 (some .int) (rmA 1 0 0) [.ref a, .int (nI b), .int (nI f1)] H (hQi (fun r H1 => r = nI (g.1 3 (if g.2 2 = 0 then b else 1 - b)) ∧ Mw E H H1 a ad (up g.1 3 (updN (g.1 3) (if g.2 2 = 0 then b else 1 - b) f1), g.2))) := by
  refine hx_enter hE (by decide) (Nat.le_of_ble_eq_true rfl) ?_
  intro p e s m args below meth c ls cx hnm hl
  have hl : lv_has ls 4 [(0, .ref a), (1, .int (nI b)), (2, .int (nI f1))] := hl
  have hlo : hLo (eB E) [] := hLo.nil
  generalize hQ : MQ below _ args s _ _ _ = Q
  have M0 : Mw E H H a ad g := ⟨M, hCh.rf, rfl⟩
  have hb1 : (if g.2 2 = 0 then b else 1 - b) < 2 := by by_cases c : (g.2 2) = 0; rw [if_pos c]; exact hb; rw [if_neg c]; omega
  have hsd := c_Mo_side l hE M hcr hb
  generalize (if g.2 2 = 0 then b else 1 - b) = b1 at *
  refine lv_iload_n cx.x cx.b d_Mo_format_0 rfl (lv_at hl 1 rfl) ?_
  refine hx_calli (iv_Mo_173 cx (c_Mo_none l hE (H := H) (nI b)) rfl hl.1 rfl (Nat.le_of_ble_eq_true rfl) d_Mo_format_1 ⟨Nat.le_of_ble_eq_true rfl, Nat.le_of_ble_eq_true rfl⟩ ⟨Nat.le_of_ble_eq_true rfl, Nat.le_of_ble_eq_true rfl⟩) hlo (fun _ h => h) (fun r51 H50 locs hp49 hlo => ?_)
  obtain ⟨hp49, hH9⟩ := hp49
  have hH9 := hH9.symm
  subst hH9
  rw [show decide (¬ (nI b = 0 ∨ nI b = 1)) = false from decide_eq_false (fun z => z (by rcases (show b = 0 ∨ b = 1 by omega) with e | e; rw [e]; exact Or.inl rfl; rw [e]; exact Or.inr rfl))] at hp49
  subst hp49
  refine lv_if_ne (tgt := 17) cx.x cx.b d_Mo_format_4 (by decide) (fun c => absurd (by decide) c) (fun _ => ?_)
  refine lv_iload_n cx.x cx.b d_Mo_format_7 rfl (lv_at hl 2 rfl) ?_
  refine lv_iconst (v := 1) cx.x cx.b d_Mo_format_8 (by decide) ?_
  refine lv_icmp_lt (tgt := 17) cx.x cx.b d_Mo_format_9 (by decide) (fun c1 => ?_) (fun c1 => ?_)
  · have c1 : f1 < 1 := (nI_ltI (a := f1) (b := 1) (by omega) (by omega)).mp c1
    exact absurd c1 (by omega)
  · have c1 : 1 ≤ f1 := Nat.not_lt.mp (fun zz => c1 ((nI_ltI (a := f1) (b := 1) (by omega) (by omega)).mpr zz))
    refine lv_iload_n cx.x cx.b d_Mo_format_12 rfl (lv_at hl 2 rfl) ?_
    refine lv_iconst (v := 2) cx.x cx.b d_Mo_format_13 (by decide) ?_
    refine lv_icmp_le (tgt := 19) cx.x cx.b d_Mo_format_14 (by decide) (fun c2 => ?_) (fun c2 => ?_)
    · have c2 : f1 ≤ 2 := (nI_leI (a := f1) (b := 2) (by omega) (by omega)).mp c2
      refine lv_aload_n cx.x cx.b d_Mo_format_19 rfl (lv_at hl 0 rfl) ?_
      refine gf_Mo_19_Mo cx M0.1.1 rfl d_Mo_format_20 ?_
      refine lv_aload_n cx.x cx.b d_Mo_format_23 rfl (lv_at hl 0 rfl) ?_
      refine lv_iload_n cx.x cx.b d_Mo_format_24 rfl (lv_at hl 1 rfl) ?_
      refine hx_calli (iv_Mo_176_Mo cx (hsd) M0.1.1 rfl hl.1 rfl (Nat.le_of_ble_eq_true rfl) d_Mo_format_25 ⟨Nat.le_of_ble_eq_true rfl, Nat.le_of_ble_eq_true rfl⟩ ⟨Nat.le_of_ble_eq_true rfl, Nat.le_of_ble_eq_true rfl⟩) hlo (fun _ h => h) (fun r54 H53 locs hp52 hlo => ?_)
      obtain ⟨hp52, hH9⟩ := hp52
      have hH9 := hH9.symm
      subst hH9
      subst hp52
      refine hx_iald cx.x cx.b cx.K 0 (M0.1.2.1 3 (by decide)) rfl (show vp_in (nI b1) 2 from vp_in_nI (show b1 < 2 by omega) (by decide)) d_Mo_format_28 ?_
      refine lv_topi (fun x55 e_x55 => ?_)
      have e_x55 : x55 = nI ((g.1 3) b1) := e_x55.trans (congrArg (fun z9 => nI ((g.1 3) z9)) (nI_clamp (n := b1) (by omega)))
      subst e_x55
      refine lv_istore_n (lv' := [(3, .int (nI ((g.1 3) b1))), (0, .ref a), (1, .int (nI b)), (2, .int (nI f1))]) cx.x cx.b d_Mo_format_29 rfl hl (by decide) rfl (fun ls hl => ?_)
      refine lv_aload_n cx.x cx.b d_Mo_format_30 rfl (lv_at hl 1 rfl) ?_
      refine gf_Mo_19_Mo cx M0.1.1 rfl d_Mo_format_31 ?_
      refine lv_aload_n cx.x cx.b d_Mo_format_34 rfl (lv_at hl 1 rfl) ?_
      refine lv_iload_n cx.x cx.b d_Mo_format_35 rfl (lv_at hl 2 rfl) ?_
      refine hx_calli (iv_Mo_176_Mo cx (hsd) M0.1.1 rfl hl.1 rfl (Nat.le_of_ble_eq_true rfl) d_Mo_format_36 ⟨Nat.le_of_ble_eq_true rfl, Nat.le_of_ble_eq_true rfl⟩ ⟨Nat.le_of_ble_eq_true rfl, Nat.le_of_ble_eq_true rfl⟩) hlo (fun _ h => h) (fun r58 H57 locs hp56 hlo => ?_)
      obtain ⟨hp56, hH9⟩ := hp56
      have hH9 := hH9.symm
      subst hH9
      subst hp56
      refine lv_iload_n cx.x cx.b d_Mo_format_39 rfl (lv_at hl 3 rfl) ?_
      refine hx_iast cx.x cx.b cx.K 0 (M0.1.2.1 3 (by decide)) hlo (M0.1.2.2.2.1 3 (by decide)).1 rfl (show vp_in (nI b1) 2 from vp_in_nI (show b1 < 2 by omega) (by decide)) d_Mo_format_40 (fun H59 locs ha60 z_H59 o_H59 hlo => ?_)
      have M61 : Mw E H H59 a ad (up g.1 3 (updN (g.1 3) b1 f1), g.2) := M0.ar (up g.1 3 (updN (g.1 3) b1 f1), g.2) 3 (by decide) (by have h9 := ha60; rw [show (nI b1 : Int32).toNatClampNeg = b1 from nI_clamp (n := b1) (by omega)] at h9; have h9 : hAi H59 (ad 3) (eA E 0) (arL 3) (upd (fun i => nI ((g.1 3) i)) b1 (nI f1)) := h9; rw [upd_nI] at h9; exact h9) z_H59 o_H59 rfl (fun j hj hn => arN3 hj hn rfl rfl rfl rfl rfl rfl rfl rfl rfl rfl rfl rfl rfl)
      have oM62 : hOb (eD E) classes H59 a 10 [.ref (ad 0), .int (nI (g.2 0)), .ref (ad 1), .int (nI (g.2 1)), .int (nI (g.2 2)), .ref (ad 2), .ref (ad 3), .ref (ad 4), .ref (ad 5), .ref (ad 6), .ref (ad 7), .ref (ad 8), .ref (ad 9), .ref (ad 10), .int (nI (g.2 3)), .int (nI (g.2 4)), .int (nI (g.2 5)), .int (nI (g.2 6)), .int (nI (g.2 7)), .ref (ad 11), .int (nI (g.2 8)), .int (nI (g.2 9)), .int (nI (g.2 10)), .ref (ad 12), .int (nI (g.2 11)), .ref (ad 13)] := M61.1.1
      refine lv_iload_n cx.x cx.b d_Mo_format_41 rfl (lv_at hl 0 rfl) ?_
      rw [← hQ]
      exact hx_reti cx.x cx.b cx.r cx.k rfl hlo (fun _ h => h) (Nat.le_of_ble_eq_true rfl) (Nat.le_of_ble_eq_true rfl) d_Mo_format_42 (⟨rfl, M61⟩)
    · have c2 : 2 < f1 := Nat.not_le.mp (fun zz => c2 ((nI_leI (a := f1) (b := 2) (by omega) (by omega)).mpr zz))
      exact absurd c2 (by omega)

set_option maxHeartbeats 4000000 in
set_option maxRecDepth 100000 in
theorem c_Mo_formatN (l : Launch) {E : hE} (hE : EnvOk E) {H : Heap} {a : Nat} {ad : Nat → Nat} {g : MS} (M : Mo E H a ad g) {b f : Int32} (hb : ¬ ((b = 0 ∨ b = 1) ∧ (f = 1 ∨ f = 2))) : Ct l E y_Mo_format b_Mo_format 4 (some .int) (rmA 1 0 0) [.ref a, .int b, .int f] H (hQi (fun r H1 => r = -1 ∧ H1 = H)) := by
  refine hx_enter hE (by decide) (Nat.le_of_ble_eq_true rfl) ?_
  intro p e s m args below meth c ls cx hnm hl
  have hl : lv_has ls 4 [(0, .ref a), (1, .int b), (2, .int f)] := hl
  have hlo : hLo (eB E) [] := hLo.nil
  generalize hQ : MQ below _ args s _ _ _ = Q
  have M0 : Mw E H H a ad g := ⟨M, hCh.rf, rfl⟩
  refine lv_iload_n cx.x cx.b d_Mo_format_0 rfl (lv_at hl 1 rfl) ?_
  refine hx_calli (iv_Mo_173 cx (c_Mo_none l hE (H := H) b) rfl hl.1 rfl (Nat.le_of_ble_eq_true rfl) d_Mo_format_1 ⟨Nat.le_of_ble_eq_true rfl, Nat.le_of_ble_eq_true rfl⟩ ⟨Nat.le_of_ble_eq_true rfl, Nat.le_of_ble_eq_true rfl⟩) hlo (fun _ h => h) (fun r65 H64 locs hp63 hlo => ?_)
  obtain ⟨hp63, hH9⟩ := hp63
  have hH9 := hH9.symm
  subst hH9
  by_cases c1 : b = 0 ∨ b = 1
  · rw [decide_eq_false (fun z => z c1)] at hp63
    subst hp63
    refine lv_if_ne (tgt := 17) cx.x cx.b d_Mo_format_4 (by decide) (fun c => absurd (by decide) c) (fun _ => ?_)
    refine lv_iload_n cx.x cx.b d_Mo_format_7 rfl (lv_at hl 2 rfl) ?_
    refine lv_iconst (v := 1) cx.x cx.b d_Mo_format_8 (by decide) ?_
    refine lv_icmp_lt (tgt := 17) cx.x cx.b d_Mo_format_9 (by decide) (fun c2 => ?_) (fun c2 => ?_)
    · refine lv_iconst (v := (-1)) cx.x cx.b d_Mo_format_17 (by decide) ?_
      rw [← hQ]
      exact hx_reti cx.x cx.b cx.r cx.k rfl hlo (fun _ h => h) (Nat.le_of_ble_eq_true rfl) (Nat.le_of_ble_eq_true rfl) d_Mo_format_18 (⟨rfl, rfl⟩)
    · refine lv_iload_n cx.x cx.b d_Mo_format_12 rfl (lv_at hl 2 rfl) ?_
      refine lv_iconst (v := 2) cx.x cx.b d_Mo_format_13 (by decide) ?_
      refine lv_icmp_le (tgt := 19) cx.x cx.b d_Mo_format_14 (by decide) (fun c3 => ?_) (fun c3 => ?_)
      · exfalso
        rcases q3 (w := f) (fun z => absurd (Int32.lt_trans z (by decide)) c2) c3 with e | e | e
        · rw [e] at c2; exact absurd (by decide) c2
        · exact hb ⟨c1, Or.inl e⟩
        · exact hb ⟨c1, Or.inr e⟩
      · refine lv_iconst (v := (-1)) cx.x cx.b d_Mo_format_17 (by decide) ?_
        rw [← hQ]
        exact hx_reti cx.x cx.b cx.r cx.k rfl hlo (fun _ h => h) (Nat.le_of_ble_eq_true rfl) (Nat.le_of_ble_eq_true rfl) d_Mo_format_18 (⟨rfl, rfl⟩)
  · rw [decide_eq_true c1] at hp63
    subst hp63
    refine lv_if_ne (tgt := 17) cx.x cx.b d_Mo_format_4 (by decide) (fun _ => ?_) (fun c => absurd c (by decide))
    refine lv_iconst (v := (-1)) cx.x cx.b d_Mo_format_17 (by decide) ?_
    rw [← hQ]
    exact hx_reti cx.x cx.b cx.r cx.k rfl hlo (fun _ h => h) (Nat.le_of_ble_eq_true rfl) (Nat.le_of_ble_eq_true rfl) d_Mo_format_18 (⟨rfl, rfl⟩)
