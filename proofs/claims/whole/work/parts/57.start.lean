/-! THE START: what the law's entry gives -/
def FL : List Cond := flatC (Jvm.Cond.and given_1 narrow_1)
def tmS (i : Nat) : Term := Term.string (nwS.getD i ("", 0, "", 0)).1 (nwS.getD i ("", 0, "", 0)).2.1
theorem fl_ex : ∀ i, i < 17 → FL[([14, 22, 28, 35, 48, 65, 80, 95, 114, 132, 150, 169, 193, 213, 236, 260, 284] : List Nat).getD i 0]? = some (Cond.exactly (tmS i) "java/lang/String") := by decide +kernel
theorem fl_co : ∀ i, i < 17 → FL[([15, 23, 29, 36, 49, 66, 81, 96, 115, 133, 151, 170, 194, 214, 237, 261, 285] : List Nat).getD i 0]? = some (Cond.eq (.field (tmS i) "java/lang/String" "coder" "B") (.int 0)) := by decide +kernel
theorem fl_ar : ∀ i, i < 17 → FL[([16, 24, 30, 37, 50, 67, 82, 97, 116, 134, 152, 171, 195, 215, 238, 262, 286] : List Nat).getD i 0]? = some (Cond.arrayOf (.field (tmS i) "java/lang/String" "value" "[B") .byte) := by decide +kernel
theorem fl_le : ∀ i, i < 17 → FL[([17, 25, 31, 38, 51, 68, 83, 98, 117, 135, 153, 172, 196, 216, 239, 263, 287] : List Nat).getD i 0]? = some (Cond.eq (.length (.field (tmS i) "java/lang/String" "value" "[B")) (.int (Int32.ofNat ((strT.map List.length).getD i 0)))) := by decide +kernel
theorem fl_el : ∀ i, i < 17 → ∀ j, j < (strT.map List.length).getD i 0 → FL[(([[18, 19, 20, 21], [26], [32], [39, 40, 41, 42, 43, 44], [52, 53, 54, 55, 56, 57, 58, 59, 60], [69, 70, 71, 72, 73, 74], [84, 85, 86, 87, 88], [99, 100, 101, 102, 103, 104, 105, 106], [118, 119, 120, 121, 122, 123], [136, 137, 138, 139, 140], [154, 155, 156, 157, 158], [173, 174, 175, 176, 177, 178, 179, 180, 181], [197, 198, 199, 200], [217, 218, 219, 220, 221, 222], [240, 241, 242, 243, 244, 245], [264, 265, 266, 267, 268], [288, 289]] : List (List Nat)).getD i []).getD j 0]? = some (Cond.eq (.elem (.field (tmS i) "java/lang/String" "value" "[B") (.int (Int32.ofNat j))) (.int (((strT.map (List.map nI)).getD i []).getD j 0))) := by decide +kernel
theorem fl_ne : ∀ i, i < 17 → ∀ j, j < 17 → i ≠ j → (FL[(([[0, 27, 33, 45, 61, 75, 89, 107, 124, 141, 159, 182, 201, 223, 246, 269, 290], [27, 0, 34, 46, 62, 76, 90, 108, 125, 142, 160, 183, 202, 224, 247, 270, 291], [33, 34, 0, 47, 63, 77, 91, 109, 126, 143, 161, 184, 203, 225, 248, 271, 292], [45, 46, 47, 0, 64, 78, 92, 110, 127, 144, 162, 185, 204, 226, 249, 272, 293], [61, 62, 63, 64, 0, 79, 93, 111, 128, 145, 163, 186, 205, 227, 250, 273, 294], [75, 76, 77, 78, 79, 0, 94, 112, 129, 146, 164, 187, 206, 228, 251, 274, 295], [89, 90, 91, 92, 93, 94, 0, 113, 130, 147, 165, 188, 207, 229, 252, 275, 296], [107, 108, 109, 110, 111, 112, 113, 0, 131, 148, 166, 189, 208, 230, 253, 276, 297], [124, 125, 126, 127, 128, 129, 130, 131, 0, 149, 167, 190, 209, 231, 254, 277, 298], [141, 142, 143, 144, 145, 146, 147, 148, 149, 0, 168, 191, 210, 232, 255, 278, 299], [159, 160, 161, 162, 163, 164, 165, 166, 167, 168, 0, 192, 211, 233, 256, 279, 300], [182, 183, 184, 185, 186, 187, 188, 189, 190, 191, 192, 0, 212, 234, 257, 280, 301], [201, 202, 203, 204, 205, 206, 207, 208, 209, 210, 211, 212, 0, 235, 258, 281, 302], [223, 224, 225, 226, 227, 228, 229, 230, 231, 232, 233, 234, 235, 0, 259, 282, 303], [246, 247, 248, 249, 250, 251, 252, 253, 254, 255, 256, 257, 258, 259, 0, 283, 304], [269, 270, 271, 272, 273, 274, 275, 276, 277, 278, 279, 280, 281, 282, 283, 0, 305], [290, 291, 292, 293, 294, 295, 296, 297, 298, 299, 300, 301, 302, 303, 304, 305, 0]] : List (List Nat)).getD i []).getD j 0]? = some (Cond.not (Cond.eq (tmS i) (tmS j))) ∨ FL[(([[0, 27, 33, 45, 61, 75, 89, 107, 124, 141, 159, 182, 201, 223, 246, 269, 290], [27, 0, 34, 46, 62, 76, 90, 108, 125, 142, 160, 183, 202, 224, 247, 270, 291], [33, 34, 0, 47, 63, 77, 91, 109, 126, 143, 161, 184, 203, 225, 248, 271, 292], [45, 46, 47, 0, 64, 78, 92, 110, 127, 144, 162, 185, 204, 226, 249, 272, 293], [61, 62, 63, 64, 0, 79, 93, 111, 128, 145, 163, 186, 205, 227, 250, 273, 294], [75, 76, 77, 78, 79, 0, 94, 112, 129, 146, 164, 187, 206, 228, 251, 274, 295], [89, 90, 91, 92, 93, 94, 0, 113, 130, 147, 165, 188, 207, 229, 252, 275, 296], [107, 108, 109, 110, 111, 112, 113, 0, 131, 148, 166, 189, 208, 230, 253, 276, 297], [124, 125, 126, 127, 128, 129, 130, 131, 0, 149, 167, 190, 209, 231, 254, 277, 298], [141, 142, 143, 144, 145, 146, 147, 148, 149, 0, 168, 191, 210, 232, 255, 278, 299], [159, 160, 161, 162, 163, 164, 165, 166, 167, 168, 0, 192, 211, 233, 256, 279, 300], [182, 183, 184, 185, 186, 187, 188, 189, 190, 191, 192, 0, 212, 234, 257, 280, 301], [201, 202, 203, 204, 205, 206, 207, 208, 209, 210, 211, 212, 0, 235, 258, 281, 302], [223, 224, 225, 226, 227, 228, 229, 230, 231, 232, 233, 234, 235, 0, 259, 282, 303], [246, 247, 248, 249, 250, 251, 252, 253, 254, 255, 256, 257, 258, 259, 0, 283, 304], [269, 270, 271, 272, 273, 274, 275, 276, 277, 278, 279, 280, 281, 282, 283, 0, 305], [290, 291, 292, 293, 294, 295, 296, 297, 298, 299, 300, 301, 302, 303, 304, 305, 0]] : List (List Nat)).getD i []).getD j 0]? = some (Cond.not (Cond.eq (tmS j) (tmS i)))) := by decide +kernel
theorem fl_dfA : FL[5]? = some (Jvm.Cond.arrayOf (Jvm.Term.static "java/util/ArrayList" "DEFAULTCAPACITY_EMPTY_ELEMENTDATA" "[Ljava/lang/Object;") (Jvm.ClassFile.FieldType.object "java/lang/Object")) := by decide +kernel
theorem fl_dfL : FL[7]? = some (Jvm.Cond.eq (Jvm.Term.length (Jvm.Term.static "java/util/ArrayList" "DEFAULTCAPACITY_EMPTY_ELEMENTDATA" "[Ljava/lang/Object;")) (Jvm.Term.int (0 : Int32))) := by decide +kernel
theorem fl_cst : FL[8]? = some (Jvm.Cond.eq (Jvm.Term.static "java/lang/String" "COMPACT_STRINGS" "Z") (Jvm.Term.int (1 : Int32))) := by decide +kernel
theorem fl_sio : FL[9]? = some (Jvm.Cond.isRef (Jvm.Term.static "jdk/internal/util/Preconditions" "SIOOBE_FORMATTER" "Ljava/util/function/BiFunction;")) := by decide +kernel
theorem fl_mir : FL[13]? = some (Jvm.Cond.isRef (Jvm.Term.mirror "[Ljava/lang/Object;")) := by decide +kernel
set_option maxHeartbeats 8000000 in
set_option maxRecDepth 100000 in
theorem start_env {s : State} {b : Nat} (hts : ∀ w ∈ lw_tbl, w.before #[Value.ref b] s = true) (hgv : (Jvm.Cond.and given_1 narrow_1).before #[Value.ref b] s = true) : ∃ E : hE, eH E = s.heap ∧ EnvOk E ∧ EnvS E ∧ EnvL E ∧ KX E s := by
  have hs : ∀ w ∈ FL, w.before #[Value.ref b] s = true := flat_of_before _ hgv
  have hq : ∀ {n : Nat} {w : Cond}, FL[n]? = some w → w.before #[Value.ref b] s = true := fun h => hs _ (List.mem_of_getElem? h)
  have htg : ∀ w ∈ tg, w.before #[Value.ref b] s = true := fun w hw => hts w (tg_lw hw)
  have hA : ∀ a : Nat, a < s.heap.size → ¬ (fun q : Nat => s.heap.size ≤ q) a := fun a h => Nat.not_le.mpr h
  obtain ⟨c0, iS0, hKn0⟩ := u_known (C := R_Rw) (T := F_Rw) (N := 3) (n := 3) htg i_Rw (htg _ tw_34)
  obtain ⟨c1, iS1, hKn1⟩ := u_known (C := R_Dc) (T := F_Dc) (N := 4) (n := 4) htg i_Dc (htg _ tw_201)
  obtain ⟨c2, iS2, hKn2⟩ := u_known (C := R_Tp) (T := F_Tp) (N := 5) (n := 5) htg i_Tp (htg _ tw_637)
  obtain ⟨c3, iS3, hKn3⟩ := u_known (C := R_Sf) (T := F_Sf) (N := 3) (n := 3) htg i_Sf (htg _ tw_80)
  obtain ⟨c4, iS4, hKn4⟩ := u_known (C := R_AL) (T := F_AL) (N := 3) (n := 3) htg i_AL (htg _ tw_86)
  obtain ⟨c5, iS5, hKn5⟩ := u_known (C := R_Bl) (T := F_Bl) (N := 2) (n := 2) htg i_Bl (htg _ tw_74)
  obtain ⟨c6, iS6, hKn6⟩ := u_known (C := R_Dg) (T := F_Dg) (N := 4) (n := 4) htg i_Dg (htg _ tw_51)
  obtain ⟨c7, iS7, hKn7⟩ := u_known (C := R_Ln) (T := F_Ln) (N := 5) (n := 5) htg i_Ln (htg _ tw_237)
  obtain ⟨c8, iS8, hKn8⟩ := u_known (C := R_Rd) (T := F_Rd) (N := 8) (n := 8) htg i_Rd (htg _ tw_195)
  obtain ⟨c9, iS9, hKn9⟩ := u_known (C := R_B) (T := F_B) (N := 5) (n := 5) htg i_B (htg _ tw_26)
  obtain ⟨c10, iS10, hKn10⟩ := u_known (C := R_Mo) (T := F_Mo) (N := 26) (n := 26) htg i_Mo (htg _ tw_797)
  obtain ⟨dC, dI, hKc⟩ : ∃ (dC : Nat → ClassId) (dI : Nat → Nat → Nat), ∀ (k : Nat) (q : vw_C), classes[k]? = some q → u_Kn s q.1 q.2.1 q.2.2 (dC k) (dI k) := by
    refine ⟨fun k => if k = 0 then c0 else if k = 1 then c1 else if k = 2 then c2 else if k = 3 then c3 else if k = 4 then c4 else if k = 5 then c5 else if k = 6 then c6 else if k = 7 then c7 else if k = 8 then c8 else if k = 9 then c9 else c10, fun k => if k = 0 then iS0 else if k = 1 then iS1 else if k = 2 then iS2 else if k = 3 then iS3 else if k = 4 then iS4 else if k = 5 then iS5 else if k = 6 then iS6 else if k = 7 then iS7 else if k = 8 then iS8 else if k = 9 then iS9 else iS10, ?_⟩
    intro k q hq
    match k, hq with
    | 0, hq => cases hq; exact hKn0
    | 1, hq => cases hq; exact hKn1
    | 2, hq => cases hq; exact hKn2
    | 3, hq => cases hq; exact hKn3
    | 4, hq => cases hq; exact hKn4
    | 5, hq => cases hq; exact hKn5
    | 6, hq => cases hq; exact hKn6
    | 7, hq => cases hq; exact hKn7
    | 8, hq => cases hq; exact hKn8
    | 9, hq => cases hq; exact hKn9
    | 10, hq => cases hq; exact hKn10
    | k + 11, hq => simp [classes] at hq
  obtain ⟨aI, kI, mI, fI1, fI2, fI3⟩ := Cond.arrayClass_spec (args := #[Value.ref b]) (first := s) (o := none) (s := s) (idx := []) (type := .int) (htg _ tw_72)
  obtain ⟨aC, kC, mC, fC1, fC2, fC3⟩ := Cond.arrayClass_spec (args := #[Value.ref b]) (first := s) (o := none) (s := s) (idx := []) (type := .char) (htg _ tw_49)
  have hao := hts _ tz_609
  obtain ⟨mO, aO, kO, g1, -, g2, g3, g4⟩ := Cond.arrayOver_spec (args := #[Value.ref b]) (first := s) (o := none) (s := s) (idx := []) (n := "java/lang/Object") hao
  obtain ⟨K0, Vv, hS0, hev⟩ := vk_Sof (args := #[Value.ref b]) (s := s) (N := 17) (tm := tmS) (len := strT.map List.length) (byt := strT.map (List.map nI)) (A := fun q : Nat => s.heap.size ≤ q) (by decide +kernel) (fun i hi => hq (fl_ex i hi)) (fun i hi => hq (fl_co i hi)) (fun i hi => hq (fl_ar i hi)) (fun i hi => hq (fl_le i hi)) (fun i hi j hj => hq (fl_el i hi j hj)) (fun i j hi hj hn => (fl_ne i hi j hj hn).imp (fun h => hq h) (fun h => hq h)) hA
  obtain ⟨tD, htD, hTD⟩ := va_Tof (args := #[Value.ref b]) (s := s) (tm := Term.static "java/util/ArrayList" "DEFAULTCAPACITY_EMPTY_ELEMENTDATA" "[Ljava/lang/Object;") (ty := .object "java/lang/Object") (N := 0) (f := fun _ => .null) (A := fun q : Nat => s.heap.size ≤ q) (by decide) (hq fl_dfA) (va_eqt (hq fl_dfL)) (fun j hj => absurd hj (Nat.not_lt_zero j)) hA
  have hZD := va_Zof (args := #[Value.ref b]) (s := s) (A := fun q : Nat => s.heap.size ≤ q) (hts _ tz_98) (htg _ tw_8) htD hA
  have hZC := va_Zof (args := #[Value.ref b]) (s := s) (A := fun q : Nat => s.heap.size ≤ q) (hts _ tz_334) (htg _ tw_13) (va_eqt (hq fl_cst)) hA
  have hZS := va_Zqof (args := #[Value.ref b]) (s := s) (A := fun q : Nat => s.heap.size ≤ q) (hts _ tz_350) (htg _ tw_15) (hq fl_sio) hA
  obtain ⟨mi, hMi⟩ := va_Mi.of (args := #[Value.ref b]) (hq fl_mir)
  obtain ⟨K, hK⟩ : ∃ K : Nat → Nat, K = fun i => if i = 100 then tD else if i = 101 then mi else K0 i := ⟨_, rfl⟩
  have hKl : ∀ i, i < 17 → K i = K0 i := fun i hi => by rw [hK]; simp only; rw [if_neg (by omega), if_neg (by omega)]
  have hS1 : vk_S 17 (strT.map List.length) (strT.map (List.map nI)) K Vv (fun q : Nat => s.heap.size ≤ q) s s.heap := ⟨fun i hi => by rw [hKl i hi]; exact hS0.1 i hi, fun i j hi hj e9 => hS0.2 i j hi hj (by rw [hKl i hi, hKl j hj] at e9; exact e9)⟩
  have hK100 : K 100 = tD := by rw [hK]; rfl
  have hK101 : K 101 = mi := by rw [hK]; rfl
  obtain ⟨P, hP⟩ : ∃ P : State → Prop, P = fun U => vk_S 17 (strT.map List.length) (strT.map (List.map nI)) K Vv (fun q : Nat => s.heap.size ≤ q) U s.heap ∧ va_Z "java/lang/String" "COMPACT_STRINGS" "Z" (.int 1) (fun q : Nat => s.heap.size ≤ q) U s.heap ∧ va_Zq "jdk/internal/util/Preconditions" "SIOOBE_FORMATTER" "Ljava/util/function/BiFunction;" (fun q : Nat => s.heap.size ≤ q) U s.heap ∧ va_Z "java/util/ArrayList" "DEFAULTCAPACITY_EMPTY_ELEMENTDATA" "[Ljava/lang/Object;" (.ref (K 100)) (fun q : Nat => s.heap.size ≤ q) U s.heap ∧ va_T (.object "java/lang/Object") (K 100) 0 (fun _ => .null) (fun q : Nat => s.heap.size ≤ q) U s.heap ∧ va_Mi "[Ljava/lang/Object;" (K 101) U := ⟨_, rfl⟩
  have mv : ∀ u U : State, u.vm.Alike U.vm → P u → P U := by
    intro u U hvm h
    rw [hP] at h ⊢
    exact ⟨vk_S.moved hvm h.1, va_Z.moved hvm h.2.1, va_Zq.moved hvm h.2.2.1, va_Z.moved hvm h.2.2.2.1, va_T.moved hvm h.2.2.2.2.1, va_Mi.moved hvm h.2.2.2.2.2⟩
  have hPs : P s := by rw [hP]; exact ⟨hS1, hZC, hZS, by rw [hK100]; exact hZD, by rw [hK100]; exact hTD, by rw [hK101]; exact hMi⟩
  have hltD : tD < s.heap.size := by obtain ⟨cell, h1, -⟩ := hTD; exact (Array.getElem?_eq_some_iff.mp h1).1
  refine ⟨(s.heap, (dC, dI), fun k => if k = 0 then aI else if k = 1 then aC else aO, K, Vv, P), rfl, ⟨fun u U hW h => mv u U hW.alike h, fun U g mk a h => mv U (U.calling g mk a) (Vm.Alike.refl U.vm) h⟩, ?_, ?_, ?_⟩
  · intro u h
    have h : P u := h
    rw [hP] at h
    exact ⟨h.1, h.2.1, h.2.2.1⟩
  · refine ⟨?_, ?_⟩
    · show K 100 < s.heap.size
      rw [hK100]; exact hltD
    · intro u h
      have h : P u := h
      rw [hP] at h
      exact ⟨h.2.2.2.1, h.2.2.2.2.1, h.2.2.2.2.2⟩
  · refine ⟨⟨hKc, ?_⟩, ?_, ?_, ?_, va_AO.of hao, ?_, hPs⟩
    · intro k q hq
      match k, hq with
      | 0, hq => cases hq; exact ⟨fun N z => ⟨fun k h => (by cases h), kI, fI2, mI, fI3⟩, fI1⟩
      | 1, hq => cases hq; exact ⟨fun N z => ⟨fun k h => (by cases h), kC, fC2, mC, fC3⟩, fC1⟩
      | 2, hq => cases hq; exact ⟨fun N z => ⟨fun k h => (by cases h), kO, g2, mO, g3⟩, kO, mO, g2, g3, g1, g4⟩
      | k + 3, hq => simp at hq
    · intro w hw
      simp only [nwN, List.mem_cons, List.not_mem_nil, or_false] at hw
      rcases hw with rfl | rfl | rfl | rfl | rfl
      · exact va_Nw.of rfl (hts _ tz_52)
      · exact va_Nw.of rfl (hts _ tz_75)
      · exact va_Nw.of rfl (hts _ tz_202)
      · exact va_Nw.of rfl (hts _ tz_544)
      · exact va_Nw.of rfl (hts _ tz_638)
    · intro w hw
      simp only [nwC, List.mem_cons, List.not_mem_nil, or_false] at hw
      rcases hw with rfl | rfl | rfl | rfl | rfl | rfl | rfl | rfl | rfl | rfl | rfl | rfl | rfl | rfl
      · exact va_Nw.of rfl (hts _ tz_1100)
      · exact va_Nw.of rfl (hts _ tz_1101)
      · exact va_Nw.of rfl (hts _ tz_1102)
      · exact va_Nw.of rfl (hts _ tz_1106)
      · exact va_Nw.of rfl (hts _ tz_1107)
      · exact va_Nw.of rfl (hts _ tz_1108)
      · exact va_Nw.of rfl (hts _ tz_1109)
      · exact va_Nw.of rfl (hts _ tz_1110)
      · exact va_Nw.of rfl (hts _ tz_1111)
      · exact va_Nw.of rfl (hts _ tz_1112)
      · exact va_Nw.of rfl (hts _ tz_1113)
      · exact va_Nw.of rfl (hts _ tz_1114)
      · exact va_Nw.of rfl (hts _ tz_1115)
      · exact va_Nw.of rfl (hts _ tz_1116)
    · intro w hw
      simp only [nwD, List.mem_cons, List.not_mem_nil, or_false] at hw
      rcases hw with rfl | rfl | rfl | rfl
      · exact va_Nw.of rfl (hts _ tz_657)
      · exact va_Nw.of rfl (hts _ tz_680)
      · exact va_Nw.of rfl (hts _ tz_755)
      · exact va_Nw.of rfl (hts _ tz_1105)
    · intro w hw
      simp only [nwS, List.mem_cons, List.not_mem_nil, or_false] at hw
      rcases hw with rfl | rfl | rfl | rfl | rfl | rfl | rfl | rfl | rfl | rfl | rfl | rfl | rfl | rfl | rfl | rfl | rfl
      · exact (show vk_R "BaselineText$Reader" 83 "#sig" (K 0) s from by rw [hKl 0 (by decide)]; exact vk_R.of (hts _ tz_320) (hev 0 (by decide)))
      · exact (show vk_R "BaselineText$Reader" 92 "1" (K 1) s from by rw [hKl 1 (by decide)]; exact vk_R.of (hts _ tz_374) (hev 1 (by decide)))
      · exact (show vk_R "BaselineText$Reader" 94 "2" (K 2) s from by rw [hKl 2 (by decide)]; exact vk_R.of (hts _ tz_375) (hev 2 (by decide)))
      · exact (show vk_R "BaselineText$Vocabulary" 24 "public" (K 3) s from by rw [hKl 3 (by decide)]; exact vk_R.of (hts _ tz_407) (hev 3 (by decide)))
      · exact (show vk_R "BaselineText$Vocabulary" 30 "protected" (K 4) s from by rw [hKl 4 (by decide)]; exact vk_R.of (hts _ tz_408) (hev 4 (by decide)))
      · exact (show vk_R "BaselineText$Vocabulary" 32 "static" (K 5) s from by rw [hKl 5 (by decide)]; exact vk_R.of (hts _ tz_409) (hev 5 (by decide)))
      · exact (show vk_R "BaselineText$Vocabulary" 28 "final" (K 6) s from by rw [hKl 6 (by decide)]; exact vk_R.of (hts _ tz_410) (hev 6 (by decide)))
      · exact (show vk_R "BaselineText$Vocabulary" 26 "abstract" (K 7) s from by rw [hKl 7 (by decide)]; exact vk_R.of (hts _ tz_411) (hev 7 (by decide)))
      · exact (show vk_R "BaselineText$Vocabulary" 42 "method" (K 8) s from by rw [hKl 8 (by decide)]; exact vk_R.of (hts _ tz_428) (hev 8 (by decide)))
      · exact (show vk_R "BaselineText$Vocabulary" 44 "field" (K 9) s from by rw [hKl 9 (by decide)]; exact vk_R.of (hts _ tz_429) (hev 9 (by decide)))
      · exact (show vk_R "BaselineText$Vocabulary" 34 "class" (K 10) s from by rw [hKl 10 (by decide)]; exact vk_R.of (hts _ tz_433) (hev 10 (by decide)))
      · exact (show vk_R "BaselineText$Vocabulary" 36 "interface" (K 11) s from by rw [hKl 11 (by decide)]; exact vk_R.of (hts _ tz_434) (hev 11 (by decide)))
      · exact (show vk_R "BaselineText$Vocabulary" 38 "enum" (K 12) s from by rw [hKl 12 (by decide)]; exact vk_R.of (hts _ tz_435) (hev 12 (by decide)))
      · exact (show vk_R "BaselineText$Vocabulary" 40 "record" (K 13) s from by rw [hKl 13 (by decide)]; exact vk_R.of (hts _ tz_436) (hev 13 (by decide)))
      · exact (show vk_R "BaselineText$Grammar" 9 "<init>" (K 14) s from by rw [hKl 14 (by decide)]; exact vk_R.of (hts _ tz_446) (hev 14 (by decide)))
      · exact (show vk_R "BaselineText$Baseline" 62 "#sig " (K 15) s from by rw [hKl 15 (by decide)]; exact vk_R.of (hts _ tz_672) (hev 15 (by decide)))
      · exact (show vk_R "BaselineText$Declaration" 45 "  " (K 16) s from by rw [hKl 16 (by decide)]; exact vk_R.of (hts _ tz_684) (hev 16 (by decide)))
