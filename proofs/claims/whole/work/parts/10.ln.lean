/-- VOCABULARY: which String constant is a mark's, a kind's word -/
def markS (mem : Bool) (i : Nat) : Nat := if mem then [3, 4, 5, 6, 7].getD i 7 else [3, 7, 6].getD i 6
def kindS (mem : Bool) (k : Nat) : Nat := if mem then (if k = 1 then 8 else 9) else [10, 11, 12, 13].getD k 13
def nMarks (mem : Bool) : Nat := if mem then 5 else 3
def nKinds (mem : Bool) : Nat := if mem then 2 else 4
/-- DIAGNOSTICS: the object, its three arrays, all that were told; the first 20 are kept -/
def Dg (E : hE) (H : Heap) (a n1 n2 n3 : Nat) (ds : List (Nat × Nat × Nat)) : Prop := hOb (eD E) classes H a 6 [.ref n1, .ref n2, .ref n3, .int (nI ds.length)] ∧ (∃ f1 f2 f3 : Nat → Int32, hAi H n1 (eA E 0) 20 f1 ∧ hAi H n2 (eA E 0) 20 f2 ∧ hAi H n3 (eA E 0) 20 f3 ∧ ∀ i, i < ds.length → i < 20 → f1 i = nI (ds.getD i (0, 0, 0)).1 ∧ f2 i = nI (ds.getD i (0, 0, 0)).2.1 ∧ f3 i = nI (ds.getD i (0, 0, 0)).2.2) ∧ (eB E ≤ a ∧ eB E ≤ n1 ∧ eB E ≤ n2 ∧ eB E ≤ n3) ∧ (a ≠ n1 ∧ a ≠ n2 ∧ a ≠ n3 ∧ n1 ≠ n2 ∧ n1 ≠ n3 ∧ n2 ≠ n3)
def dS (a n1 n2 n3 : Nat) : Nat → Prop := fun q => q = a ∨ q = n1 ∨ q = n2 ∨ q = n3
theorem Dg.ch {E : hE} {H H1 : Heap} {a n1 n2 n3 : Nat} {ds : List (Nat × Nat × Nat)} {S : Nat → Prop} (h : Dg E H a n1 n2 n3 ds) (k : hCh S H H1) (hs : ∀ q, dS a n1 n2 n3 q → ¬ S q) : Dg E H1 a n1 n2 n3 ds := by
  obtain ⟨ho, ⟨f1, f2, f3, h1, h2, h3, hf⟩, r⟩ := h
  exact ⟨ho.ch k (hs _ (Or.inl rfl)), ⟨f1, f2, f3, h1.ch k (hs _ (Or.inr (Or.inl rfl))), h2.ch k (hs _ (Or.inr (Or.inr (Or.inl rfl)))), h3.ch k (hs _ (Or.inr (Or.inr (Or.inr rfl)))), hf⟩, r⟩
theorem dS.lo {E : hE} {H : Heap} {a n1 n2 n3 : Nat} {ds : List (Nat × Nat × Nat)} (h : Dg E H a n1 n2 n3 ds) : ∀ q, dS a n1 n2 n3 q → eB E ≤ q := fun q hq => by
  obtain ⟨-, -, ⟨b1, b2, b3, b4⟩, -⟩ := h
  rcases hq with e | e | e | e <;> (rw [e]; assumption)
theorem getD_app {α : Type} {xs : List α} {x d : α} {i : Nat} (h : i < xs.length) : (xs ++ [x]).getD i d = xs.getD i d := by
  rw [List.getD_eq_getElem?_getD, List.getD_eq_getElem?_getD, List.getElem?_append_left h]
theorem getD_last {α : Type} {xs : List α} {x d : α} : (xs ++ [x]).getD xs.length d = x := by
  rw [List.getD_eq_getElem?_getD]; simp
/-- LINES: blanks at the end dropped, the next word -/
def trimE (txt : List Nat) (st : Nat) : Nat → Nat
  | 0 => 0
  | e + 1 => if st < e + 1 ∧ txt.getD e 0 = 32 then trimE txt st e else e + 1
def skBl : List Nat → Nat → Nat
  | [], i => i
  | x :: r, i => if x = 32 then skBl r (i + 1) else i
def edW : List Nat → Nat → Nat
  | [], i => i
  | x :: r, i => if x = 32 then i else edW r (i + 1)
def wdS (L : List Nat) (i : Nat) : Nat := skBl (L.drop i) i
def wdE (L : List Nat) (i : Nat) : Nat := edW (L.drop i) i
theorem skBl_le : ∀ (r : List Nat) (i : Nat), i ≤ skBl r i ∧ skBl r i ≤ i + r.length
  | [], i => ⟨Nat.le_refl _, Nat.le_refl _⟩
  | x :: r, i => by
    unfold skBl
    by_cases c : x = 32
    · rw [if_pos c, List.length_cons]; have := skBl_le r (i + 1); omega
    · rw [if_neg c, List.length_cons]; omega
theorem edW_le : ∀ (r : List Nat) (i : Nat), i ≤ edW r i ∧ edW r i ≤ i + r.length
  | [], i => ⟨Nat.le_refl _, Nat.le_refl _⟩
  | x :: r, i => by
    unfold edW
    by_cases c : x = 32
    · rw [if_pos c, List.length_cons]; omega
    · rw [if_neg c, List.length_cons]; have := edW_le r (i + 1); omega
theorem wdS_le {L : List Nat} {i : Nat} (h : i ≤ L.length) : i ≤ wdS L i ∧ wdS L i ≤ L.length := by
  have := skBl_le (L.drop i) i; rw [List.length_drop] at this; unfold wdS; omega
theorem wdE_le {L : List Nat} {i : Nat} (h : i ≤ L.length) : i ≤ wdE L i ∧ wdE L i ≤ L.length := by
  have := edW_le (L.drop i) i; rw [List.length_drop] at this; unfold wdE; omega
theorem skBl_step {L : List Nat} {i : Nat} (h : i < L.length) : skBl (L.drop i) i = if L.getD i 0 = 32 then skBl (L.drop (i + 1)) (i + 1) else i := by rw [drop_cons h]; rfl
theorem edW_step {L : List Nat} {i : Nat} (h : i < L.length) : edW (L.drop i) i = if L.getD i 0 = 32 then i else edW (L.drop (i + 1)) (i + 1) := by rw [drop_cons h]; rfl
theorem getD_take {xs : List Nat} {n i : Nat} (h : i < n) : (xs.take n).getD i 0 = xs.getD i 0 := by
  rw [List.getD_eq_getElem?_getD, List.getD_eq_getElem?_getD, List.getElem?_take_of_lt h]
theorem len_take {xs : List Nat} {n : Nat} (h : n ≤ xs.length) : (xs.take n).length = n := by rw [List.length_take]; omega
theorem trimE_le (txt : List Nat) (st : Nat) : ∀ e, trimE txt st e ≤ e ∧ (st ≤ e → st ≤ trimE txt st e)
  | 0 => ⟨Nat.le_refl _, fun h => h⟩
  | e + 1 => by
    unfold trimE
    by_cases c : st < e + 1 ∧ txt.getD e 0 = 32
    · rw [if_pos c]; have := trimE_le txt st e; exact ⟨by omega, fun _ => this.2 (by omega)⟩
    · rw [if_neg c]; exact ⟨Nat.le_refl _, fun h => h⟩
/-- a LINE: the object, its text's row, where it starts and ends, where its word starts and ends -/
def Ln (E : hE) (H : Heap) (a tr st en ws we : Nat) : Prop := hOb (eD E) classes H a 7 [.ref tr, .int (nI st), .int (nI en), .int (nI ws), .int (nI we)] ∧ eB E ≤ a
theorem Ln.ch {E : hE} {H H1 : Heap} {a tr st en ws we : Nat} {S : Nat → Prop} (h : Ln E H a tr st en ws we) (k : hCh S H H1) (hs : ¬ S a) : Ln E H1 a tr st en ws we := ⟨h.1.ch k hs, h.2⟩
set_option maxHeartbeats 4000000 in
set_option maxRecDepth 100000 in
theorem c_Vo_marks (l : Launch) {E : hE} (hE : EnvOk E) {H : Heap} (mem : Bool) : Ct l E y_Vo_marks b_Vo_marks 1 (some .int) (rmA 0 0 0) [.int (bI mem)] H (hQi (fun r H1 => r = nI (nMarks mem) ∧ H1 = H)) := by
  refine hx_enter hE (by decide) (Nat.le_of_ble_eq_true rfl) ?_
  intro p e s m args below meth c ls cx hnm hl
  have hl : lv_has ls 1 [(0, .int (bI mem))] := hl
  have hlo : hLo (eB E) [] := hLo.nil
  cases mem
  · refine lv_iload_n cx.x cx.b d_Vo_marks_0 rfl (lv_at hl 0 rfl) ?_
    refine lv_if_eq (tgt := 8) cx.x cx.b d_Vo_marks_1 (by decide) (fun _ => ?_) (fun c => absurd (by decide) c)
    refine lv_iconst (v := 3) cx.x cx.b d_Vo_marks_8 (by decide) ?_
    exact hx_reti cx.x cx.b cx.r cx.k rfl hlo (fun _ h => h) (Nat.le_of_ble_eq_true rfl) (Nat.le_of_ble_eq_true rfl) d_Vo_marks_9 (⟨rfl, rfl⟩)
  · refine lv_iload_n cx.x cx.b d_Vo_marks_0 rfl (lv_at hl 0 rfl) ?_
    refine lv_if_eq (tgt := 8) cx.x cx.b d_Vo_marks_1 (by decide) (fun c => absurd c (by decide)) (fun _ => ?_)
    refine lv_iconst (v := 5) cx.x cx.b d_Vo_marks_4 (by decide) ?_
    refine lv_goto (tgt := 9) cx.x cx.b d_Vo_marks_5 (by decide) ?_
    exact hx_reti cx.x cx.b cx.r cx.k rfl hlo (fun _ h => h) (Nat.le_of_ble_eq_true rfl) (Nat.le_of_ble_eq_true rfl) d_Vo_marks_9 (⟨rfl, rfl⟩)

set_option maxHeartbeats 4000000 in
set_option maxRecDepth 100000 in
theorem c_Vo_kinds (l : Launch) {E : hE} (hE : EnvOk E) {H : Heap} (mem : Bool) : Ct l E y_Vo_kinds b_Vo_kinds 1 (some .int) (rmA 0 0 0) [.int (bI mem)] H (hQi (fun r H1 => r = nI (nKinds mem) ∧ H1 = H)) := by
  refine hx_enter hE (by decide) (Nat.le_of_ble_eq_true rfl) ?_
  intro p e s m args below meth c ls cx hnm hl
  have hl : lv_has ls 1 [(0, .int (bI mem))] := hl
  have hlo : hLo (eB E) [] := hLo.nil
  cases mem
  · refine lv_iload_n cx.x cx.b d_Vo_kinds_0 rfl (lv_at hl 0 rfl) ?_
    refine lv_if_eq (tgt := 8) cx.x cx.b d_Vo_kinds_1 (by decide) (fun _ => ?_) (fun c => absurd (by decide) c)
    refine lv_iconst (v := 4) cx.x cx.b d_Vo_kinds_8 (by decide) ?_
    exact hx_reti cx.x cx.b cx.r cx.k rfl hlo (fun _ h => h) (Nat.le_of_ble_eq_true rfl) (Nat.le_of_ble_eq_true rfl) d_Vo_kinds_9 (⟨rfl, rfl⟩)
  · refine lv_iload_n cx.x cx.b d_Vo_kinds_0 rfl (lv_at hl 0 rfl) ?_
    refine lv_if_eq (tgt := 8) cx.x cx.b d_Vo_kinds_1 (by decide) (fun c => absurd c (by decide)) (fun _ => ?_)
    refine lv_iconst (v := 2) cx.x cx.b d_Vo_kinds_4 (by decide) ?_
    refine lv_goto (tgt := 9) cx.x cx.b d_Vo_kinds_5 (by decide) ?_
    exact hx_reti cx.x cx.b cx.r cx.k rfl hlo (fun _ h => h) (Nat.le_of_ble_eq_true rfl) (Nat.le_of_ble_eq_true rfl) d_Vo_kinds_9 (⟨rfl, rfl⟩)

set_option maxHeartbeats 4000000 in
set_option maxRecDepth 100000 in
theorem c_Vo_typeMark (l : Launch) {E : hE} (hE : EnvOk E) {H : Heap} {i : Nat} (hi : i < 3) : Ct l E y_Vo_typeMark b_Vo_typeMark 1 (some (.object "java/lang/String")) (rmA 0 0 0) [.int (nI i)] H (hQr (fun r H1 => r = some (eK E (markS false i)) ∧ H1 = H)) := by
  refine hx_enter hE (by decide) (Nat.le_of_ble_eq_true rfl) ?_
  intro p e s m args below meth c ls cx hnm hl
  have hl : lv_has ls 1 [(0, .int (nI i))] := hl
  have hlo : hLo (eB E) [] := hLo.nil
  refine lv_iload_n cx.x cx.b d_Vo_typeMark_0 rfl (lv_at hl 0 rfl) ?_
  rcases (show i = 0 ∨ i = 1 ∨ i = 2 by omega) with rfl | rfl | rfl
  · refine lv_lookup (tgt := 28) (off := 27) cx.x cx.b d_Vo_typeMark_1 (by decide) (by decide) (by decide) ?_
    refine va_ldcS cx.x cx.b cx.o (cx.X.2.2.2.2.2.1 ("BaselineText$Vocabulary", 24, "public", 3) (List.mem_of_getElem? (i := 3) rfl)) d_Vo_typeMark_28 ?_
    exact hx_reta (v := some (eK E 3)) cx.x cx.b cx.r cx.k (Or.inl ⟨_, rfl⟩) hlo (fun _ h => h) (Nat.le_of_ble_eq_true rfl) (Nat.le_of_ble_eq_true rfl) d_Vo_typeMark_30 (⟨rfl, rfl⟩)
  · refine lv_lookup (tgt := 31) (off := 30) cx.x cx.b d_Vo_typeMark_1 (by decide) (by decide) (by decide) ?_
    refine va_ldcS cx.x cx.b cx.o (cx.X.2.2.2.2.2.1 ("BaselineText$Vocabulary", 26, "abstract", 7) (List.mem_of_getElem? (i := 7) rfl)) d_Vo_typeMark_31 ?_
    exact hx_reta (v := some (eK E 7)) cx.x cx.b cx.r cx.k (Or.inl ⟨_, rfl⟩) hlo (fun _ h => h) (Nat.le_of_ble_eq_true rfl) (Nat.le_of_ble_eq_true rfl) d_Vo_typeMark_33 (⟨rfl, rfl⟩)
  · refine lv_lookup (tgt := 34) (off := 33) cx.x cx.b d_Vo_typeMark_1 (by decide) (by decide) (by decide) ?_
    refine va_ldcS cx.x cx.b cx.o (cx.X.2.2.2.2.2.1 ("BaselineText$Vocabulary", 28, "final", 6) (List.mem_of_getElem? (i := 6) rfl)) d_Vo_typeMark_34 ?_
    exact hx_reta (v := some (eK E 6)) cx.x cx.b cx.r cx.k (Or.inl ⟨_, rfl⟩) hlo (fun _ h => h) (Nat.le_of_ble_eq_true rfl) (Nat.le_of_ble_eq_true rfl) d_Vo_typeMark_36 (⟨rfl, rfl⟩)

set_option maxHeartbeats 4000000 in
set_option maxRecDepth 100000 in
theorem c_Vo_memberMark (l : Launch) {E : hE} (hE : EnvOk E) {H : Heap} {i : Nat} (hi : i < 5) : Ct l E y_Vo_memberMark b_Vo_memberMark 1 (some (.object "java/lang/String")) (rmA 0 0 0) [.int (nI i)] H (hQr (fun r H1 => r = some (eK E (markS true i)) ∧ H1 = H)) := by
  refine hx_enter hE (by decide) (Nat.le_of_ble_eq_true rfl) ?_
  intro p e s m args below meth c ls cx hnm hl
  have hl : lv_has ls 1 [(0, .int (nI i))] := hl
  have hlo : hLo (eB E) [] := hLo.nil
  refine lv_iload_n cx.x cx.b d_Vo_memberMark_0 rfl (lv_at hl 0 rfl) ?_
  rcases (show i = 0 ∨ i = 1 ∨ i = 2 ∨ i = 3 ∨ i = 4 by omega) with rfl | rfl | rfl | rfl | rfl
  · refine lv_tableIn (tgt := 32) (off := 31) cx.x cx.b d_Vo_memberMark_1 (by decide) (by decide) (by decide) (by decide) ?_
    refine va_ldcS cx.x cx.b cx.o (cx.X.2.2.2.2.2.1 ("BaselineText$Vocabulary", 24, "public", 3) (List.mem_of_getElem? (i := 3) rfl)) d_Vo_memberMark_32 ?_
    exact hx_reta (v := some (eK E 3)) cx.x cx.b cx.r cx.k (Or.inl ⟨_, rfl⟩) hlo (fun _ h => h) (Nat.le_of_ble_eq_true rfl) (Nat.le_of_ble_eq_true rfl) d_Vo_memberMark_34 (⟨rfl, rfl⟩)
  · refine lv_tableIn (tgt := 35) (off := 34) cx.x cx.b d_Vo_memberMark_1 (by decide) (by decide) (by decide) (by decide) ?_
    refine va_ldcS cx.x cx.b cx.o (cx.X.2.2.2.2.2.1 ("BaselineText$Vocabulary", 30, "protected", 4) (List.mem_of_getElem? (i := 4) rfl)) d_Vo_memberMark_35 ?_
    exact hx_reta (v := some (eK E 4)) cx.x cx.b cx.r cx.k (Or.inl ⟨_, rfl⟩) hlo (fun _ h => h) (Nat.le_of_ble_eq_true rfl) (Nat.le_of_ble_eq_true rfl) d_Vo_memberMark_37 (⟨rfl, rfl⟩)
  · refine lv_tableIn (tgt := 38) (off := 37) cx.x cx.b d_Vo_memberMark_1 (by decide) (by decide) (by decide) (by decide) ?_
    refine va_ldcS cx.x cx.b cx.o (cx.X.2.2.2.2.2.1 ("BaselineText$Vocabulary", 32, "static", 5) (List.mem_of_getElem? (i := 5) rfl)) d_Vo_memberMark_38 ?_
    exact hx_reta (v := some (eK E 5)) cx.x cx.b cx.r cx.k (Or.inl ⟨_, rfl⟩) hlo (fun _ h => h) (Nat.le_of_ble_eq_true rfl) (Nat.le_of_ble_eq_true rfl) d_Vo_memberMark_40 (⟨rfl, rfl⟩)
  · refine lv_tableIn (tgt := 41) (off := 40) cx.x cx.b d_Vo_memberMark_1 (by decide) (by decide) (by decide) (by decide) ?_
    refine va_ldcS cx.x cx.b cx.o (cx.X.2.2.2.2.2.1 ("BaselineText$Vocabulary", 28, "final", 6) (List.mem_of_getElem? (i := 6) rfl)) d_Vo_memberMark_41 ?_
    exact hx_reta (v := some (eK E 6)) cx.x cx.b cx.r cx.k (Or.inl ⟨_, rfl⟩) hlo (fun _ h => h) (Nat.le_of_ble_eq_true rfl) (Nat.le_of_ble_eq_true rfl) d_Vo_memberMark_43 (⟨rfl, rfl⟩)
  · refine lv_tableOut (tgt := 44) cx.x cx.b d_Vo_memberMark_1 (by decide) (by decide) ?_
    refine va_ldcS cx.x cx.b cx.o (cx.X.2.2.2.2.2.1 ("BaselineText$Vocabulary", 26, "abstract", 7) (List.mem_of_getElem? (i := 7) rfl)) d_Vo_memberMark_44 ?_
    exact hx_reta (v := some (eK E 7)) cx.x cx.b cx.r cx.k (Or.inl ⟨_, rfl⟩) hlo (fun _ h => h) (Nat.le_of_ble_eq_true rfl) (Nat.le_of_ble_eq_true rfl) d_Vo_memberMark_46 (⟨rfl, rfl⟩)

set_option maxHeartbeats 4000000 in
set_option maxRecDepth 100000 in
theorem c_Vo_typeKind (l : Launch) {E : hE} (hE : EnvOk E) {H : Heap} {i : Nat} (hi : i < 4) : Ct l E y_Vo_typeKind b_Vo_typeKind 1 (some (.object "java/lang/String")) (rmA 0 0 0) [.int (nI i)] H (hQr (fun r H1 => r = some (eK E (kindS false i)) ∧ H1 = H)) := by
  refine hx_enter hE (by decide) (Nat.le_of_ble_eq_true rfl) ?_
  intro p e s m args below meth c ls cx hnm hl
  have hl : lv_has ls 1 [(0, .int (nI i))] := hl
  have hlo : hLo (eB E) [] := hLo.nil
  refine lv_iload_n cx.x cx.b d_Vo_typeKind_0 rfl (lv_at hl 0 rfl) ?_
  rcases (show i = 0 ∨ i = 1 ∨ i = 2 ∨ i = 3 by omega) with rfl | rfl | rfl | rfl
  · refine lv_tableIn (tgt := 28) (off := 27) cx.x cx.b d_Vo_typeKind_1 (by decide) (by decide) (by decide) (by decide) ?_
    refine va_ldcS cx.x cx.b cx.o (cx.X.2.2.2.2.2.1 ("BaselineText$Vocabulary", 34, "class", 10) (List.mem_of_getElem? (i := 10) rfl)) d_Vo_typeKind_28 ?_
    exact hx_reta (v := some (eK E 10)) cx.x cx.b cx.r cx.k (Or.inl ⟨_, rfl⟩) hlo (fun _ h => h) (Nat.le_of_ble_eq_true rfl) (Nat.le_of_ble_eq_true rfl) d_Vo_typeKind_30 (⟨rfl, rfl⟩)
  · refine lv_tableIn (tgt := 31) (off := 30) cx.x cx.b d_Vo_typeKind_1 (by decide) (by decide) (by decide) (by decide) ?_
    refine va_ldcS cx.x cx.b cx.o (cx.X.2.2.2.2.2.1 ("BaselineText$Vocabulary", 36, "interface", 11) (List.mem_of_getElem? (i := 11) rfl)) d_Vo_typeKind_31 ?_
    exact hx_reta (v := some (eK E 11)) cx.x cx.b cx.r cx.k (Or.inl ⟨_, rfl⟩) hlo (fun _ h => h) (Nat.le_of_ble_eq_true rfl) (Nat.le_of_ble_eq_true rfl) d_Vo_typeKind_33 (⟨rfl, rfl⟩)
  · refine lv_tableIn (tgt := 34) (off := 33) cx.x cx.b d_Vo_typeKind_1 (by decide) (by decide) (by decide) (by decide) ?_
    refine va_ldcS cx.x cx.b cx.o (cx.X.2.2.2.2.2.1 ("BaselineText$Vocabulary", 38, "enum", 12) (List.mem_of_getElem? (i := 12) rfl)) d_Vo_typeKind_34 ?_
    exact hx_reta (v := some (eK E 12)) cx.x cx.b cx.r cx.k (Or.inl ⟨_, rfl⟩) hlo (fun _ h => h) (Nat.le_of_ble_eq_true rfl) (Nat.le_of_ble_eq_true rfl) d_Vo_typeKind_36 (⟨rfl, rfl⟩)
  · refine lv_tableOut (tgt := 37) cx.x cx.b d_Vo_typeKind_1 (by decide) (by decide) ?_
    refine va_ldcS cx.x cx.b cx.o (cx.X.2.2.2.2.2.1 ("BaselineText$Vocabulary", 40, "record", 13) (List.mem_of_getElem? (i := 13) rfl)) d_Vo_typeKind_37 ?_
    exact hx_reta (v := some (eK E 13)) cx.x cx.b cx.r cx.k (Or.inl ⟨_, rfl⟩) hlo (fun _ h => h) (Nat.le_of_ble_eq_true rfl) (Nat.le_of_ble_eq_true rfl) d_Vo_typeKind_39 (⟨rfl, rfl⟩)

set_option maxHeartbeats 4000000 in
set_option maxRecDepth 100000 in
theorem c_Vo_memberKind (l : Launch) {E : hE} (hE : EnvOk E) {H : Heap} {i : Nat} (hi : i < 2) : Ct l E y_Vo_memberKind b_Vo_memberKind 1 (some (.object "java/lang/String")) (rmA 0 0 0) [.int (nI i)] H (hQr (fun r H1 => r = some (eK E (kindS true i)) ∧ H1 = H)) := by
  refine hx_enter hE (by decide) (Nat.le_of_ble_eq_true rfl) ?_
  intro p e s m args below meth c ls cx hnm hl
  have hl : lv_has ls 1 [(0, .int (nI i))] := hl
  have hlo : hLo (eB E) [] := hLo.nil
  refine lv_iload_n cx.x cx.b d_Vo_memberKind_0 rfl (lv_at hl 0 rfl) ?_
  refine lv_iconst (v := 1) cx.x cx.b d_Vo_memberKind_1 (by decide) ?_
  refine lv_icmp_ne (tgt := 10) cx.x cx.b d_Vo_memberKind_2 (by decide) (fun c1 => ?_) (fun c1 => ?_)
  · have c1 : i ≠ 1 := fun zz => c1 ((nI_eq (a := i) (b := 1) (by omega) (by omega)).mpr zz)
    refine va_ldcS cx.x cx.b cx.o (cx.X.2.2.2.2.2.1 ("BaselineText$Vocabulary", 44, "field", 9) (List.mem_of_getElem? (i := 9) rfl)) d_Vo_memberKind_10 ?_
    exact hx_reta (v := some (eK E 9)) cx.x cx.b cx.r cx.k (Or.inl ⟨_, rfl⟩) hlo (fun _ h => h) (Nat.le_of_ble_eq_true rfl) (Nat.le_of_ble_eq_true rfl) d_Vo_memberKind_12 (⟨by unfold kindS; rw [if_pos rfl, if_neg c1], rfl⟩)
  · have c1 : i = 1 := (nI_eq (a := i) (b := 1) (by omega) (by omega)).mp c1
    refine va_ldcS cx.x cx.b cx.o (cx.X.2.2.2.2.2.1 ("BaselineText$Vocabulary", 42, "method", 8) (List.mem_of_getElem? (i := 8) rfl)) d_Vo_memberKind_5 ?_
    refine lv_goto (tgt := 12) cx.x cx.b d_Vo_memberKind_7 (by decide) ?_
    exact hx_reta (v := some (eK E 8)) cx.x cx.b cx.r cx.k (Or.inl ⟨_, rfl⟩) hlo (fun _ h => h) (Nat.le_of_ble_eq_true rfl) (Nat.le_of_ble_eq_true rfl) d_Vo_memberKind_12 (⟨by unfold kindS; rw [if_pos rfl, if_pos c1], rfl⟩)

set_option maxHeartbeats 4000000 in
set_option maxRecDepth 100000 in
theorem c_Vo_mark (l : Launch) {E : hE} (hE : EnvOk E) {H : Heap} (mem : Bool) {i : Nat} (hi : i < nMarks mem) : Ct l E y_Vo_mark b_Vo_mark 2 (some (.object "java/lang/String")) (rmA 1 0 0) [.int (bI mem), .int (nI i)] H (hQr (fun r H1 => r = some (eK E (markS mem i)) ∧ H1 = H)) := by
  refine hx_enter hE (by decide) (Nat.le_of_ble_eq_true rfl) ?_
  intro p e s m args below meth c ls cx hnm hl
  have hl : lv_has ls 2 [(0, .int (bI mem)), (1, .int (nI i))] := hl
  have hlo : hLo (eB E) [] := hLo.nil
  cases mem
  · refine lv_iload_n cx.x cx.b d_Vo_mark_0 rfl (lv_at hl 0 rfl) ?_
    refine lv_if_eq (tgt := 11) cx.x cx.b d_Vo_mark_1 (by decide) (fun _ => ?_) (fun c => absurd (by decide) c)
    refine lv_iload_n cx.x cx.b d_Vo_mark_11 rfl (lv_at hl 1 rfl) ?_
    refine hx_callr (iv_Vo_15 cx (c_Vo_typeMark l hE hi) rfl hl.1 rfl (Nat.le_of_ble_eq_true rfl) d_Vo_mark_12 ⟨Nat.le_of_ble_eq_true rfl, Nat.le_of_ble_eq_true rfl⟩ ⟨Nat.le_of_ble_eq_true rfl, Nat.le_of_ble_eq_true rfl⟩) hlo (fun _ h => h) (fun r3 H2 locs hp1 hlo => ?_)
    obtain ⟨hp1, hH9⟩ := hp1
    have hH9 := hH9.symm
    subst hH9
    subst hp1
    exact hx_reta (v := some (eK E (markS false i))) cx.x cx.b cx.r cx.k (Or.inl ⟨_, rfl⟩) hlo (fun _ h => h) (Nat.le_of_ble_eq_true rfl) (Nat.le_of_ble_eq_true rfl) d_Vo_mark_15 (⟨rfl, rfl⟩)
  · refine lv_iload_n cx.x cx.b d_Vo_mark_0 rfl (lv_at hl 0 rfl) ?_
    refine lv_if_eq (tgt := 11) cx.x cx.b d_Vo_mark_1 (by decide) (fun c => absurd c (by decide)) (fun _ => ?_)
    refine lv_iload_n cx.x cx.b d_Vo_mark_4 rfl (lv_at hl 1 rfl) ?_
    refine hx_callr (iv_Vo_9 cx (c_Vo_memberMark l hE hi) rfl hl.1 rfl (Nat.le_of_ble_eq_true rfl) d_Vo_mark_5 ⟨Nat.le_of_ble_eq_true rfl, Nat.le_of_ble_eq_true rfl⟩ ⟨Nat.le_of_ble_eq_true rfl, Nat.le_of_ble_eq_true rfl⟩) hlo (fun _ h => h) (fun r6 H5 locs hp4 hlo => ?_)
    obtain ⟨hp4, hH9⟩ := hp4
    have hH9 := hH9.symm
    subst hH9
    subst hp4
    refine lv_goto (tgt := 15) cx.x cx.b d_Vo_mark_8 (by decide) ?_
    exact hx_reta (v := some (eK E (markS true i))) cx.x cx.b cx.r cx.k (Or.inl ⟨_, rfl⟩) hlo (fun _ h => h) (Nat.le_of_ble_eq_true rfl) (Nat.le_of_ble_eq_true rfl) d_Vo_mark_15 (⟨rfl, rfl⟩)

set_option maxHeartbeats 4000000 in
set_option maxRecDepth 100000 in
theorem c_Vo_kind (l : Launch) {E : hE} (hE : EnvOk E) {H : Heap} (mem : Bool) {i : Nat} (hi : i < nKinds mem) : Ct l E y_Vo_kind b_Vo_kind 2 (some (.object "java/lang/String")) (rmA 1 0 0) [.int (bI mem), .int (nI i)] H (hQr (fun r H1 => r = some (eK E (kindS mem i)) ∧ H1 = H)) := by
  refine hx_enter hE (by decide) (Nat.le_of_ble_eq_true rfl) ?_
  intro p e s m args below meth c ls cx hnm hl
  have hl : lv_has ls 2 [(0, .int (bI mem)), (1, .int (nI i))] := hl
  have hlo : hLo (eB E) [] := hLo.nil
  cases mem
  · refine lv_iload_n cx.x cx.b d_Vo_kind_0 rfl (lv_at hl 0 rfl) ?_
    refine lv_if_eq (tgt := 11) cx.x cx.b d_Vo_kind_1 (by decide) (fun _ => ?_) (fun c => absurd (by decide) c)
    refine lv_iload_n cx.x cx.b d_Vo_kind_11 rfl (lv_at hl 1 rfl) ?_
    refine hx_callr (iv_Vo_21 cx (c_Vo_typeKind l hE hi) rfl hl.1 rfl (Nat.le_of_ble_eq_true rfl) d_Vo_kind_12 ⟨Nat.le_of_ble_eq_true rfl, Nat.le_of_ble_eq_true rfl⟩ ⟨Nat.le_of_ble_eq_true rfl, Nat.le_of_ble_eq_true rfl⟩) hlo (fun _ h => h) (fun r9 H8 locs hp7 hlo => ?_)
    obtain ⟨hp7, hH9⟩ := hp7
    have hH9 := hH9.symm
    subst hH9
    subst hp7
    exact hx_reta (v := some (eK E (kindS false i))) cx.x cx.b cx.r cx.k (Or.inl ⟨_, rfl⟩) hlo (fun _ h => h) (Nat.le_of_ble_eq_true rfl) (Nat.le_of_ble_eq_true rfl) d_Vo_kind_15 (⟨rfl, rfl⟩)
  · refine lv_iload_n cx.x cx.b d_Vo_kind_0 rfl (lv_at hl 0 rfl) ?_
    refine lv_if_eq (tgt := 11) cx.x cx.b d_Vo_kind_1 (by decide) (fun c => absurd c (by decide)) (fun _ => ?_)
    refine lv_iload_n cx.x cx.b d_Vo_kind_4 rfl (lv_at hl 1 rfl) ?_
    refine hx_callr (iv_Vo_18 cx (c_Vo_memberKind l hE hi) rfl hl.1 rfl (Nat.le_of_ble_eq_true rfl) d_Vo_kind_5 ⟨Nat.le_of_ble_eq_true rfl, Nat.le_of_ble_eq_true rfl⟩ ⟨Nat.le_of_ble_eq_true rfl, Nat.le_of_ble_eq_true rfl⟩) hlo (fun _ h => h) (fun r12 H11 locs hp10 hlo => ?_)
    obtain ⟨hp10, hH9⟩ := hp10
    have hH9 := hH9.symm
    subst hH9
    subst hp10
    refine lv_goto (tgt := 15) cx.x cx.b d_Vo_kind_8 (by decide) ?_
    exact hx_reta (v := some (eK E (kindS true i))) cx.x cx.b cx.r cx.k (Or.inl ⟨_, rfl⟩) hlo (fun _ h => h) (Nat.le_of_ble_eq_true rfl) (Nat.le_of_ble_eq_true rfl) d_Vo_kind_15 (⟨rfl, rfl⟩)

set_option maxHeartbeats 4000000 in
set_option maxRecDepth 100000 in
theorem c_Dg_count (l : Launch) {E : hE} (hE : EnvOk E) {H : Heap} {a n1 n2 n3 : Nat} {ds : List (Nat × Nat × Nat)} (h : Dg E H a n1 n2 n3 ds) : Ct l E y_Dg_count b_Dg_count 1 (some .int) (rmA 0 0 0) [.ref a] H (hQi (fun r H1 => r = nI ds.length ∧ H1 = H)) := by
  refine hx_enter hE (by decide) (Nat.le_of_ble_eq_true rfl) ?_
  intro p e s m args below meth c ls cx hnm hl
  have hl : lv_has ls 1 [(0, .ref a)] := hl
  have hlo : hLo (eB E) [] := hLo.nil
  obtain ⟨ho, ⟨f1, f2, f3, h1, h2, h3, hf⟩, ⟨b0, b1, b2, b3⟩, ⟨d1, d2, d3, d4, d5, d6⟩⟩ := h
  refine lv_aload_n cx.x cx.b d_Dg_count_0 rfl (lv_at hl 0 rfl) ?_
  refine gf_Dg_21_Dg cx ho rfl d_Dg_count_1 ?_
  exact hx_reti cx.x cx.b cx.r cx.k rfl hlo (fun _ h => h) (Nat.le_of_ble_eq_true rfl) (Nat.le_of_ble_eq_true rfl) d_Dg_count_4 (⟨rfl, rfl⟩)

set_option maxHeartbeats 4000000 in
set_option maxRecDepth 100000 in
theorem c_Dg_kept (l : Launch) {E : hE} (hE : EnvOk E) {H : Heap} {a n1 n2 n3 : Nat} {ds : List (Nat × Nat × Nat)} (h : Dg E H a n1 n2 n3 ds) (hd : ds.length < 1000) : Ct l E y_Dg_kept b_Dg_kept 1 (some .int) (rmA 1 0 0) [.ref a] H (hQi (fun r H1 => r = nI (min ds.length 20) ∧ H1 = H)) := by
  refine hx_enter hE (by decide) (Nat.le_of_ble_eq_true rfl) ?_
  intro p e s m args below meth c ls cx hnm hl
  have hl : lv_has ls 1 [(0, .ref a)] := hl
  have hlo : hLo (eB E) [] := hLo.nil
  obtain ⟨ho, ⟨f1, f2, f3, h1, h2, h3, hf⟩, ⟨b0, b1, b2, b3⟩, ⟨d1, d2, d3, d4, d5, d6⟩⟩ := h
  refine lv_aload_n cx.x cx.b d_Dg_kept_0 rfl (lv_at hl 0 rfl) ?_
  refine gf_Dg_21_Dg cx ho rfl d_Dg_kept_1 ?_
  refine lv_bipush (v := 20) cx.x cx.b d_Dg_kept_4 (by decide) ?_
  refine va_mmin cx.x cx.b (cx.ml.trans hl.1.symm) cx.o (cx.ts _ tw_717) (cx.ts _ tw_612) (cx.ts _ tw_22) (cx.ts _ tw_613) (Nat.le_of_ble_eq_true rfl) (Nat.le_of_ble_eq_true rfl) (Nat.le_of_ble_eq_true rfl) (Nat.le_of_ble_eq_true rfl) d_Dg_kept_6 ?_
  refine lv_topi (fun x13 e_x13 => ?_)
  exact hx_reti cx.x cx.b cx.r cx.k rfl hlo (fun _ h => h) (Nat.le_of_ble_eq_true rfl) (Nat.le_of_ble_eq_true rfl) d_Dg_kept_9 (⟨by rw [e_x13]; by_cases c : 20 < ds.length; rw [if_pos (show (20 : Int32) < nI ds.length from (nI_ltI (a := 20) (by omega) (by omega)).mpr c), Nat.min_eq_right (by omega)]; rfl; rw [if_neg (show ¬ (20 : Int32) < nI ds.length from fun q => c ((nI_ltI (a := 20) (by omega) (by omega)).mp q)), Nat.min_eq_left (by omega)], rfl⟩)

set_option maxHeartbeats 4000000 in
set_option maxRecDepth 100000 in
theorem c_Dg_empty (l : Launch) {E : hE} (hE : EnvOk E) {H : Heap} {a n1 n2 n3 : Nat} {ds : List (Nat × Nat × Nat)} (h : Dg E H a n1 n2 n3 ds) : Ct l E y_Dg_empty b_Dg_empty 1 none (rmA 0 0 0) [.ref a] H (hQv (fun H1 => Dg E H1 a n1 n2 n3 [] ∧ hCh (dS a n1 n2 n3) H H1 ∧ H1.size = H.size)) := by
  refine hx_enter hE (by decide) (Nat.le_of_ble_eq_true rfl) ?_
  intro p e s m args below meth c ls cx hnm hl
  have hl : lv_has ls 1 [(0, .ref a)] := hl
  have hlo : hLo (eB E) [] := hLo.nil
  obtain ⟨ho, ⟨f1, f2, f3, h1, h2, h3, hf⟩, ⟨b0, b1, b2, b3⟩, ⟨d1, d2, d3, d4, d5, d6⟩⟩ := h
  refine lv_aload_n cx.x cx.b d_Dg_empty_0 rfl (lv_at hl 0 rfl) ?_
  refine lv_iconst (v := 0) cx.x cx.b d_Dg_empty_1 (by decide) ?_
  refine pf_Dg_21_Dg cx ho hlo b0 (Nat.le_of_ble_eq_true rfl) d_Dg_empty_2 (fun H14 locs ho15 z_H14 o_H14 hlo => ?_)
  have ho15 : hOb (eD E) classes H14 a 6 [.ref n1, .ref n2, .ref n3, .int 0] := ho15
  exact hx_retv cx.x cx.b cx.r cx.k hlo (fun _ h => h) (Nat.le_of_ble_eq_true rfl) (Nat.le_of_ble_eq_true rfl) d_Dg_empty_5 (⟨⟨ho15, ⟨f1, f2, f3, h1.eq (o_H14 _ (Ne.symm d1)), h2.eq (o_H14 _ (Ne.symm d2)), h3.eq (o_H14 _ (Ne.symm d3)), fun i hi _ => absurd hi (Nat.not_lt_zero i)⟩, ⟨b0, b1, b2, b3⟩, ⟨d1, d2, d3, d4, d5, d6⟩⟩, hCh.put z_H14 o_H14 (Or.inl rfl), z_H14⟩)

set_option maxHeartbeats 4000000 in
set_option maxRecDepth 100000 in
theorem c_Dg_add (l : Launch) {E : hE} (hE : EnvOk E) {H : Heap} {a n1 n2 n3 : Nat} {ds : List (Nat × Nat × Nat)} (h : Dg E H a n1 n2 n3 ds) (hd : ds.length < 1000) (x y z : Nat) : Ct l E y_Dg_add b_Dg_add 4 none (rmA 0 0 0) [.ref a, .int (nI x), .int (nI y), .int (nI z)] H (hQv (fun H1 => Dg E H1 a n1 n2 n3 (ds ++ [(x, y, z)]) ∧ hCh (dS a n1 n2 n3) H H1 ∧ H1.size = H.size)) := by
  refine hx_enter hE (by decide) (Nat.le_of_ble_eq_true rfl) ?_
  intro p e s m args below meth c ls cx hnm hl
  have hl : lv_has ls 4 [(0, .ref a), (1, .int (nI x)), (2, .int (nI y)), (3, .int (nI z))] := hl
  have hlo : hLo (eB E) [] := hLo.nil
  obtain ⟨ho, ⟨f1, f2, f3, h1, h2, h3, hf⟩, ⟨b0, b1, b2, b3⟩, ⟨d1, d2, d3, d4, d5, d6⟩⟩ := h
  refine lv_aload_n cx.x cx.b d_Dg_add_0 rfl (lv_at hl 0 rfl) ?_
  refine gf_Dg_21_Dg cx ho rfl d_Dg_add_1 ?_
  refine lv_bipush (v := 20) cx.x cx.b d_Dg_add_4 (by decide) ?_
  refine lv_icmp_ge (tgt := 39) cx.x cx.b d_Dg_add_6 (by decide) (fun c1 => ?_) (fun c1 => ?_)
  · have c1 : 20 ≤ ds.length := (nI_leI (a := 20) (b := ds.length) (by omega) (by omega)).mp c1
    refine lv_aload_n cx.x cx.b d_Dg_add_39 rfl (lv_at hl 0 rfl) ?_
    refine lv_dup cx.x cx.b d_Dg_add_40 rfl ?_
    refine gf_Dg_21_Dg cx ho rfl d_Dg_add_41 ?_
    refine lv_iconst (v := 1) cx.x cx.b d_Dg_add_44 (by decide) ?_
    refine lv_iadd cx.x cx.b d_Dg_add_45 ?_
    refine lv_topi (fun x16 e_x16 => ?_)
    refine pf_Dg_21_Dg cx ho hlo b0 (Nat.le_of_ble_eq_true rfl) d_Dg_add_46 (fun H17 locs ho18 z_H17 o_H17 hlo => ?_)
    have ho18 : hOb (eD E) classes H17 a 6 [.ref n1, .ref n2, .ref n3, .int x16] := ho18
    rw [e_x16, (by rw [nI_1, List.length_append, List.length_singleton] : nI ds.length + 1 = nI (ds ++ [(x, y, z)]).length)] at ho18
    exact hx_retv cx.x cx.b cx.r cx.k hlo (fun _ h => h) (Nat.le_of_ble_eq_true rfl) (Nat.le_of_ble_eq_true rfl) d_Dg_add_49 (⟨⟨ho18, ⟨f1, f2, f3, h1.eq (o_H17 _ (Ne.symm d1)), h2.eq (o_H17 _ (Ne.symm d2)), h3.eq (o_H17 _ (Ne.symm d3)), fun i hi hi2 => by rw [getD_app (by omega)]; exact hf i (by omega) hi2⟩, ⟨b0, b1, b2, b3⟩, ⟨d1, d2, d3, d4, d5, d6⟩⟩, hCh.put z_H17 o_H17 (Or.inl rfl), z_H17⟩)
  · have c1 : ds.length < 20 := Nat.not_le.mp (fun zz => c1 ((nI_leI (a := 20) (b := ds.length) (by omega) (by omega)).mpr zz))
    refine lv_aload_n cx.x cx.b d_Dg_add_9 rfl (lv_at hl 0 rfl) ?_
    refine gf_Dg_9_Dg cx ho rfl d_Dg_add_10 ?_
    refine lv_aload_n cx.x cx.b d_Dg_add_13 rfl (lv_at hl 0 rfl) ?_
    refine gf_Dg_21_Dg cx ho rfl d_Dg_add_14 ?_
    refine lv_iload_n cx.x cx.b d_Dg_add_17 rfl (lv_at hl 1 rfl) ?_
    refine hx_iast cx.x cx.b cx.K 0 h1 hlo b1 rfl (vp_in_nI c1 (by omega)) d_Dg_add_18 (fun H19 locs ha20 z_H19 o_H19 hlo => ?_)
    have ho := ho.eq (o_H19 _ d1)
    have h2 := h2.eq (o_H19 _ (Ne.symm d4))
    have h3 := h3.eq (o_H19 _ (Ne.symm d5))
    rw [nI_clamp (by omega)] at ha20
    refine lv_aload_n cx.x cx.b d_Dg_add_19 rfl (lv_at hl 0 rfl) ?_
    refine gf_Dg_15_Dg cx ho rfl d_Dg_add_20 ?_
    refine lv_aload_n cx.x cx.b d_Dg_add_23 rfl (lv_at hl 0 rfl) ?_
    refine gf_Dg_21_Dg cx ho rfl d_Dg_add_24 ?_
    refine lv_iload_n cx.x cx.b d_Dg_add_27 rfl (lv_at hl 2 rfl) ?_
    refine hx_iast cx.x cx.b cx.K 0 h2 hlo b2 rfl (vp_in_nI c1 (by omega)) d_Dg_add_28 (fun H21 locs ha22 z_H21 o_H21 hlo => ?_)
    have ho := ho.eq (o_H21 _ d2)
    have ha20 := ha20.eq (o_H21 _ d4)
    have h3 := h3.eq (o_H21 _ (Ne.symm d6))
    rw [nI_clamp (by omega)] at ha22
    refine lv_aload_n cx.x cx.b d_Dg_add_29 rfl (lv_at hl 0 rfl) ?_
    refine gf_Dg_18_Dg cx ho rfl d_Dg_add_30 ?_
    refine lv_aload_n cx.x cx.b d_Dg_add_33 rfl (lv_at hl 0 rfl) ?_
    refine gf_Dg_21_Dg cx ho rfl d_Dg_add_34 ?_
    refine lv_iload_n cx.x cx.b d_Dg_add_37 rfl (lv_at hl 3 rfl) ?_
    refine hx_iast cx.x cx.b cx.K 0 h3 hlo b3 rfl (vp_in_nI c1 (by omega)) d_Dg_add_38 (fun H23 locs ha24 z_H23 o_H23 hlo => ?_)
    have ho := ho.eq (o_H23 _ d3)
    have ha20 := ha20.eq (o_H23 _ d5)
    have ha22 := ha22.eq (o_H23 _ d6)
    rw [nI_clamp (by omega)] at ha24
    refine lv_aload_n cx.x cx.b d_Dg_add_39 rfl (lv_at hl 0 rfl) ?_
    refine lv_dup cx.x cx.b d_Dg_add_40 rfl ?_
    refine gf_Dg_21_Dg cx ho rfl d_Dg_add_41 ?_
    refine lv_iconst (v := 1) cx.x cx.b d_Dg_add_44 (by decide) ?_
    refine lv_iadd cx.x cx.b d_Dg_add_45 ?_
    refine lv_topi (fun x25 e_x25 => ?_)
    refine pf_Dg_21_Dg cx ho hlo b0 (Nat.le_of_ble_eq_true rfl) d_Dg_add_46 (fun H26 locs ho27 z_H26 o_H26 hlo => ?_)
    have ho27 : hOb (eD E) classes H26 a 6 [.ref n1, .ref n2, .ref n3, .int x25] := ho27
    rw [e_x25, (by rw [nI_1, List.length_append, List.length_singleton] : nI ds.length + 1 = nI (ds ++ [(x, y, z)]).length)] at ho27
    exact hx_retv cx.x cx.b cx.r cx.k hlo (fun _ h => h) (Nat.le_of_ble_eq_true rfl) (Nat.le_of_ble_eq_true rfl) d_Dg_add_49 (⟨⟨ho27, ⟨_, _, _, ha20.eq (o_H26 _ (Ne.symm d1)), ha22.eq (o_H26 _ (Ne.symm d2)), ha24.eq (o_H26 _ (Ne.symm d3)), fun i hi hi2 => by rw [List.length_append, List.length_singleton] at hi; by_cases q : i = ds.length; subst q; rw [getD_last, pk_us, pk_us, pk_us]; exact ⟨rfl, rfl, rfl⟩; rw [getD_app (by omega), pk_un q, pk_un q, pk_un q]; exact hf i (by omega) hi2⟩, ⟨b0, b1, b2, b3⟩, ⟨d1, d2, d3, d4, d5, d6⟩⟩, (((hCh.put z_H19 o_H19 (Or.inr (Or.inl rfl))).tr (hCh.put z_H21 o_H21 (Or.inr (Or.inr (Or.inl rfl))))).tr (hCh.put z_H23 o_H23 (Or.inr (Or.inr (Or.inr rfl))))).tr (hCh.put z_H26 o_H26 (Or.inl rfl)), z_H26.trans (z_H23.trans (z_H21.trans z_H19))⟩)

set_option maxHeartbeats 4000000 in
set_option maxRecDepth 100000 in
theorem c_Ln_hasWord (l : Launch) {E : hE} (hE : EnvOk E) {H : Heap} {a tr st en ws we : Nat} (h : Ln E H a tr st en ws we) (h1 : ws ≤ 480) (h2 : we ≤ 480) : Ct l E y_Ln_hasWord b_Ln_hasWord 1 (some .boolean) (rmA 0 0 0) [.ref a] H (hQi (fun r H1 => r = bI (decide (ws < we)) ∧ H1 = H)) := by
  refine hx_enter hE (by decide) (Nat.le_of_ble_eq_true rfl) ?_
  intro p e s m args below meth c ls cx hnm hl
  have hl : lv_has ls 1 [(0, .ref a)] := hl
  have hlo : hLo (eB E) [] := hLo.nil
  refine lv_aload_n cx.x cx.b d_Ln_hasWord_0 rfl (lv_at hl 0 rfl) ?_
  refine gf_Ln_37_Ln cx h.1 rfl d_Ln_hasWord_1 ?_
  refine lv_aload_n cx.x cx.b d_Ln_hasWord_4 rfl (lv_at hl 0 rfl) ?_
  refine gf_Ln_31_Ln cx h.1 rfl d_Ln_hasWord_5 ?_
  refine lv_icmp_ge (tgt := 15) cx.x cx.b d_Ln_hasWord_8 (by decide) (fun c1 => ?_) (fun c1 => ?_)
  · have c1 : we ≤ ws := (nI_leI (a := we) (b := ws) (by omega) (by omega)).mp c1
    refine lv_iconst (v := 0) cx.x cx.b d_Ln_hasWord_15 (by decide) ?_
    exact hx_reti cx.x cx.b cx.r cx.k rfl hlo (fun _ h => h) (Nat.le_of_ble_eq_true rfl) (Nat.le_of_ble_eq_true rfl) d_Ln_hasWord_16 (⟨by rw [show decide (ws < we) = false from decide_eq_false (by omega)]; rfl, rfl⟩)
  · have c1 : ws < we := Nat.not_le.mp (fun zz => c1 ((nI_leI (a := we) (b := ws) (by omega) (by omega)).mpr zz))
    refine lv_iconst (v := 1) cx.x cx.b d_Ln_hasWord_11 (by decide) ?_
    refine lv_goto (tgt := 16) cx.x cx.b d_Ln_hasWord_12 (by decide) ?_
    exact hx_reti cx.x cx.b cx.r cx.k rfl hlo (fun _ h => h) (Nat.le_of_ble_eq_true rfl) (Nat.le_of_ble_eq_true rfl) d_Ln_hasWord_16 (⟨by rw [show decide (ws < we) = true from decide_eq_true c1]; rfl, rfl⟩)

set_option maxHeartbeats 4000000 in
set_option maxRecDepth 100000 in
theorem c_Ln_place (l : Launch) {E : hE} (hE : EnvOk E) {H : Heap} {a tr st en ws we : Nat} (h : Ln E H a tr st en ws we) (h1 : st ≤ ws) (h2 : ws ≤ 480) : Ct l E y_Ln_place b_Ln_place 1 (some .int) (rmA 0 0 0) [.ref a] H (hQi (fun r H1 => r = nI (ws - st + 1) ∧ H1 = H)) := by
  refine hx_enter hE (by decide) (Nat.le_of_ble_eq_true rfl) ?_
  intro p e s m args below meth c ls cx hnm hl
  have hl : lv_has ls 1 [(0, .ref a)] := hl
  have hlo : hLo (eB E) [] := hLo.nil
  refine lv_aload_n cx.x cx.b d_Ln_place_0 rfl (lv_at hl 0 rfl) ?_
  refine gf_Ln_37_Ln cx h.1 rfl d_Ln_place_1 ?_
  refine lv_aload_n cx.x cx.b d_Ln_place_4 rfl (lv_at hl 0 rfl) ?_
  refine gf_Ln_15_Ln cx h.1 rfl d_Ln_place_5 ?_
  refine lv_isub cx.x cx.b d_Ln_place_8 ?_
  refine lv_topi (fun x28 e_x28 => ?_)
  refine lv_iconst (v := 1) cx.x cx.b d_Ln_place_9 (by decide) ?_
  refine lv_iadd cx.x cx.b d_Ln_place_10 ?_
  refine lv_topi (fun x29 e_x29 => ?_)
  exact hx_reti cx.x cx.b cx.r cx.k rfl hlo (fun _ h => h) (Nat.le_of_ble_eq_true rfl) (Nat.le_of_ble_eq_true rfl) d_Ln_place_11 (⟨by rw [e_x29, e_x28, pk_sub h1, nI_1], rfl⟩)

set_option maxHeartbeats 4000000 in
set_option maxRecDepth 100000 in
theorem c_Ln_toNextWord (l : Launch) {E : hE} (hE : EnvOk E) {H : Heap} {a tr st en ws we tarr : Nat} {txt : List Nat} {o : Bool} (h : Ln E H a tr st en ws we) (hr : Rw E H tr tarr 480 txt o) (ha1 : tr ≠ a) (ha2 : tarr ≠ a) (h1 : we ≤ en) (h2 : en ≤ txt.length) : Ct l E y_Ln_toNextWord b_Ln_toNextWord 1 none (rmA 1 0 0) [.ref a] H (hQv (fun H1 => Ln E H1 a tr st en (wdS (txt.take en) we) (wdE (txt.take en) (wdS (txt.take en) we)) ∧ hCh (fun q => q = a) H H1 ∧ H1.size = H.size)) := by
  refine hx_enter hE (by decide) (Nat.le_of_ble_eq_true rfl) ?_
  intro p e s m args below meth c ls cx hnm hl
  have hl : lv_has ls 1 [(0, .ref a)] := hl
  have hlo : hLo (eB E) [] := hLo.nil
  generalize hQ : MQ below _ args s _ _ _ = Q
  have hB := h.2
  have hle := hr.le
  have hx := hr.2.2.2.2.2
  have hL := len_take h2
  generalize hLe : txt.take en = L at hL hQ ⊢
  have hg : ∀ i, i < en → txt.getD i 0 = L.getD i 0 := fun i hi => by rw [← hLe, getD_take hi]
  have hsk := wdS_le (L := L) (i := we) (by omega)
  have L2 : ∀ (k : Nat) (locs : List Loc) (i : Nat) (H2 : Heap), hLo (eB E) locs → (en - i < k) → (i ≤ en) → (edW (L.drop i) i = wdE L (wdS L we)) → (Ln E H2 a tr st en (wdS L we) i) → (hCh (fun q => q = a) H H2) → (H2.size = H.size) → ∀ ls, lv_has ls 1 [(0, .ref a)] → W p l e (rmA 1 0 0) s m args below meth c H2 locs 0 0 Q (F0 m 56 ls []) := by
    intro k
    induction k with
    | zero => intro locs i H2 hlo hk hi hj hLn hch hsz; exact absurd hk (by omega)
    | succ k ih =>
      intro locs i H2 hlo hk hi hj hLn hch hsz ls hl
      have hr2 : Rw E H2 tr tarr 480 txt o := hr.ch hch ha1 ha2
      refine lv_aload_n cx.x cx.b d_Ln_toNextWord_56 rfl (lv_at hl 0 rfl) ?_
      refine gf_Ln_31_Ln cx hLn.1 rfl d_Ln_toNextWord_57 ?_
      refine lv_aload_n cx.x cx.b d_Ln_toNextWord_60 rfl (lv_at hl 0 rfl) ?_
      refine gf_Ln_19_Ln cx hLn.1 rfl d_Ln_toNextWord_61 ?_
      refine lv_icmp_ge (tgt := 96) cx.x cx.b d_Ln_toNextWord_64 (by decide) (fun c1 => ?_) (fun c1 => ?_)
      · have c1 : en ≤ i := (nI_leI (a := en) (b := i) (by omega) (by omega)).mp c1
        rw [drop_nil (by omega)] at hj
        have hj : i = wdE L (wdS L we) := hj
        rw [hj] at hLn
        rw [← hQ]
        exact hx_retv cx.x cx.b cx.r cx.k hlo (fun _ h => h) (Nat.le_of_ble_eq_true rfl) (Nat.le_of_ble_eq_true rfl) d_Ln_toNextWord_96 (⟨hLn, hch, hsz⟩)
      · have c1 : i < en := Nat.not_le.mp (fun zz => c1 ((nI_leI (a := en) (b := i) (by omega) (by omega)).mpr zz))
        have b1 := hx _ (getD_mem (show i < txt.length by omega))
        rw [edW_step (by omega), ← hg i c1] at hj
        refine lv_aload_n cx.x cx.b d_Ln_toNextWord_67 rfl (lv_at hl 0 rfl) ?_
        refine gf_Ln_9_Ln cx hLn.1 rfl d_Ln_toNextWord_68 ?_
        refine lv_aload_n cx.x cx.b d_Ln_toNextWord_71 rfl (lv_at hl 0 rfl) ?_
        refine gf_Ln_31_Ln cx hLn.1 rfl d_Ln_toNextWord_72 ?_
        refine hx_calli (iv_Ln_22_Rw cx (c_Rw_at l hE hr2 (nI i)) hr2.1 rfl hl.1 rfl (Nat.le_of_ble_eq_true rfl) d_Ln_toNextWord_75 ⟨Nat.le_of_ble_eq_true rfl, Nat.le_of_ble_eq_true rfl⟩ ⟨Nat.le_of_ble_eq_true rfl, Nat.le_of_ble_eq_true rfl⟩) hlo (fun _ h => h) (fun r32 H31 locs hp30 hlo => ?_)
        obtain ⟨hp30, hH9⟩ := hp30
        have hH9 := hH9.symm
        subst hH9
        subst hp30
        rw [atI_n (by omega) (by omega)]
        refine lv_bipush (v := 32) cx.x cx.b d_Ln_toNextWord_78 (by decide) ?_
        refine lv_icmp_eq (tgt := 96) cx.x cx.b d_Ln_toNextWord_80 (by decide) (fun c2 => ?_) (fun c2 => ?_)
        · have c2 : (txt.getD i 0) = 32 := (nI_eq (a := (txt.getD i 0)) (b := 32) (by omega) (by omega)).mp c2
          rw [if_pos c2] at hj
          rw [hj] at hLn
          rw [← hQ]
          exact hx_retv cx.x cx.b cx.r cx.k hlo (fun _ h => h) (Nat.le_of_ble_eq_true rfl) (Nat.le_of_ble_eq_true rfl) d_Ln_toNextWord_96 (⟨hLn, hch, hsz⟩)
        · have c2 : (txt.getD i 0) ≠ 32 := fun zz => c2 ((nI_eq (a := (txt.getD i 0)) (b := 32) (by omega) (by omega)).mpr zz)
          rw [if_neg c2] at hj
          refine lv_aload_n cx.x cx.b d_Ln_toNextWord_83 rfl (lv_at hl 0 rfl) ?_
          refine lv_dup cx.x cx.b d_Ln_toNextWord_84 rfl ?_
          refine gf_Ln_31_Ln cx hLn.1 rfl d_Ln_toNextWord_85 ?_
          refine lv_iconst (v := 1) cx.x cx.b d_Ln_toNextWord_88 (by decide) ?_
          refine lv_iadd cx.x cx.b d_Ln_toNextWord_89 ?_
          refine lv_topi (fun x33 e_x33 => ?_)
          refine pf_Ln_31_Ln cx hLn.1 hlo hB (Nat.le_of_ble_eq_true rfl) d_Ln_toNextWord_90 (fun H34 locs ho35 z_H34 o_H34 hlo => ?_)
          have ho35 : hOb (eD E) classes H34 a 7 [.ref tr, .int (nI st), .int (nI en), .int (nI (wdS L we)), .int x33] := ho35
          refine lv_goto (tgt := 56) cx.x cx.b d_Ln_toNextWord_93 (by decide) ?_
          rw [e_x33, nI_1] at ho35
          exact ih _ (i + 1) _ hlo (by omega) (by omega) hj ⟨ho35, hB⟩ (hch.tr (hCh.put z_H34 o_H34 rfl)) (z_H34.trans hsz) _ hl
  have L1 : ∀ (k : Nat) (locs : List Loc) (i : Nat) (H2 : Heap), hLo (eB E) locs → (en - i < k) → (i ≤ en) → (skBl (L.drop i) i = wdS L we) → (Ln E H2 a tr st en i we) → (hCh (fun q => q = a) H H2) → (H2.size = H.size) → ∀ ls, lv_has ls 1 [(0, .ref a)] → W p l e (rmA 1 0 0) s m args below meth c H2 locs 0 0 Q (F0 m 8 ls []) := by
    intro k
    induction k with
    | zero => intro locs i H2 hlo hk hi hj hLn hch hsz; exact absurd hk (by omega)
    | succ k ih =>
      intro locs i H2 hlo hk hi hj hLn hch hsz ls hl
      have hr2 : Rw E H2 tr tarr 480 txt o := hr.ch hch ha1 ha2
      refine lv_aload_n cx.x cx.b d_Ln_toNextWord_8 rfl (lv_at hl 0 rfl) ?_
      refine gf_Ln_37_Ln cx hLn.1 rfl d_Ln_toNextWord_9 ?_
      refine lv_aload_n cx.x cx.b d_Ln_toNextWord_12 rfl (lv_at hl 0 rfl) ?_
      refine gf_Ln_19_Ln cx hLn.1 rfl d_Ln_toNextWord_13 ?_
      refine lv_icmp_ge (tgt := 48) cx.x cx.b d_Ln_toNextWord_16 (by decide) (fun c1 => ?_) (fun c1 => ?_)
      · have c1 : en ≤ i := (nI_leI (a := en) (b := i) (by omega) (by omega)).mp c1
        rw [drop_nil (by omega)] at hj
        have hj : i = wdS L we := hj
        rw [hj] at hLn
        refine lv_aload_n cx.x cx.b d_Ln_toNextWord_48 rfl (lv_at hl 0 rfl) ?_
        refine lv_aload_n cx.x cx.b d_Ln_toNextWord_49 rfl (lv_at hl 0 rfl) ?_
        refine gf_Ln_37_Ln cx hLn.1 rfl d_Ln_toNextWord_50 ?_
        refine pf_Ln_31_Ln cx hLn.1 hlo hB (Nat.le_of_ble_eq_true rfl) d_Ln_toNextWord_53 (fun H36 locs ho37 z_H36 o_H36 hlo => ?_)
        have ho37 : hOb (eD E) classes H36 a 7 [.ref tr, .int (nI st), .int (nI en), .int (nI (wdS L we)), .int (nI (wdS L we))] := ho37
        exact L2 (en + 1) _ (wdS L we) _ hlo (by omega) (by omega) rfl ⟨ho37, hB⟩ (hch.tr (hCh.put z_H36 o_H36 rfl)) (z_H36.trans hsz) _ hl
      · have c1 : i < en := Nat.not_le.mp (fun zz => c1 ((nI_leI (a := en) (b := i) (by omega) (by omega)).mpr zz))
        have b1 := hx _ (getD_mem (show i < txt.length by omega))
        rw [skBl_step (by omega), ← hg i c1] at hj
        refine lv_aload_n cx.x cx.b d_Ln_toNextWord_19 rfl (lv_at hl 0 rfl) ?_
        refine gf_Ln_9_Ln cx hLn.1 rfl d_Ln_toNextWord_20 ?_
        refine lv_aload_n cx.x cx.b d_Ln_toNextWord_23 rfl (lv_at hl 0 rfl) ?_
        refine gf_Ln_37_Ln cx hLn.1 rfl d_Ln_toNextWord_24 ?_
        refine hx_calli (iv_Ln_22_Rw cx (c_Rw_at l hE hr2 (nI i)) hr2.1 rfl hl.1 rfl (Nat.le_of_ble_eq_true rfl) d_Ln_toNextWord_27 ⟨Nat.le_of_ble_eq_true rfl, Nat.le_of_ble_eq_true rfl⟩ ⟨Nat.le_of_ble_eq_true rfl, Nat.le_of_ble_eq_true rfl⟩) hlo (fun _ h => h) (fun r40 H39 locs hp38 hlo => ?_)
        obtain ⟨hp38, hH9⟩ := hp38
        have hH9 := hH9.symm
        subst hH9
        subst hp38
        rw [atI_n (by omega) (by omega)]
        refine lv_bipush (v := 32) cx.x cx.b d_Ln_toNextWord_30 (by decide) ?_
        refine lv_icmp_ne (tgt := 48) cx.x cx.b d_Ln_toNextWord_32 (by decide) (fun c2 => ?_) (fun c2 => ?_)
        · have c2 : (txt.getD i 0) ≠ 32 := fun zz => c2 ((nI_eq (a := (txt.getD i 0)) (b := 32) (by omega) (by omega)).mpr zz)
          rw [if_neg c2] at hj
          rw [hj] at hLn
          refine lv_aload_n cx.x cx.b d_Ln_toNextWord_48 rfl (lv_at hl 0 rfl) ?_
          refine lv_aload_n cx.x cx.b d_Ln_toNextWord_49 rfl (lv_at hl 0 rfl) ?_
          refine gf_Ln_37_Ln cx hLn.1 rfl d_Ln_toNextWord_50 ?_
          refine pf_Ln_31_Ln cx hLn.1 hlo hB (Nat.le_of_ble_eq_true rfl) d_Ln_toNextWord_53 (fun H41 locs ho42 z_H41 o_H41 hlo => ?_)
          have ho42 : hOb (eD E) classes H41 a 7 [.ref tr, .int (nI st), .int (nI en), .int (nI (wdS L we)), .int (nI (wdS L we))] := ho42
          exact L2 (en + 1) _ (wdS L we) _ hlo (by omega) (by omega) rfl ⟨ho42, hB⟩ (hch.tr (hCh.put z_H41 o_H41 rfl)) (z_H41.trans hsz) _ hl
        · have c2 : (txt.getD i 0) = 32 := (nI_eq (a := (txt.getD i 0)) (b := 32) (by omega) (by omega)).mp c2
          rw [if_pos c2] at hj
          refine lv_aload_n cx.x cx.b d_Ln_toNextWord_35 rfl (lv_at hl 0 rfl) ?_
          refine lv_dup cx.x cx.b d_Ln_toNextWord_36 rfl ?_
          refine gf_Ln_37_Ln cx hLn.1 rfl d_Ln_toNextWord_37 ?_
          refine lv_iconst (v := 1) cx.x cx.b d_Ln_toNextWord_40 (by decide) ?_
          refine lv_iadd cx.x cx.b d_Ln_toNextWord_41 ?_
          refine lv_topi (fun x43 e_x43 => ?_)
          refine pf_Ln_37_Ln cx hLn.1 hlo hB (Nat.le_of_ble_eq_true rfl) d_Ln_toNextWord_42 (fun H44 locs ho45 z_H44 o_H44 hlo => ?_)
          have ho45 : hOb (eD E) classes H44 a 7 [.ref tr, .int (nI st), .int (nI en), .int x43, .int (nI we)] := ho45
          refine lv_goto (tgt := 8) cx.x cx.b d_Ln_toNextWord_45 (by decide) ?_
          rw [e_x43, nI_1] at ho45
          exact ih _ (i + 1) _ hlo (by omega) (by omega) hj ⟨ho45, hB⟩ (hch.tr (hCh.put z_H44 o_H44 rfl)) (z_H44.trans hsz) _ hl
  refine lv_aload_n cx.x cx.b d_Ln_toNextWord_0 rfl (lv_at hl 0 rfl) ?_
  refine lv_aload_n cx.x cx.b d_Ln_toNextWord_1 rfl (lv_at hl 0 rfl) ?_
  refine gf_Ln_31_Ln cx h.1 rfl d_Ln_toNextWord_2 ?_
  refine pf_Ln_37_Ln cx h.1 hlo hB (Nat.le_of_ble_eq_true rfl) d_Ln_toNextWord_5 (fun H46 locs ho47 z_H46 o_H46 hlo => ?_)
  have ho47 : hOb (eD E) classes H46 a 7 [.ref tr, .int (nI st), .int (nI en), .int (nI we), .int (nI we)] := ho47
  exact L1 (en + 1) _ we _ hlo (by omega) h1 rfl ⟨ho47, hB⟩ (hCh.put z_H46 o_H46 rfl) z_H46 _ hl

set_option maxHeartbeats 4000000 in
set_option maxRecDepth 100000 in
theorem c_Ln_toFirstWord (l : Launch) {E : hE} (hE : EnvOk E) {H : Heap} {a tr st en ws we tarr : Nat} {txt : List Nat} {o : Bool} (h : Ln E H a tr st en ws we) (hr : Rw E H tr tarr 480 txt o) (ha1 : tr ≠ a) (ha2 : tarr ≠ a) (h1 : st ≤ en) (h2 : en ≤ txt.length) : Ct l E y_Ln_toFirstWord b_Ln_toFirstWord 1 none (rmA 2 0 0) [.ref a] H (hQv (fun H1 => Ln E H1 a tr st en (wdS (txt.take en) st) (wdE (txt.take en) (wdS (txt.take en) st)) ∧ hCh (fun q => q = a) H H1 ∧ H1.size = H.size)) := by
  refine hx_enter hE (by decide) (Nat.le_of_ble_eq_true rfl) ?_
  intro p e s m args below meth c ls cx hnm hl
  have hl : lv_has ls 1 [(0, .ref a)] := hl
  have hlo : hLo (eB E) [] := hLo.nil
  have hB := h.2
  refine lv_aload_n cx.x cx.b d_Ln_toFirstWord_0 rfl (lv_at hl 0 rfl) ?_
  refine lv_aload_n cx.x cx.b d_Ln_toFirstWord_1 rfl (lv_at hl 0 rfl) ?_
  refine gf_Ln_15_Ln cx h.1 rfl d_Ln_toFirstWord_2 ?_
  refine pf_Ln_31_Ln cx h.1 hlo hB (Nat.le_of_ble_eq_true rfl) d_Ln_toFirstWord_5 (fun H48 locs ho49 z_H48 o_H48 hlo => ?_)
  have ho49 : hOb (eD E) classes H48 a 7 [.ref tr, .int (nI st), .int (nI en), .int (nI ws), .int (nI st)] := ho49
  refine lv_aload_n cx.x cx.b d_Ln_toFirstWord_8 rfl (lv_at hl 0 rfl) ?_
  have hc1 : hCh (fun q => q = a) H H48 := hCh.put z_H48 o_H48 rfl
  refine hx_callv (iv_Ln_34_Ln cx (c_Ln_toNextWord l hE (H := H48) ⟨ho49, hB⟩ (hr.ch hc1 ha1 ha2) ha1 ha2 h1 h2) ho49 rfl hl.1 rfl (Nat.le_of_ble_eq_true rfl) d_Ln_toFirstWord_9 ⟨Nat.le_of_ble_eq_true rfl, Nat.le_of_ble_eq_true rfl⟩ ⟨Nat.le_of_ble_eq_true rfl, Nat.le_of_ble_eq_true rfl⟩) hlo (fun _ h => h) (fun H51 locs hp50 hlo => ?_)
  obtain ⟨q1, q2, q3⟩ := hp50
  exact hx_retv cx.x cx.b cx.r cx.k hlo (fun _ h => h) (Nat.le_of_ble_eq_true rfl) (Nat.le_of_ble_eq_true rfl) d_Ln_toFirstWord_12 (⟨q1, hc1.tr q2, q3.trans z_H48⟩)

set_option maxHeartbeats 4000000 in
set_option maxRecDepth 100000 in
theorem c_Ln_frame (l : Launch) {E : hE} (hE : EnvOk E) {H : Heap} {a tr st en ws we tarr : Nat} {txt : List Nat} {o : Bool} (h : Ln E H a tr st en ws we) (hr : Rw E H tr tarr 480 txt o) (ha1 : tr ≠ a) (ha2 : tarr ≠ a) {i j : Nat} (h1 : i ≤ j) (h2 : j ≤ txt.length) : Ct l E y_Ln_frame b_Ln_frame 3 none (rmA 3 0 0) [.ref a, .int (nI i), .int (nI j)] H (hQv (fun H1 => Ln E H1 a tr i (trimE txt i j) (wdS (txt.take (trimE txt i j)) i) (wdE (txt.take (trimE txt i j)) (wdS (txt.take (trimE txt i j)) i)) ∧ hCh (fun q => q = a) H H1 ∧ H1.size = H.size)) := by
  refine hx_enter hE (by decide) (Nat.le_of_ble_eq_true rfl) ?_
  intro p e s m args below meth c ls cx hnm hl
  have hl : lv_has ls 3 [(0, .ref a), (1, .int (nI i)), (2, .int (nI j))] := hl
  have hlo : hLo (eB E) [] := hLo.nil
  generalize hQ : MQ below _ args s _ _ _ = Q
  have hB := h.2
  have hle := hr.le
  have hx := hr.2.2.2.2.2
  have htr := trimE_le txt i j
  have LP : ∀ (k : Nat) (locs : List Loc) (ee : Nat) (H2 : Heap), hLo (eB E) locs → (ee < k) → (i ≤ ee) → (ee ≤ j) → (trimE txt i ee = trimE txt i j) → (Ln E H2 a tr i ee ws we) → (hCh (fun q => q = a) H H2) → (H2.size = H.size) → ∀ ls, lv_has ls 3 [(0, .ref a), (1, .int (nI i)), (2, .int (nI j))] → W p l e (rmA 3 0 0) s m args below meth c H2 locs 0 0 Q (F0 m 10 ls []) := by
    intro k
    induction k with
    | zero => intro locs ee H2 hlo hk hi he hj hLn hch hsz; exact absurd hk (by omega)
    | succ k ih =>
      intro locs ee H2 hlo hk hi he hj hLn hch hsz ls hl
      have hr2 : Rw E H2 tr tarr 480 txt o := hr.ch hch ha1 ha2
      refine lv_aload_n cx.x cx.b d_Ln_frame_10 rfl (lv_at hl 0 rfl) ?_
      refine gf_Ln_19_Ln cx hLn.1 rfl d_Ln_frame_11 ?_
      refine lv_aload_n cx.x cx.b d_Ln_frame_14 rfl (lv_at hl 0 rfl) ?_
      refine gf_Ln_15_Ln cx hLn.1 rfl d_Ln_frame_15 ?_
      refine lv_icmp_le (tgt := 52) cx.x cx.b d_Ln_frame_18 (by decide) (fun c1 => ?_) (fun c1 => ?_)
      · have c1 : ee ≤ i := (nI_leI (a := ee) (b := i) (by omega) (by omega)).mp c1
        have e0 : trimE txt i ee = ee := by
          cases ee with
          | zero => rfl
          | succ d => unfold trimE; rw [if_neg (fun z => by omega)]
        rw [e0] at hj
        rw [hj] at hLn
        refine lv_aload_n cx.x cx.b d_Ln_frame_52 rfl (lv_at hl 0 rfl) ?_
        refine hx_callv (iv_Ln_28_Ln cx (c_Ln_toFirstWord l hE hLn hr2 ha1 ha2 (by omega) (by omega)) hLn.1 rfl hl.1 rfl (Nat.le_of_ble_eq_true rfl) d_Ln_frame_53 ⟨Nat.le_of_ble_eq_true rfl, Nat.le_of_ble_eq_true rfl⟩ ⟨Nat.le_of_ble_eq_true rfl, Nat.le_of_ble_eq_true rfl⟩) hlo (fun _ h => h) (fun H53 locs hp52 hlo => ?_)
        obtain ⟨q1, q2, q3⟩ := hp52
        rw [← hQ]
        exact hx_retv cx.x cx.b cx.r cx.k hlo (fun _ h => h) (Nat.le_of_ble_eq_true rfl) (Nat.le_of_ble_eq_true rfl) d_Ln_frame_56 (⟨q1, hch.tr q2, q3.trans hsz⟩)
      · have c1 : i < ee := Nat.not_le.mp (fun zz => c1 ((nI_leI (a := ee) (b := i) (by omega) (by omega)).mpr zz))
        obtain ⟨d, rfl⟩ : ∃ d, ee = d + 1 := ⟨ee - 1, by omega⟩
        have b1 := hx _ (getD_mem (show d < txt.length by omega))
        rw [show trimE txt i (d + 1) = if i < d + 1 ∧ txt.getD d 0 = 32 then trimE txt i d else d + 1 from rfl] at hj
        refine lv_aload_n cx.x cx.b d_Ln_frame_21 rfl (lv_at hl 0 rfl) ?_
        refine gf_Ln_9_Ln cx hLn.1 rfl d_Ln_frame_22 ?_
        refine lv_aload_n cx.x cx.b d_Ln_frame_25 rfl (lv_at hl 0 rfl) ?_
        refine gf_Ln_19_Ln cx hLn.1 rfl d_Ln_frame_26 ?_
        refine lv_iconst (v := 1) cx.x cx.b d_Ln_frame_29 (by decide) ?_
        refine lv_isub cx.x cx.b d_Ln_frame_30 ?_
        refine lv_topi (fun x54 e_x54 => ?_)
        rw [nI_pred] at e_x54
        subst e_x54
        refine hx_calli (iv_Ln_22_Rw cx (c_Rw_at l hE hr2 (nI d)) hr2.1 rfl hl.1 rfl (Nat.le_of_ble_eq_true rfl) d_Ln_frame_31 ⟨Nat.le_of_ble_eq_true rfl, Nat.le_of_ble_eq_true rfl⟩ ⟨Nat.le_of_ble_eq_true rfl, Nat.le_of_ble_eq_true rfl⟩) hlo (fun _ h => h) (fun r57 H56 locs hp55 hlo => ?_)
        obtain ⟨hp55, hH9⟩ := hp55
        have hH9 := hH9.symm
        subst hH9
        subst hp55
        rw [atI_n (by omega) (by omega)]
        refine lv_bipush (v := 32) cx.x cx.b d_Ln_frame_34 (by decide) ?_
        refine lv_icmp_ne (tgt := 52) cx.x cx.b d_Ln_frame_36 (by decide) (fun c2 => ?_) (fun c2 => ?_)
        · have c2 : (txt.getD d 0) ≠ 32 := fun zz => c2 ((nI_eq (a := (txt.getD d 0)) (b := 32) (by omega) (by omega)).mpr zz)
          rw [if_neg (fun z => c2 z.2)] at hj
          rw [hj] at hLn
          refine lv_aload_n cx.x cx.b d_Ln_frame_52 rfl (lv_at hl 0 rfl) ?_
          refine hx_callv (iv_Ln_28_Ln cx (c_Ln_toFirstWord l hE hLn hr2 ha1 ha2 (by omega) (by omega)) hLn.1 rfl hl.1 rfl (Nat.le_of_ble_eq_true rfl) d_Ln_frame_53 ⟨Nat.le_of_ble_eq_true rfl, Nat.le_of_ble_eq_true rfl⟩ ⟨Nat.le_of_ble_eq_true rfl, Nat.le_of_ble_eq_true rfl⟩) hlo (fun _ h => h) (fun H59 locs hp58 hlo => ?_)
          obtain ⟨q1, q2, q3⟩ := hp58
          rw [← hQ]
          exact hx_retv cx.x cx.b cx.r cx.k hlo (fun _ h => h) (Nat.le_of_ble_eq_true rfl) (Nat.le_of_ble_eq_true rfl) d_Ln_frame_56 (⟨q1, hch.tr q2, q3.trans hsz⟩)
        · have c2 : (txt.getD d 0) = 32 := (nI_eq (a := (txt.getD d 0)) (b := 32) (by omega) (by omega)).mp c2
          rw [if_pos ⟨c1, c2⟩] at hj
          refine lv_aload_n cx.x cx.b d_Ln_frame_39 rfl (lv_at hl 0 rfl) ?_
          refine lv_dup cx.x cx.b d_Ln_frame_40 rfl ?_
          refine gf_Ln_19_Ln cx hLn.1 rfl d_Ln_frame_41 ?_
          refine lv_iconst (v := 1) cx.x cx.b d_Ln_frame_44 (by decide) ?_
          refine lv_isub cx.x cx.b d_Ln_frame_45 ?_
          refine lv_topi (fun x60 e_x60 => ?_)
          refine pf_Ln_19_Ln cx hLn.1 hlo hB (Nat.le_of_ble_eq_true rfl) d_Ln_frame_46 (fun H61 locs ho62 z_H61 o_H61 hlo => ?_)
          have ho62 : hOb (eD E) classes H61 a 7 [.ref tr, .int (nI i), .int x60, .int (nI ws), .int (nI we)] := ho62
          refine lv_goto (tgt := 10) cx.x cx.b d_Ln_frame_49 (by decide) ?_
          rw [e_x60, nI_pred] at ho62
          exact ih _ d _ hlo (by omega) (by omega) (by omega) hj ⟨ho62, hB⟩ (hch.tr (hCh.put z_H61 o_H61 rfl)) (z_H61.trans hsz) _ hl
  refine lv_aload_n cx.x cx.b d_Ln_frame_0 rfl (lv_at hl 0 rfl) ?_
  refine lv_iload_n cx.x cx.b d_Ln_frame_1 rfl (lv_at hl 1 rfl) ?_
  refine pf_Ln_15_Ln cx h.1 hlo hB (Nat.le_of_ble_eq_true rfl) d_Ln_frame_2 (fun H63 locs ho64 z_H63 o_H63 hlo => ?_)
  have ho64 : hOb (eD E) classes H63 a 7 [.ref tr, .int (nI i), .int (nI en), .int (nI ws), .int (nI we)] := ho64
  refine lv_aload_n cx.x cx.b d_Ln_frame_5 rfl (lv_at hl 0 rfl) ?_
  refine lv_iload_n cx.x cx.b d_Ln_frame_6 rfl (lv_at hl 2 rfl) ?_
  refine pf_Ln_19_Ln cx ho64 hlo hB (Nat.le_of_ble_eq_true rfl) d_Ln_frame_7 (fun H65 locs ho66 z_H65 o_H65 hlo => ?_)
  have ho66 : hOb (eD E) classes H65 a 7 [.ref tr, .int (nI i), .int (nI j), .int (nI ws), .int (nI we)] := ho66
  exact LP (j + 1) _ j _ hlo (by omega) h1 (Nat.le_refl _) rfl ⟨ho66, hB⟩ (hCh.tr (S := fun q => q = a) (hCh.put z_H63 o_H63 rfl) (hCh.put z_H65 o_H65 rfl)) (z_H65.trans z_H63) _ hl

set_option maxHeartbeats 4000000 in
set_option maxRecDepth 100000 in
theorem c_Ln_isSkipped (l : Launch) {E : hE} (hE : EnvOk E) {H : Heap} {a tr st en ws we tarr : Nat} {txt : List Nat} {o : Bool} (h : Ln E H a tr st en ws we) (hr : Rw E H tr tarr 480 txt o) (ha1 : tr ≠ a) (ha2 : tarr ≠ a) (h1 : ws ≤ txt.length) (h2 : we ≤ txt.length) : Ct l E y_Ln_isSkipped b_Ln_isSkipped 1 (some .boolean) (rmA 1 0 0) [.ref a] H (hQi (fun r H1 => r = bI (decide (we ≤ ws ∨ txt.getD ws 0 = 33)) ∧ H1 = H)) := by
  refine hx_enter hE (by decide) (Nat.le_of_ble_eq_true rfl) ?_
  intro p e s m args below meth c ls cx hnm hl
  have hl : lv_has ls 1 [(0, .ref a)] := hl
  have hlo : hLo (eB E) [] := hLo.nil
  have hle := hr.le
  have hx := hr.2.2.2.2.2
  refine lv_aload_n cx.x cx.b d_Ln_isSkipped_0 rfl (lv_at hl 0 rfl) ?_
  refine hx_calli (iv_Ln_40_Ln cx (c_Ln_hasWord l hE h (by omega) (by omega)) h.1 rfl hl.1 rfl (Nat.le_of_ble_eq_true rfl) d_Ln_isSkipped_1 ⟨Nat.le_of_ble_eq_true rfl, Nat.le_of_ble_eq_true rfl⟩ ⟨Nat.le_of_ble_eq_true rfl, Nat.le_of_ble_eq_true rfl⟩) hlo (fun _ h => h) (fun r69 H68 locs hp67 hlo => ?_)
  obtain ⟨hp67, hH9⟩ := hp67
  have hH9 := hH9.symm
  subst hH9
  subst hp67
  by_cases c0 : ws < we
  · rw [show decide (ws < we) = true from decide_eq_true c0]
    have b1 := hx _ (getD_mem (show ws < txt.length by omega))
    refine lv_if_eq (tgt := 23) cx.x cx.b d_Ln_isSkipped_4 (by decide) (fun c => absurd c (by decide)) (fun _ => ?_)
    refine lv_aload_n cx.x cx.b d_Ln_isSkipped_7 rfl (lv_at hl 0 rfl) ?_
    refine gf_Ln_9_Ln cx h.1 rfl d_Ln_isSkipped_8 ?_
    refine lv_aload_n cx.x cx.b d_Ln_isSkipped_11 rfl (lv_at hl 0 rfl) ?_
    refine gf_Ln_37_Ln cx h.1 rfl d_Ln_isSkipped_12 ?_
    refine hx_calli (iv_Ln_22_Rw cx (c_Rw_at l hE hr (nI ws)) hr.1 rfl hl.1 rfl (Nat.le_of_ble_eq_true rfl) d_Ln_isSkipped_15 ⟨Nat.le_of_ble_eq_true rfl, Nat.le_of_ble_eq_true rfl⟩ ⟨Nat.le_of_ble_eq_true rfl, Nat.le_of_ble_eq_true rfl⟩) hlo (fun _ h => h) (fun r72 H71 locs hp70 hlo => ?_)
    obtain ⟨hp70, hH9⟩ := hp70
    have hH9 := hH9.symm
    subst hH9
    subst hp70
    rw [atI_n (by omega) (by omega)]
    refine lv_bipush (v := 33) cx.x cx.b d_Ln_isSkipped_18 (by decide) ?_
    refine lv_icmp_ne (tgt := 27) cx.x cx.b d_Ln_isSkipped_20 (by decide) (fun c2 => ?_) (fun c2 => ?_)
    · have c2 : (txt.getD ws 0) ≠ 33 := fun zz => c2 ((nI_eq (a := (txt.getD ws 0)) (b := 33) (by omega) (by omega)).mpr zz)
      refine lv_iconst (v := 0) cx.x cx.b d_Ln_isSkipped_27 (by decide) ?_
      exact hx_reti cx.x cx.b cx.r cx.k rfl hlo (fun _ h => h) (Nat.le_of_ble_eq_true rfl) (Nat.le_of_ble_eq_true rfl) d_Ln_isSkipped_28 (⟨by rw [show decide (we ≤ ws ∨ txt.getD ws 0 = 33) = false from decide_eq_false (fun z => by rcases z with z | z; omega; exact c2 z)]; rfl, rfl⟩)
    · have c2 : (txt.getD ws 0) = 33 := (nI_eq (a := (txt.getD ws 0)) (b := 33) (by omega) (by omega)).mp c2
      refine lv_iconst (v := 1) cx.x cx.b d_Ln_isSkipped_23 (by decide) ?_
      refine lv_goto (tgt := 28) cx.x cx.b d_Ln_isSkipped_24 (by decide) ?_
      exact hx_reti cx.x cx.b cx.r cx.k rfl hlo (fun _ h => h) (Nat.le_of_ble_eq_true rfl) (Nat.le_of_ble_eq_true rfl) d_Ln_isSkipped_28 (⟨by rw [show decide (we ≤ ws ∨ txt.getD ws 0 = 33) = true from decide_eq_true (Or.inr c2)]; rfl, rfl⟩)
  · rw [show decide (ws < we) = false from decide_eq_false c0]
    refine lv_if_eq (tgt := 23) cx.x cx.b d_Ln_isSkipped_4 (by decide) (fun _ => ?_) (fun c => absurd (by decide) c)
    refine lv_iconst (v := 1) cx.x cx.b d_Ln_isSkipped_23 (by decide) ?_
    refine lv_goto (tgt := 28) cx.x cx.b d_Ln_isSkipped_24 (by decide) ?_
    exact hx_reti cx.x cx.b cx.r cx.k rfl hlo (fun _ h => h) (Nat.le_of_ble_eq_true rfl) (Nat.le_of_ble_eq_true rfl) d_Ln_isSkipped_28 (⟨by rw [show decide (we ≤ ws ∨ txt.getD ws 0 = 33) = true from decide_eq_true (Or.inl (by omega))]; rfl, rfl⟩)
