/-- the texts of the String constants, by their places -/
def strT : List (List Nat) := [[35, 115, 105, 103], [49], [50], [112, 117, 98, 108, 105, 99], [112, 114, 111, 116, 101, 99, 116, 101, 100], [115, 116, 97, 116, 105, 99], [102, 105, 110, 97, 108], [97, 98, 115, 116, 114, 97, 99, 116], [109, 101, 116, 104, 111, 100], [102, 105, 101, 108, 100], [99, 108, 97, 115, 115], [105, 110, 116, 101, 114, 102, 97, 99, 101], [101, 110, 117, 109], [114, 101, 99, 111, 114, 100], [60, 105, 110, 105, 116, 62], [35, 115, 105, 103, 32], [32, 32]]
def strL (i : Nat) : List Nat := strT.getD i []
theorem strL_ok : ∀ i, i < 17 → (strL i).length < 20 ∧ ∀ x ∈ strL i, x < 128 := by decide +kernel
/-- what else is known at the law's start: the String constants, two statics -/
def KP (E : hE) (s : State) : Prop := vk_S 17 (strT.map List.length) (strT.map (List.map nI)) (eK E) (eV E) (fun q => eB E ≤ q) s (eH E) ∧ va_Z "java/lang/String" "COMPACT_STRINGS" "Z" (.int 1) (fun q => eB E ≤ q) s (eH E) ∧ va_Zq "jdk/internal/util/Preconditions" "SIOOBE_FORMATTER" "Ljava/util/function/BiFunction;" (fun q => eB E ≤ q) s (eH E)
def EnvS (E : hE) : Prop := ∀ s, eP E s → KP E s
theorem Old.q {E : hE} {H : Heap} (h : Old E H) : ∀ a : Nat, a < (eH E).size → ¬ (eB E ≤ a) → H[a]? = (eH E)[a]? := fun a ha _ => h.2 a ha
theorem strN {i : Nat} (hi : i < 17) : (strT.map List.length).getD i 0 = (strL i).length := by
  have h : ∀ i, i < 17 → (strT.map List.length).getD i 0 = (strL i).length := by decide +kernel
  exact h i hi
theorem strB {i j : Nat} (hi : i < 17) (hj : j < (strL i).length) : ((strT.map (List.map nI)).getD i []).getD j 0 = nI ((strL i).getD j 0) := by
  have h : ∀ i, i < 17 → ∀ j, j < 20 → j < (strL i).length → ((strT.map (List.map nI)).getD i []).getD j 0 = nI ((strL i).getD j 0) := by decide +kernel
  exact h i hi j (Nat.lt_trans hj (strL_ok i hi).1) hj
section SX
variable {p : Program} {l : Launch} {e : Env} {R : Room} {s : State} {m : MethodId} {args : Array Value} {below : List Frame} {meth : Method} {c : Code} {H : Heap} {locs : List Loc} {cells slots : Nat} {Q : State → Prop}
variable {cc : ByteArray} {pc : Nat} {ls : Array Slot} {rest : List Value} {A : Nat → Prop}
theorem hx_gets (hexec : p.tables.exec = Jvm.exec) (hb : c.code = cc) {C n d own ref : String} {v : Value} {index : Nat} (hZ : va_Z C n d v A s H) (hown : s.vm.findClass own = some m.cls) (hlink : (Cond.fieldLink own index ref n d).before args s = true) (hsame : ∀ x, s.fieldFound? C n d = some x → s.fieldFound? ref n d = some x) (hdg : decode cc pc = .ok (.getstatic index, 3))
    (kk : W p l e R s m args below meth c H locs cells slots Q (F0 m (pc + 3) ls (v :: rest))) : W p l e R s m args below meth c H locs cells slots Q (F0 m pc ls rest) := by
  obtain ⟨cf, kf, fi, f, a, cell, h1, h2, h3, h4, h5, h6, h7, h8⟩ := hZ
  exact W.gets hexec hb hown hlink (hsame _ h1) h2 h3 h4 h5 (fun e => by rw [e] at h6; cases h6) h7 rfl hdg kk
theorem hx_getO (hexec : p.tables.exec = Jvm.exec) (hb : c.code = cc) {o n d own ref : String} {index q : Nat} {v : Value} (hE : va_OF o n d v q A s H) (hown : s.vm.findClass own = some m.cls) (hlink : (Cond.fieldLink own index ref n d).before args s = true) (hsame : ∀ x, s.fieldFound? o n d = some x → s.fieldFound? ref n d = some x) (hdg : decode cc pc = .ok (.getfield index, 3))
    (kk : W p l e R s m args below meth c H locs cells slots Q (F0 m (pc + 3) ls (v :: rest))) : W p l e R s m args below meth c H locs cells slots Q (F0 m pc ls (.ref q :: rest)) := by
  obtain ⟨cf, k, fi, f, cell, h1, h2, h3, h4, h5, h6⟩ := hE
  exact W.getf hexec hb hown hlink (hsame _ h1) h2 h3 h4 (v := v) h5 rfl rfl hdg kk
theorem hx_tb (hexec : p.tables.exec = Jvm.exec) (hb : c.code = cc) {t N : Nat} {f : Nat → Value} (hT : va_T .byte t N f A s H) {i : Int32} (hin : vp_in i N) {v : Value} (hv : f i.toNatClampNeg = v) (hdg : decode cc pc = .ok (.baload, 1))
    (kk : W p l e R s m args below meth c H locs cells slots Q (F0 m (pc + 1) ls (v :: rest))) : W p l e R s m args below meth c H locs cells slots Q (F0 m pc ls (.int i :: .ref t :: rest)) := by
  obtain ⟨cell, h1, h2, h3, h4, h5, h6, h7⟩ := hT
  have hlt : i.toNatClampNeg < N := Nat.not_le.mp fun q => hin (Or.inr q)
  have hin' : ¬ (i < 0 ∨ cell.slots.size ≤ i.toNatClampNeg) := by
    intro q
    rcases q with q | q
    · exact hin (Or.inl q)
    · omega
  exact W.bald (v := v) hexec hb h1 h2 h3 hin' (by rw [h6 _ hlt, hv]) rfl rfl hdg kk
theorem hx_tlen (hexec : p.tables.exec = Jvm.exec) (hb : c.code = cc) {t N : Nat} {f : Nat → Value} {ty : FieldType} (hT : va_T ty t N f A s H) {v : Int32} (hv : nI N = v) (hdg : decode cc pc = .ok (.arraylength, 1))
    (kk : W p l e R s m args below meth c H locs cells slots Q (F0 m (pc + 1) ls (.int v :: rest))) : W p l e R s m args below meth c H locs cells slots Q (F0 m pc ls (.ref t :: rest)) := by
  subst hv
  obtain ⟨cell, h1, h2, h3, h4, h5, h6, h7⟩ := hT
  exact W.alen (n := nI N) hexec hb h1 h2 h5 rfl rfl hdg kk
end SX
/-- a String constant in the heap H -/
theorem KX.str {E : hE} {s : State} {H : Heap} (hS : EnvS E) (hX : KX E s) (hO : Old E H) {i : Nat} (hi : i < 17) : va_O "java/lang/String" (eK E i) (fun q => eB E ≤ q) s H ∧ va_OF "java/lang/String" "coder" "B" (.int 0) (eK E i) (fun q => eB E ≤ q) s H ∧ va_OF "java/lang/String" "value" "[B" (.ref (eV E i)) (eK E i) (fun q => eB E ≤ q) s H ∧ va_T .byte (eV E i) (strL i).length (fun j => .int (((strT.map (List.map nI)).getD i []).getD j 0)) (fun q => eB E ≤ q) s H := by
  have h := ((hS s hX.2.2.2.2.2.2).1.kept hO.q).1 i hi
  rw [strN hi] at h
  exact h
theorem KX.compact {E : hE} {s : State} {H : Heap} (hS : EnvS E) (hX : KX E s) (hO : Old E H) : va_Z "java/lang/String" "COMPACT_STRINGS" "Z" (.int 1) (fun q => eB E ≤ q) s H := (hS s hX.2.2.2.2.2.2).2.1.kept hO.q
theorem KX.fmt {E : hE} {s : State} {H : Heap} (hS : EnvS E) (hX : KX E s) (hO : Old E H) : va_Zq "jdk/internal/util/Preconditions" "SIOOBE_FORMATTER" "Ljava/util/function/BiFunction;" (fun q => eB E ≤ q) s H := (hS s hX.2.2.2.2.2.2).2.2.kept hO.q
theorem va_O.rc {C : String} {t : Nat} {A : Nat → Prop} {U : State} {H : Heap} (h : va_O C t A U H) : ∃ cell : Cell, H[t]? = some cell ∧ cell.vm.isStatics = false ∧ U.vm.findClass C = some cell.cls := by
  obtain ⟨cell, h1, h2, h3, -⟩ := h
  exact ⟨cell, h1, h2, h3⟩
theorem eq_getD {xs ys : List Nat} (hl : xs.length = ys.length) (h : ∀ q, q < xs.length → xs.getD q 0 = ys.getD q 0) : xs = ys := by
  apply List.ext_getElem hl
  intro i h1 h2
  have := h i h1
  rw [List.getD_eq_getElem?_getD, List.getD_eq_getElem?_getD, List.getElem?_eq_getElem h1, List.getElem?_eq_getElem h2] at this
  exact this
set_option maxHeartbeats 4000000 in
set_option maxRecDepth 100000 in
theorem c_St_coder (l : Launch) {E : hE} (hE : EnvOk E) (hS : EnvS E) {H : Heap} (hO : Old E H) {i : Nat} (hi : i < 17) : Ct l E y_St_coder b_St_coder 1 (some .byte) (rmA 0 0 0) [.ref (eK E i)] H (hQi (fun r H1 => r = 0 ∧ H1 = H)) := by
  refine hx_enter hE (by decide) (Nat.le_of_ble_eq_true rfl) ?_
  intro p e s m args below meth c ls cx hnm hl
  have hl : lv_has ls 1 [(0, .ref (eK E i))] := hl
  have hlo : hLo (eB E) [] := hLo.nil
  have k := KX.str hS cx.X hO hi
  refine hx_gets cx.x cx.b (KX.compact hS cx.X hO) cx.o (cx.ts _ tw_333) (fun _ h => h) d_St_coder_0 ?_
  refine lv_if_eq (tgt := 13) cx.x cx.b d_St_coder_3 (by decide) (fun c1 => absurd c1 (by decide)) (fun _ => ?_)
  refine lv_aload_n cx.x cx.b d_St_coder_6 rfl (lv_at hl 0 rfl) ?_
  refine hx_getO cx.x cx.b k.2.1 cx.o (cx.ts _ tw_1118) (fun _ h => h) d_St_coder_7 ?_
  refine lv_goto (tgt := 14) cx.x cx.b d_St_coder_10 (by decide) ?_
  exact hx_reti cx.x cx.b cx.r cx.k rfl hlo (fun _ h => h) (Nat.le_of_ble_eq_true rfl) (Nat.le_of_ble_eq_true rfl) d_St_coder_14 (⟨rfl, rfl⟩)

set_option maxHeartbeats 4000000 in
set_option maxRecDepth 100000 in
theorem c_St_length (l : Launch) {E : hE} (hE : EnvOk E) (hS : EnvS E) {H : Heap} (hO : Old E H) {i : Nat} (hi : i < 17) : Ct l E y_St_length b_St_length 1 (some .int) (rmA 1 0 0) [.ref (eK E i)] H (hQi (fun r H1 => r = nI (strL i).length ∧ H1 = H)) := by
  refine hx_enter hE (by decide) (Nat.le_of_ble_eq_true rfl) ?_
  intro p e s m args below meth c ls cx hnm hl
  have hl : lv_has ls 1 [(0, .ref (eK E i))] := hl
  have hlo : hLo (eB E) [] := hLo.nil
  have k := KX.str hS cx.X hO hi
  refine lv_aload_n cx.x cx.b d_St_length_0 rfl (lv_at hl 0 rfl) ?_
  refine hx_getO cx.x cx.b k.2.2.1 cx.o (cx.ts _ tw_1117) (fun _ h => h) d_St_length_1 ?_
  refine hx_tlen cx.x cx.b k.2.2.2 rfl d_St_length_4 ?_
  refine lv_aload_n cx.x cx.b d_St_length_5 rfl (lv_at hl 0 rfl) ?_
  refine hx_calli (iv_St_335_St cx (c_St_coder l hE hS hO hi) k.1.rc rfl hl.1 rfl (Nat.le_of_ble_eq_true rfl) d_St_length_6 ⟨Nat.le_of_ble_eq_true rfl, Nat.le_of_ble_eq_true rfl⟩ ⟨Nat.le_of_ble_eq_true rfl, Nat.le_of_ble_eq_true rfl⟩) hlo (fun _ h => h) (fun r32 H31 locs hp30 hlo => ?_)
  obtain ⟨hp30, hH9⟩ := hp30
  have hH9 := hH9.symm
  subst hH9
  subst hp30
  refine lv_ishr cx.x cx.b d_St_length_9 ?_
  refine lv_topi (fun x33 e_x33 => ?_)
  exact hx_reti cx.x cx.b cx.r cx.k rfl hlo (fun _ h => h) (Nat.le_of_ble_eq_true rfl) (Nat.le_of_ble_eq_true rfl) d_St_length_10 (⟨by rw [e_x33]; exact sc_shr0 (by have := (strL_ok i hi).1; omega), rfl⟩)

set_option maxHeartbeats 4000000 in
set_option maxRecDepth 100000 in
theorem c_St_isLatin1 (l : Launch) {E : hE} (hE : EnvOk E) (hS : EnvS E) {H : Heap} (hO : Old E H) {i : Nat} (hi : i < 17) : Ct l E y_St_isLatin1 b_St_isLatin1 1 (some .boolean) (rmA 0 0 0) [.ref (eK E i)] H (hQi (fun r H1 => r = 1 ∧ H1 = H)) := by
  refine hx_enter hE (by decide) (Nat.le_of_ble_eq_true rfl) ?_
  intro p e s m args below meth c ls cx hnm hl
  have hl : lv_has ls 1 [(0, .ref (eK E i))] := hl
  have hlo : hLo (eB E) [] := hLo.nil
  have k := KX.str hS cx.X hO hi
  refine hx_gets cx.x cx.b (KX.compact hS cx.X hO) cx.o (cx.ts _ tw_333) (fun _ h => h) d_St_isLatin1_0 ?_
  refine lv_if_eq (tgt := 17) cx.x cx.b d_St_isLatin1_3 (by decide) (fun c1 => absurd c1 (by decide)) (fun _ => ?_)
  refine lv_aload_n cx.x cx.b d_St_isLatin1_6 rfl (lv_at hl 0 rfl) ?_
  refine hx_getO cx.x cx.b k.2.1 cx.o (cx.ts _ tw_1118) (fun _ h => h) d_St_isLatin1_7 ?_
  refine lv_if_ne (tgt := 17) cx.x cx.b d_St_isLatin1_10 (by decide) (fun c1 => absurd rfl c1) (fun _ => ?_)
  refine lv_iconst (v := 1) cx.x cx.b d_St_isLatin1_13 (by decide) ?_
  refine lv_goto (tgt := 18) cx.x cx.b d_St_isLatin1_14 (by decide) ?_
  exact hx_reti cx.x cx.b cx.r cx.k rfl hlo (fun _ h => h) (Nat.le_of_ble_eq_true rfl) (Nat.le_of_ble_eq_true rfl) d_St_isLatin1_18 (⟨rfl, rfl⟩)

set_option maxHeartbeats 4000000 in
set_option maxRecDepth 100000 in
theorem c_Pre_checkIndex (l : Launch) {E : hE} (hE : EnvOk E) {H : Heap} {x n : Int32} (h0 : ¬ x < 0) (h1 : x < n) (q : Option Nat) : Ct l E y_Pre_checkIndex b_Pre_checkIndex 3 (some .int) (rmA 0 0 0) [.int x, .int n, va_rf q] H (hQi (fun r H1 => r = x ∧ H1 = H)) := by
  refine hx_enter hE (by decide) (by cases q <;> exact Nat.le_of_ble_eq_true rfl) ?_
  intro p e s m args below meth c ls cx hnm hl
  have hl : lv_has ls 3 [(0, .int x), (1, .int n), (2, va_rf q)] := by cases q <;> exact hl
  have hlo : hLo (eB E) [] := hLo.nil
  refine lv_iload_n cx.x cx.b d_Pre_checkIndex_0 rfl (lv_at hl 0 rfl) ?_
  refine lv_if_lt (tgt := 9) cx.x cx.b d_Pre_checkIndex_1 (by decide) (fun c1 => absurd c1 h0) (fun _ => ?_)
  refine lv_iload_n cx.x cx.b d_Pre_checkIndex_4 rfl (lv_at hl 0 rfl) ?_
  refine lv_iload_n cx.x cx.b d_Pre_checkIndex_5 rfl (lv_at hl 1 rfl) ?_
  refine lv_icmp_lt (tgt := 16) cx.x cx.b d_Pre_checkIndex_6 (by decide) (fun _ => ?_) (fun c1 => absurd h1 c1)
  refine lv_iload_n cx.x cx.b d_Pre_checkIndex_16 rfl (lv_at hl 0 rfl) ?_
  exact hx_reti cx.x cx.b cx.r cx.k rfl hlo (fun _ h => h) (Nat.le_of_ble_eq_true rfl) (Nat.le_of_ble_eq_true rfl) d_Pre_checkIndex_17 (⟨rfl, rfl⟩)

set_option maxHeartbeats 4000000 in
set_option maxRecDepth 100000 in
theorem c_St_checkIndex (l : Launch) {E : hE} (hE : EnvOk E) (hS : EnvS E) {H : Heap} (hO : Old E H) {x n : Int32} (h0 : ¬ x < 0) (h1 : x < n) : Ct l E y_St_checkIndex b_St_checkIndex 2 none (rmA 1 0 0) [.int x, .int n] H (hQv (fun H1 => H1 = H)) := by
  refine hx_enter hE (by decide) (Nat.le_of_ble_eq_true rfl) ?_
  intro p e s m args below meth c ls cx hnm hl
  have hl : lv_has ls 2 [(0, .int x), (1, .int n)] := hl
  have hlo : hLo (eB E) [] := hLo.nil
  have k : ∃ q : Option Nat, va_Z "jdk/internal/util/Preconditions" "SIOOBE_FORMATTER" "Ljava/util/function/BiFunction;" (va_rf q) (fun q => eB E ≤ q) s H := by
    rcases KX.fmt hS cx.X hO with h | ⟨t, h⟩
    · exact ⟨none, h⟩
    · exact ⟨some t, h⟩
  obtain ⟨q, hq⟩ := k
  refine lv_iload_n cx.x cx.b d_St_checkIndex_0 rfl (lv_at hl 0 rfl) ?_
  refine lv_iload_n cx.x cx.b d_St_checkIndex_1 rfl (lv_at hl 1 rfl) ?_
  refine hx_gets cx.x cx.b hq cx.o (cx.ts _ tw_349) (fun _ h => h) d_St_checkIndex_2 ?_
  refine hx_calli (iv_St_1059 cx (c_Pre_checkIndex l hE h0 h1 q) rfl hl.1 rfl (Nat.le_of_ble_eq_true rfl) d_St_checkIndex_5 ⟨Nat.le_of_ble_eq_true rfl, Nat.le_of_ble_eq_true rfl⟩ ⟨Nat.le_of_ble_eq_true rfl, Nat.le_of_ble_eq_true rfl⟩) hlo (fun _ h => h) (fun r36 H35 locs hp34 hlo => ?_)
  obtain ⟨hp34, rfl⟩ := hp34
  refine lv_pop cx.x cx.b d_St_checkIndex_8 rfl ?_
  exact hx_retv cx.x cx.b cx.r cx.k hlo (fun _ h => h) (Nat.le_of_ble_eq_true rfl) (Nat.le_of_ble_eq_true rfl) d_St_checkIndex_9 (rfl)

set_option maxHeartbeats 4000000 in
set_option maxRecDepth 100000 in
theorem c_SL_charAt (l : Launch) {E : hE} (hE : EnvOk E) (hS : EnvS E) {H : Heap} (hO : Old E H) {i : Nat} (hi : i < 17) {j : Nat} (hj : j < (strL i).length) : Ct l E y_SL_charAt b_SL_charAt 2 (some .char) (rmA 2 0 0) [.ref (eV E i), .int (nI j)] H (hQi (fun r H1 => r = nI ((strL i).getD j 0) ∧ H1 = H)) := by
  refine hx_enter hE (by decide) (Nat.le_of_ble_eq_true rfl) ?_
  intro p e s m args below meth c ls cx hnm hl
  have hl : lv_has ls 2 [(0, .ref (eV E i)), (1, .int (nI j))] := hl
  have hlo : hLo (eB E) [] := hLo.nil
  have k := KX.str hS cx.X hO hi
  have hb := strL_ok i hi
  have hb2 := hb.2 _ (getD_mem hj)
  refine lv_iload_n cx.x cx.b d_SL_charAt_0 rfl (lv_at hl 1 rfl) ?_
  refine lv_aload_n cx.x cx.b d_SL_charAt_1 rfl (lv_at hl 0 rfl) ?_
  refine hx_tlen cx.x cx.b k.2.2.2 rfl d_SL_charAt_2 ?_
  refine hx_callv (iv_SL_9 cx (c_St_checkIndex l hE hS hO (nI_pos (by omega)) (nI_lt hj (by omega))) rfl hl.1 rfl (Nat.le_of_ble_eq_true rfl) d_SL_charAt_3 ⟨Nat.le_of_ble_eq_true rfl, Nat.le_of_ble_eq_true rfl⟩ ⟨Nat.le_of_ble_eq_true rfl, Nat.le_of_ble_eq_true rfl⟩) hlo (fun _ h => h) (fun H38 locs hp37 hlo => ?_)
  obtain rfl := hp37
  refine lv_aload_n cx.x cx.b d_SL_charAt_6 rfl (lv_at hl 0 rfl) ?_
  refine lv_iload_n cx.x cx.b d_SL_charAt_7 rfl (lv_at hl 1 rfl) ?_
  refine hx_tb (v := .int (nI ((strL i).getD j 0))) cx.x cx.b k.2.2.2 (vp_in_nI hj (by omega)) (by show Value.int _ = _; rw [nI_clamp (by omega), strB hi hj]) d_SL_charAt_8 ?_
  refine lv_sipush (v := 255) cx.x cx.b d_SL_charAt_9 (by decide) ?_
  refine lv_iand cx.x cx.b d_SL_charAt_12 ?_
  refine lv_topi (fun x39 e_x39 => ?_)
  refine lv_i2c (v := (x39.toUInt32 % 65536).toInt32) cx.x cx.b d_SL_charAt_13 rfl ?_
  refine lv_topi (fun x40 e_x40 => ?_)
  have e9 : x40 = nI ((strL i).getD j 0) := by
    rw [e_x40, e_x39, pk_andN (by omega) 8 (by decide), Nat.mod_eq_of_lt (by omega), pk_char, pk_tn (by omega), Nat.mod_eq_of_lt (by omega)]
  exact hx_reti cx.x cx.b cx.r cx.k (by rw [e9]; exact (pk_charN (by omega)).1) hlo (fun _ h => h) (Nat.le_of_ble_eq_true rfl) (Nat.le_of_ble_eq_true rfl) d_SL_charAt_14 (⟨e9, rfl⟩)

set_option maxHeartbeats 4000000 in
set_option maxRecDepth 100000 in
theorem c_St_charAt (l : Launch) {E : hE} (hE : EnvOk E) (hS : EnvS E) {H : Heap} (hO : Old E H) {i : Nat} (hi : i < 17) {j : Nat} (hj : j < (strL i).length) : Ct l E y_St_charAt b_St_charAt 2 (some .char) (rmA 3 0 0) [.ref (eK E i), .int (nI j)] H (hQi (fun r H1 => r = nI ((strL i).getD j 0) ∧ H1 = H)) := by
  refine hx_enter hE (by decide) (Nat.le_of_ble_eq_true rfl) ?_
  intro p e s m args below meth c ls cx hnm hl
  have hl : lv_has ls 2 [(0, .ref (eK E i)), (1, .int (nI j))] := hl
  have hlo : hLo (eB E) [] := hLo.nil
  have k := KX.str hS cx.X hO hi
  have hb2 := (strL_ok i hi).2 _ (getD_mem hj)
  refine lv_aload_n cx.x cx.b d_St_charAt_0 rfl (lv_at hl 0 rfl) ?_
  refine hx_calli (iv_St_492_St cx (c_St_isLatin1 l hE hS hO hi) k.1.rc rfl hl.1 rfl (Nat.le_of_ble_eq_true rfl) d_St_charAt_1 ⟨Nat.le_of_ble_eq_true rfl, Nat.le_of_ble_eq_true rfl⟩ ⟨Nat.le_of_ble_eq_true rfl, Nat.le_of_ble_eq_true rfl⟩) hlo (fun _ h => h) (fun r43 H42 locs hp41 hlo => ?_)
  obtain ⟨hp41, hH9⟩ := hp41
  have hH9 := hH9.symm
  subst hH9
  refine lv_if_eq (tgt := 16) cx.x cx.b d_St_charAt_4 (by decide) (fun c1 => absurd (hp41.symm.trans c1) (by decide)) (fun _ => ?_)
  refine lv_aload_n cx.x cx.b d_St_charAt_7 rfl (lv_at hl 0 rfl) ?_
  refine hx_getO cx.x cx.b k.2.2.1 cx.o (cx.ts _ tw_1117) (fun _ h => h) d_St_charAt_8 ?_
  refine lv_iload_n cx.x cx.b d_St_charAt_11 rfl (lv_at hl 1 rfl) ?_
  refine hx_calli (iv_St_495 cx (c_SL_charAt l hE hS hO hi hj) rfl hl.1 rfl (Nat.le_of_ble_eq_true rfl) d_St_charAt_12 ⟨Nat.le_of_ble_eq_true rfl, Nat.le_of_ble_eq_true rfl⟩ ⟨Nat.le_of_ble_eq_true rfl, Nat.le_of_ble_eq_true rfl⟩) hlo (fun _ h => h) (fun r46 H45 locs hp44 hlo => ?_)
  obtain ⟨hp44, hH9⟩ := hp44
  have hH9 := hH9.symm
  subst hH9
  exact hx_reti cx.x cx.b cx.r cx.k (by rw [hp44]; exact (pk_charN (by omega)).1) hlo (fun _ h => h) (Nat.le_of_ble_eq_true rfl) (Nat.le_of_ble_eq_true rfl) d_St_charAt_15 (⟨hp44, rfl⟩)

set_option maxHeartbeats 4000000 in
set_option maxRecDepth 100000 in
theorem c_Rw_addWord (l : Launch) {E : hE} (hE : EnvOk E) (hS : EnvS E) {H : Heap} (hO : Old E H) {i : Nat} (hi : i < 17) {a arr cap : Nat} {xs : List Nat} {o : Bool} (h : Rw E H a arr cap xs o) : Ct l E y_Rw_addWord b_Rw_addWord 3 none (rmA 4 0 0) [.ref a, .ref (eK E i)] H (hQv (fun H1 => Rw E H1 a arr cap ((strL i).foldl (addR cap) (xs, o)).1 ((strL i).foldl (addR cap) (xs, o)).2 ∧ hCh (rS a arr) H H1 ∧ H1.size = H.size)) := by
  refine hx_enter hE (by decide) (Nat.le_of_ble_eq_true rfl) ?_
  intro p e s m args below meth c ls cx hnm hl
  have hl : lv_has ls 3 [(0, .ref a), (1, .ref (eK E i))] := hl
  have hlo : hLo (eB E) [] := hLo.nil
  generalize hQ : MQ below _ args s _ _ _ = Q
  have hb := strL_ok i hi
  have LP : ∀ (k j : Nat) (xs1 : List Nat) (o1 : Bool) (H2 : Heap) (locs : List Loc), j ≤ (strL i).length → (strL i).length - j < k → Rw E H2 a arr cap xs1 o1 → hCh (rS a arr) H H2 → H2.size = H.size → hLo (eB E) locs → ((strL i).drop j).foldl (addR cap) (xs1, o1) = (strL i).foldl (addR cap) (xs, o) → ∀ ls, lv_has ls 3 [(2, .int (nI j)), (0, .ref a), (1, .ref (eK E i))] → W p l e (rmA 4 0 0) s m args below meth c H2 locs 0 0 Q (F0 m 2 ls []) := by
    intro k
    induction k with
    | zero => intro j _ _ _ _ _ h; omega
    | succ k ih =>
      intro j xs1 o1 H2 locs hj0 hk hr hch hsz hlo hj ls hl
      have hO2 : Old E H2 := hO.ch hch (rS.lo h)
      have k9 := KX.str hS cx.X hO2 hi
      refine lv_iload_n cx.x cx.b d_Rw_addWord_2 rfl (lv_at hl 0 rfl) ?_
      refine lv_aload_n cx.x cx.b d_Rw_addWord_3 rfl (lv_at hl 2 rfl) ?_
      refine hx_calli (iv_Rw_23_St cx (c_St_length l hE hS hO2 hi) k9.1.rc rfl hl.1 rfl (Nat.le_of_ble_eq_true rfl) d_Rw_addWord_4 ⟨Nat.le_of_ble_eq_true rfl, Nat.le_of_ble_eq_true rfl⟩ ⟨Nat.le_of_ble_eq_true rfl, Nat.le_of_ble_eq_true rfl⟩) hlo (fun _ h => h) (fun r49 H48 locs hp47 hlo => ?_)
      obtain ⟨hp47, hH9⟩ := hp47
      have hH9 := hH9.symm
      subst hH9
      subst hp47
      refine lv_icmp_ge (tgt := 25) cx.x cx.b d_Rw_addWord_7 (by decide) (fun c1 => ?_) (fun c1 => ?_)
      · have hend : (strL i).length ≤ j := nle_of c1 (by omega) (by omega)
        rw [List.drop_eq_nil_of_le hend] at hj
        rw [← hj] at hQ
        rw [← hQ]
        exact hx_retv cx.x cx.b cx.r cx.k hlo (fun _ h => h) (Nat.le_of_ble_eq_true rfl) (Nat.le_of_ble_eq_true rfl) d_Rw_addWord_25 (⟨hr, hch, hsz⟩)
      · have hlt : j < (strL i).length := nlt_of c1 (by omega) (by omega)
        refine lv_aload_n cx.x cx.b d_Rw_addWord_10 rfl (lv_at hl 1 rfl) ?_
        refine lv_aload_n cx.x cx.b d_Rw_addWord_11 rfl (lv_at hl 2 rfl) ?_
        refine lv_iload_n cx.x cx.b d_Rw_addWord_12 rfl (lv_at hl 0 rfl) ?_
        refine hx_calli (iv_Rw_28_St cx (c_St_charAt l hE hS hO2 hi hlt) k9.1.rc rfl hl.1 rfl (Nat.le_of_ble_eq_true rfl) d_Rw_addWord_13 ⟨Nat.le_of_ble_eq_true rfl, Nat.le_of_ble_eq_true rfl⟩ ⟨Nat.le_of_ble_eq_true rfl, Nat.le_of_ble_eq_true rfl⟩) hlo (fun _ h => h) (fun r52 H51 locs hp50 hlo => ?_)
        obtain ⟨hp50, hH9⟩ := hp50
        have hH9 := hH9.symm
        subst hH9
        subst hp50
        refine hx_callv (iv_Rw_32_Rw cx (c_Rw_add l hE hr (hb.2 _ (getD_mem hlt))) hr.1 rfl hl.1 rfl (Nat.le_of_ble_eq_true rfl) d_Rw_addWord_16 ⟨Nat.le_of_ble_eq_true rfl, Nat.le_of_ble_eq_true rfl⟩ ⟨Nat.le_of_ble_eq_true rfl, Nat.le_of_ble_eq_true rfl⟩) hlo (fun _ h => h) (fun H54 locs hp53 hlo => ?_)
        obtain ⟨q1, q2, q3⟩ := hp53
        obtain ⟨x55, e_x55⟩ : ∃ y : Int32, y = nI j + 1 := ⟨_, rfl⟩
        refine lv_iinc (v := x55) (lv' := [(2, .int x55), (0, .ref a), (1, .ref (eK E i))]) cx.x cx.b d_Rw_addWord_19 hl (k := 0) rfl (by rw [e_x55]; rfl) (by decide) rfl (fun ls hl => ?_)
        refine lv_goto (tgt := 2) cx.x cx.b d_Rw_addWord_22 (by decide) ?_
        rw [nI_1] at e_x55
        subst e_x55
        exact ih (j + 1) _ _ _ _ (by omega) (by omega) q1 (hch.tr q2) (q3.trans hsz) hlo (by rw [← hj, foldl_drop _ _ hlt]) _ hl
  refine lv_iconst (v := 0) cx.x cx.b d_Rw_addWord_0 (by decide) ?_
  refine lv_istore_n (lv' := [(2, .int 0), (0, .ref a), (1, .ref (eK E i))]) cx.x cx.b d_Rw_addWord_1 rfl hl (by decide) rfl (fun ls hl => ?_)
  exact LP ((strL i).length + 1) 0 _ _ _ _ (Nat.zero_le _) (by omega) h hCh.rf rfl hlo (by rw [List.drop_zero]) _ hl

set_option maxHeartbeats 4000000 in
set_option maxRecDepth 100000 in
theorem c_Rw_isWord (l : Launch) {E : hE} (hE : EnvOk E) (hS : EnvS E) {H : Heap} (hO : Old E H) {i : Nat} (hi : i < 17) {a arr cap : Nat} {xs : List Nat} {o : Bool} (h : Rw E H a arr cap xs o) : Ct l E y_Rw_isWord b_Rw_isWord 3 (some .boolean) (rmA 4 0 0) [.ref a, .ref (eK E i)] H (hQi (fun r H1 => r = bI (decide (xs = strL i)) ∧ H1 = H)) := by
  refine hx_enter hE (by decide) (Nat.le_of_ble_eq_true rfl) ?_
  intro p e s m args below meth c ls cx hnm hl
  have hl : lv_has ls 3 [(0, .ref a), (1, .ref (eK E i))] := hl
  have hlo : hLo (eB E) [] := hLo.nil
  obtain ⟨ho, ⟨f, hf, hc⟩, hle, hcap, ⟨hBa, hBr, hne⟩, hx⟩ := h
  generalize hQ : MQ below _ args s _ _ _ = Q
  have hb := strL_ok i hi
  have k9 := KX.str hS cx.X hO hi
  have LP : ∀ (k j : Nat) (locs : List Loc), hLo (eB E) locs → j ≤ xs.length → xs.length - j < k → xs.length = (strL i).length → (∀ q, q < j → xs.getD q 0 = (strL i).getD q 0) → ∀ ls, lv_has ls 3 [(2, .int (nI j)), (0, .ref a), (1, .ref (eK E i))] → W p l e (rmA 4 0 0) s m args below meth c H locs 0 0 Q (F0 m 15 ls []) := by
    intro k
    induction k with
    | zero => intro j _ _ _ h; omega
    | succ k ih =>
      intro j locs hlo hj0 hk hlen hj ls hl
      refine lv_iload_n cx.x cx.b d_Rw_isWord_15 rfl (lv_at hl 0 rfl) ?_
      refine lv_aload_n cx.x cx.b d_Rw_isWord_16 rfl (lv_at hl 1 rfl) ?_
      refine gf_Rw_15_Rw cx ho rfl d_Rw_isWord_17 ?_
      refine lv_icmp_ge (tgt := 45) cx.x cx.b d_Rw_isWord_20 (by decide) (fun c1 => ?_) (fun c1 => ?_)
      · have hend : xs.length ≤ j := nle_of c1 (by omega) (by omega)
        refine lv_iconst (v := 1) cx.x cx.b d_Rw_isWord_45 (by decide) ?_
        rw [← hQ]
        exact hx_reti cx.x cx.b cx.r cx.k rfl hlo (fun _ h => h) (Nat.le_of_ble_eq_true rfl) (Nat.le_of_ble_eq_true rfl) d_Rw_isWord_46 (⟨by rw [show decide (xs = strL i) = true from decide_eq_true (eq_getD hlen (fun q hq => hj q (by omega)))]; rfl, rfl⟩)
      · have hlt : j < xs.length := nlt_of c1 (by omega) (by omega)
        have b1 := hx _ (getD_mem hlt)
        have b2 := hb.2 _ (getD_mem (show j < (strL i).length by omega))
        refine lv_aload_n cx.x cx.b d_Rw_isWord_23 rfl (lv_at hl 1 rfl) ?_
        refine gf_Rw_9_Rw cx ho rfl d_Rw_isWord_24 ?_
        refine lv_iload_n cx.x cx.b d_Rw_isWord_27 rfl (lv_at hl 0 rfl) ?_
        refine hx_cald cx.x cx.b cx.K 1 hf rfl (vp_in_nI (by omega) (by omega)) d_Rw_isWord_28 ?_
        refine lv_topi (fun x56 e_x56 => ?_)
        rw [nI_clamp (by omega), hc j hlt] at e_x56
        refine lv_aload_n cx.x cx.b d_Rw_isWord_29 rfl (lv_at hl 2 rfl) ?_
        refine lv_iload_n cx.x cx.b d_Rw_isWord_30 rfl (lv_at hl 0 rfl) ?_
        refine hx_calli (iv_Rw_28_St cx (c_St_charAt l hE hS hO hi (show j < (strL i).length by omega)) k9.1.rc rfl hl.1 rfl (Nat.le_of_ble_eq_true rfl) d_Rw_isWord_31 ⟨Nat.le_of_ble_eq_true rfl, Nat.le_of_ble_eq_true rfl⟩ ⟨Nat.le_of_ble_eq_true rfl, Nat.le_of_ble_eq_true rfl⟩) hlo (fun _ h => h) (fun r59 H58 locs hp57 hlo => ?_)
        obtain ⟨hp57, hH9⟩ := hp57
        have hH9 := hH9.symm
        subst hH9
        subst hp57
        refine lv_icmp_eq (tgt := 39) cx.x cx.b d_Rw_isWord_34 (by decide) (fun c2 => ?_) (fun c2 => ?_)
        · have hq : xs.getD j 0 = (strL i).getD j 0 := by rw [e_x56] at c2; exact (nI_eq (by omega) (by omega)).mp c2
          obtain ⟨x60, e_x60⟩ : ∃ y : Int32, y = nI j + 1 := ⟨_, rfl⟩
          refine lv_iinc (v := x60) (lv' := [(2, .int x60), (0, .ref a), (1, .ref (eK E i))]) cx.x cx.b d_Rw_isWord_39 hl (k := 0) rfl (by rw [e_x60]; rfl) (by decide) rfl (fun ls hl => ?_)
          refine lv_goto (tgt := 15) cx.x cx.b d_Rw_isWord_42 (by decide) ?_
          rw [nI_1] at e_x60
          subst e_x60
          exact ih (j + 1) _ hlo (by omega) (by omega) hlen (lt_s hj hq) _ hl
        · refine lv_iconst (v := 0) cx.x cx.b d_Rw_isWord_37 (by decide) ?_
          rw [← hQ]
          exact hx_reti cx.x cx.b cx.r cx.k rfl hlo (fun _ h => h) (Nat.le_of_ble_eq_true rfl) (Nat.le_of_ble_eq_true rfl) d_Rw_isWord_38 (⟨by rw [show decide (xs = strL i) = false from decide_eq_false (fun q => c2 (by rw [e_x56, q]))]; rfl, rfl⟩)
  refine lv_aload_n cx.x cx.b d_Rw_isWord_0 rfl (lv_at hl 0 rfl) ?_
  refine gf_Rw_15_Rw cx ho rfl d_Rw_isWord_1 ?_
  refine lv_aload_n cx.x cx.b d_Rw_isWord_4 rfl (lv_at hl 1 rfl) ?_
  refine hx_calli (iv_Rw_23_St cx (c_St_length l hE hS hO hi) k9.1.rc rfl hl.1 rfl (Nat.le_of_ble_eq_true rfl) d_Rw_isWord_5 ⟨Nat.le_of_ble_eq_true rfl, Nat.le_of_ble_eq_true rfl⟩ ⟨Nat.le_of_ble_eq_true rfl, Nat.le_of_ble_eq_true rfl⟩) hlo (fun _ h => h) (fun r63 H62 locs hp61 hlo => ?_)
  obtain ⟨hp61, hH9⟩ := hp61
  have hH9 := hH9.symm
  subst hH9
  subst hp61
  refine lv_icmp_eq (tgt := 13) cx.x cx.b d_Rw_isWord_8 (by decide) (fun c1 => ?_) (fun c1 => ?_)
  · have hlen : xs.length = (strL i).length := (nI_eq (by omega) (by omega)).mp c1
    refine lv_iconst (v := 0) cx.x cx.b d_Rw_isWord_13 (by decide) ?_
    refine lv_istore_n (lv' := [(2, .int 0), (0, .ref a), (1, .ref (eK E i))]) cx.x cx.b d_Rw_isWord_14 rfl hl (by decide) rfl (fun ls hl => ?_)
    exact LP (xs.length + 1) 0 _ hlo (Nat.zero_le _) (by omega) hlen (fun q hq => absurd hq (Nat.not_lt_zero q)) _ hl
  · refine lv_iconst (v := 0) cx.x cx.b d_Rw_isWord_11 (by decide) ?_
    rw [← hQ]
    exact hx_reti cx.x cx.b cx.r cx.k rfl hlo (fun _ h => h) (Nat.le_of_ble_eq_true rfl) (Nat.le_of_ble_eq_true rfl) d_Rw_isWord_12 (⟨by rw [show decide (xs = strL i) = false from decide_eq_false (fun q => c1 (by rw [q]))]; rfl, rfl⟩)
