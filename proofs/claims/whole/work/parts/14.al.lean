section AX
variable {p : Program} {l : Launch} {e : Env} {R : Room} {s : State} {m : MethodId} {args : Array Value} {below : List Frame} {meth : Method} {c : Code} {H : Heap} {locs : List Loc} {cells slots : Nat} {Q : State → Prop}
variable {cc : ByteArray} {pc : Nat} {ls : Array Slot} {rest : List Value} {D : va_G} {cl : List vw_C} {a B : Nat} {tys : List (ClassId × FieldType)}
theorem hx_aast (hexec : p.tables.exec = Jvm.exec) (hb : c.code = cc) (hK : va_K D cl tys s) (t0 : Nat) {E0 : String} {cA : ClassId} {n v : Nat} {f : Nat → Option Nat} (ha : hAq H a cA n f) (hlo : hLo B locs) (hB : B ≤ a) (ht : tys[t0]? = some (cA, .object E0)) (hr : va_Any E0 s H v) {i : Int32} (hin : vp_in i n) (hdg : decode cc pc = .ok (.aastore, 1))
    (kk : ∀ (H1 : Heap) (locs1 : List Loc), hAq H1 a cA n (va_up f i.toNatClampNeg (some v)) → H1.size = H.size → (∀ q : Nat, q ≠ a → H1[q]? = H[q]?) → hLo B locs1 → W p l e R s m args below meth c H1 locs1 cells slots Q (F0 m (pc + 1) ls rest)) : W p l e R s m args below meth c H locs cells slots Q (F0 m pc ls (.ref v :: .int i :: .ref a :: rest)) := by
  have hlt : i.toNatClampNeg < n := Nat.not_le.mp fun q => hin (Or.inr q)
  have h0 : ¬ i < 0 := fun q => hin (Or.inl q)
  obtain ⟨cellV, g1, g3, ⟨kC, hkC⟩, hasg⟩ := hr
  obtain ⟨kA, comp, k1, k2, k3, -⟩ := (hK.2 t0 _ ht).2
  obtain ⟨kE, hkE, -⟩ := Vm.findClass_spec k3
  refine W.aast hexec hb ha (fun q h => by cases h) (fun h => by cases h) k1 k2 rfl hkE ⟨h0, by show _ < (arrV _ _ _).slots.size; rw [arrV_size]; exact hlt⟩ g1 (fun q h => by rw [h] at g3; cases g3) hkC (hasg _ k3) rfl rfl hdg fun H1 e z oq => ?_
  refine kk H1 _ ?_ z oq (hlo.put hB)
  show H1[a]? = some (vp_cell _ _)
  rw [e]
  rw [vp_cell_q, vp_cell_q, arrV_store]
  congr 2
  funext q
  by_cases hq : q = i.toNatClampNeg
  · subst hq
    simp [updV, va_up, va_rf]
  · simp [updV, va_up, hq]
theorem hx_aastN (hexec : p.tables.exec = Jvm.exec) (hb : c.code = cc) (hK : va_K D cl tys s) (t0 : Nat) {C : String} {cA : ClassId} {n : Nat} {f : Nat → Option Nat} (ha : hAq H a cA n f) (hlo : hLo B locs) (hB : B ≤ a) (ht : tys[t0]? = some (cA, .object C)) {i : Int32} (hin : vp_in i n) (hdg : decode cc pc = .ok (.aastore, 1))
    (kk : ∀ (H1 : Heap) (locs1 : List Loc), hAq H1 a cA n (va_up f i.toNatClampNeg none) → H1.size = H.size → (∀ q : Nat, q ≠ a → H1[q]? = H[q]?) → hLo B locs1 → W p l e R s m args below meth c H1 locs1 cells slots Q (F0 m (pc + 1) ls rest)) : W p l e R s m args below meth c H locs cells slots Q (F0 m pc ls (.null :: .int i :: .ref a :: rest)) := by
  refine va_WaastN (C := C) hexec hb ha ((hK.2 t0 _ ht).1 n (fun j => va_rf (f j))) (fun h => by cases h) (by show ¬ (i < 0 ∨ (arrV _ _ _).slots.size ≤ _); rw [arrV_size]; exact hin) rfl rfl hdg fun H1 e z oq => ?_
  refine kk H1 _ ?_ z oq (hlo.put hB)
  show H1[a]? = some (vp_cell _ _)
  rw [e]
  rw [vp_cell_q, vp_cell_q, arrV_store]
  congr 2
  funext q
  by_cases hq : q = i.toNatClampNeg
  · subst hq
    simp [updV, va_up, va_rf]
  · simp [updV, va_up, hq]
theorem hx_newq (hexec : p.tables.exec = Jvm.exec) (hb : c.code = cc) {own C : String} {index : Nat} (hown : s.vm.findClass own = some m.cls) (hclink : (Cond.classLink own index C).before args s = true) (hover : va_AO C s) (hK : va_K D cl tys s) (t0 : Nat) {cA : ClassId} (ht : tys[t0]? = some (cA, .object C))
    {n : Int32} {N' : Nat} (hn : ¬ n < 0) (hN : n.toNatClampNeg = N') (hbytes : N' * 4 ≤ 536870912) (hcells : cells + 1 ≤ R.cells) (hslots : slots + N' ≤ R.slots) (hdg : decode cc pc = .ok (.anewarray index, 3))
    (kk : ∀ H1 : Heap, hAq H1 H.size cA N' (fun _ => none) → H1.size = H.size + 1 → (∀ q : Nat, q < H.size → H1[q]? = H[q]?) → W p l e R s m args below meth c H1 locs (cells + 1) (slots + N') Q (F0 m (pc + 3) ls (.ref H.size :: rest))) : W p l e R s m args below meth c H locs cells slots Q (F0 m pc ls (.int n :: rest)) := by
  subst hN
  refine W.anew hexec hb hown hclink (va_AO.use hover) rfl hdg rfl hn hbytes hcells hslots fun cA' kA comp f1 f2 f3 f4 => ?_
  obtain ⟨-, -, -, -, -, h4⟩ := (hK.2 t0 _ ht).2
  have he : cA' = cA := Option.some.inj (f1.symm.trans h4)
  subst he
  generalize hH1 : H.push ({ cls := cA', slots := Array.replicate n.toNatClampNeg .null, vm := .none } : Cell) = H1
  have z1 : H1.size = H.size + 1 := by rw [← hH1, Array.size_push]
  have e1 : H1[H.size]? = some (arrV cA' n.toNatClampNeg (fun _ => .null)) := by rw [← hH1, Array.getElem?_push_size, ← arrV_new]
  have o1 : ∀ q : Nat, q < H.size → H1[q]? = H[q]? := fun q hq => by rw [← hH1, Array.getElem?_push, if_neg (Nat.ne_of_lt hq)]
  exact kk H1 e1 z1 o1
theorem hx_acopy (hexec : p.tables.exec = Jvm.exec) (hb : c.code = cc) (hml : c.maxLocals = ls.size) {own : String} {index : Nat} (hown : s.vm.findClass own = some m.cls) (hlink : (Cond.methodLink own index arraycopyName).before args s = true) (hnat : (Cond.native arraycopyName).before args s = true) (hstat : (Cond.static arraycopyName).before args s = true) (hini : (Cond.initialized "java/lang/System").before args s = true)
    (hK : va_K D cl tys s) (t0 : Nat) {cA : ClassId} {C : String} (ht : tys[t0]? = some (cA, .object C)) {a0 : Nat} {n0 n1 : Nat} {f g : Nat → Option Nat} (ha0 : hAq H a0 cA n0 f) (ha1 : hAq H a cA n1 g) (hlo : hLo B locs) (hB : B ≤ a)
    {sp dp n : Int32} (h1 : ¬ sp < 0) (h2 : ¬ dp < 0) (h3 : ¬ n < 0) (h4 : sp.toNatClampNeg + n.toNatClampNeg ≤ n0) (h5 : dp.toNatClampNeg + n.toNatClampNeg ≤ n1) (hel : ∀ i : Nat, i < n.toNatClampNeg → ∀ y : Nat, f (sp.toNatClampNeg + i) = some y → va_Any C s H y)
    (hframes : 1 ≤ R.frames) (hlocals : (rest.map fun v => v.category).sum + (nativeFrameWords "java/lang/System" "arraycopy" 5 + 11) ≤ R.locals) (hdg : decode cc pc = .ok (.invokestatic index, 3))
    (kk : ∀ (H1 : Heap) (locs1 : List Loc), hAq H1 a cA n1 (va_cpy f g sp.toNatClampNeg dp.toNatClampNeg n.toNatClampNeg) → H1.size = H.size → (∀ q : Nat, q ≠ a → H1[q]? = H[q]?) → hLo B locs1 → W p l e R s m args below meth c H1 locs1 cells slots Q (F0 m (pc + 3) ls rest)) : W p l e R s m args below meth c H locs cells slots Q (F0 m pc ls (.int n :: .int dp :: .ref a :: .int sp :: .ref a0 :: rest)) := by
  have nn : ∀ z : Int32, ¬ z < 0 → z.toInt = (z.toNatClampNeg : Int) := by
    intro z hz
    have hz0 : (0 : Int) ≤ z.toInt := by
      have := Int32.not_lt.mp hz
      simpa using Int32.le_iff_toInt_le.mp this
    show z.toInt = ((z.toInt.toNat : Nat) : Int)
    omega
  intro T hT X
  have hc0 : H[a0]? = some (vp_cell cA (n0, .inr (.inr (.inr (.inr f))))) := ha0
  have hc1 : H[a]? = some (vp_cell cA (n1, .inr (.inr (.inr (.inr g))))) := ha1
  obtain ⟨-, k0, hk0, cm0, hkk0⟩ := (hK.2 t0 _ ht).1 n0 (fun j => va_rf (f j))
  obtain ⟨-, k1, hk1, cm1, hkk1⟩ := (hK.2 t0 _ ht).1 n1 (fun j => va_rf (g j))
  obtain ⟨vm', X', step⟩ := X.arraycopy hexec hown hlink hnat hstat hini (src := a0) (dst := a) (cs := vp_cell cA (n0, .inr (.inr (.inr (.inr f))))) (cd := vp_cell cA (n1, .inr (.inr (.inr (.inr g))))) (srcPos := sp) (destPos := dp) (n := n) (by rw [hT]; exact hc0) (by rw [hT]; exact hc1)
    (fun _ h => by cases h) (fun _ h => by cases h) (fun h => by cases h) (fun h => by cases h) hk0 hk1 hkk0 hkk1 rfl h1 h2 h3
    (by rw [nn sp h1, nn n h3]; show ¬ _ > ((arrV cA n0 (fun j => va_rf (f j))).slots.size : Int); rw [arrV_size]; omega)
    (by rw [nn dp h2, nn n h3]; show ¬ _ > ((arrV cA n1 (fun j => va_rf (g j))).slots.size : Int); rw [arrV_size]; omega)
    (fun vm₁ hal i hi => by
      have e : (vp_cell cA (n0, .inr (.inr (.inr (.inr f))))).slots.getD (sp.toNatClampNeg + i) .null = va_rf (f (sp.toNatClampNeg + i)) := by
        show (arrV cA n0 (fun j => va_rf (f j))).slots.getD _ _ = _
        rw [Array.getD_eq_getD_getElem?, arrV_read _ _ (by omega)]
        rfl
      rw [e]
      cases hy : f (sp.toNatClampNeg + i) with
      | none => exact ⟨rfl, trivial⟩
      | some y =>
        obtain ⟨cellV, g1, g2, ⟨kC, hkC⟩, hasg⟩ := hel i hi y hy
        obtain ⟨kA, comp, r1, r2, r3, -⟩ := (hK.2 t0 _ ht).2
        cases hk1.symm.trans r1
        cases hkk1.symm.trans r2
        obtain ⟨kE, hkE, -⟩ := Vm.findClass_spec r3
        obtain ⟨kC', hkC', -⟩ := hal.2.2 _ _ hkC
        obtain ⟨kE', hkE', -⟩ := hal.2.2 _ _ hkE
        refine ⟨rfl, cellV, (show T.heap[y]? = some cellV by rw [hT]; exact g1), (fun q h => by rw [h] at g2; cases g2), ⟨kC', hkC'⟩, ?_, ?_⟩
        · exact ⟨kE', hkE'⟩
        · show vm₁.assignable _ _ = true
          rw [hal.assignable]
          exact hasg _ r3)
    (g := F0 m pc ls (.int n :: .int dp :: .ref a :: .int sp :: .ref a0 :: rest)) rfl (by rw [hml]) (rest := rest) rfl (by rw [hb]; exact hdg) hframes (by show 2 * 0 + _ + _ ≤ _; omega)
  have e1 : copied (vp_cell cA (n0, .inr (.inr (.inr (.inr f))))) (vp_cell cA (n1, .inr (.inr (.inr (.inr g))))) sp dp n = vp_cell cA (n1, .inr (.inr (.inr (.inr (va_cpy f g sp.toNatClampNeg dp.toNatClampNeg n.toNatClampNeg))))) := by
    rw [vp_cell_q, vp_cell_q, vp_cell_q]
    exact va_copied (fun z => va_rf z) cA cA f g h4
  rw [e1] at X' step
  have hl : a < H.size := (Array.getElem?_eq_some_iff.mp hc1).1
  have hheap : ((T.setVm vm').setCell a (vp_cell cA (n1, .inr (.inr (.inr (.inr (va_cpy f g sp.toNatClampNeg dp.toNatClampNeg n.toNatClampNeg))))))).heap = H.setIfInBounds a (vp_cell cA (n1, .inr (.inr (.inr (.inr (va_cpy f g sp.toNatClampNeg dp.toNatClampNeg n.toNatClampNeg)))))) := by rw [← hT]; rfl
  have oq : ∀ q : Nat, q ≠ a → (H.setIfInBounds a (vp_cell cA (n1, .inr (.inr (.inr (.inr (va_cpy f g sp.toNatClampNeg dp.toNatClampNeg n.toNatClampNeg)))))))[q]? = H[q]? := fun q hq => by simp [Array.getElem?_setIfInBounds, Ne.symm hq]
  obtain ⟨t, a1, b1⟩ := kk _ _ (show (H.setIfInBounds a _)[a]? = some _ by simp [Array.getElem?_setIfInBounds, hl]) (by simp) oq (fun q hq => by
      rcases List.mem_append.mp hq with h | h
      · exact hlo q h
      · obtain ⟨z, -, hz⟩ := List.mem_map.mp h
        rw [← hz]
        exact hB) _ hheap X'
  exact ⟨t, step t a1, b1⟩
end AX
/-- a declaration's or a type's object -/
def isD (E : hE) (H : Heap) (y : Nat) : Prop := (∃ fs, hOb (eD E) classes H y 1 fs) ∨ ∃ fs, hOb (eD E) classes H y 2 fs
theorem isD.any {E : hE} {H : Heap} {y : Nat} {s : State} (hX : KX E s) (h : isD E H y) : va_Any "java/lang/Object" s H y := by
  rcases h with ⟨fs, h⟩ | ⟨fs, h⟩
  · exact va_rAny hX.1 (hP1 h) (q0 := 0) rfl (ci := 1) rfl (vb_asgC (hX.2.2.1 ("BaselineText$Declaration", "java/lang/Object") (List.mem_of_getElem? (i := 10) rfl)))
  · exact va_rAny hX.1 (hP1 h) (q0 := 0) rfl (ci := 2) rfl (vb_asgC (hX.2.2.1 ("BaselineText$Type", "java/lang/Object") (List.mem_of_getElem? (i := 12) rfl)))
theorem isD.eq {E : hE} {H H1 : Heap} {y : Nat} (h : isD E H y) (hq : H1[y]? = H[y]?) : isD E H1 y := by
  rcases h with ⟨fs, h⟩ | ⟨fs, h⟩
  · exact Or.inl ⟨fs, h.eq hq⟩
  · exact Or.inr ⟨fs, h.eq hq⟩
theorem isD.lt {E : hE} {H : Heap} {y : Nat} (h : isD E H y) : y < H.size := by
  rcases h with ⟨fs, h⟩ | ⟨fs, h⟩
  · exact h.lt
  · exact h.lt
theorem isD.ch {E : hE} {H H1 : Heap} {y : Nat} {S : Nat → Prop} (h : isD E H y) (k : hCh S H H1) (hs : ¬ S y) : isD E H1 y := h.eq (k.2 y h.lt hs)
/-- an object is no array -/
theorem isD.ne {E : hE} {H : Heap} {y : Nat} (h : isD E H y) : ∀ {x ci : Nat} {fs : List Value}, hOb (eD E) classes H x ci fs → True := fun _ => trivial
/-- what the law's start says of the empty list's array (eK E 100) and of the class object of Object[] (eK E 101) -/
def EnvL (E : hE) : Prop := eK E 100 < eB E ∧ ∀ s, eP E s → va_Z "java/util/ArrayList" "DEFAULTCAPACITY_EMPTY_ELEMENTDATA" "[Ljava/lang/Object;" (.ref (eK E 100)) (fun q => eB E ≤ q) s (eH E) ∧ va_T (.object "java/lang/Object") (eK E 100) 0 (fun _ => .null) (fun q => eB E ≤ q) s (eH E) ∧ va_Mi "[Ljava/lang/Object;" (eK E 101) s
theorem KX.dflt {E : hE} {s : State} {H : Heap} (hL : EnvL E) (hX : KX E s) (hO : Old E H) : va_Z "java/util/ArrayList" "DEFAULTCAPACITY_EMPTY_ELEMENTDATA" "[Ljava/lang/Object;" (.ref (eK E 100)) (fun q => eB E ≤ q) s H := (hL.2 s hX.2.2.2.2.2.2).1.kept hO.q
theorem KX.dfltA {E : hE} {s : State} {H : Heap} (hL : EnvL E) (hX : KX E s) (hO : Old E H) : va_T (.object "java/lang/Object") (eK E 100) 0 (fun _ => .null) (fun q => eB E ≤ q) s H := (hL.2 s hX.2.2.2.2.2.2).2.1.kept hO.q
theorem KX.mir {E : hE} {s : State} (hL : EnvL E) (hX : KX E s) : va_Mi "[Ljava/lang/Object;" (eK E 101) s := (hL.2 s hX.2.2.2.2.2.2).2.2
/-- a LIST: the object, its array and that one's room, the addresses that it holds -/
def Li (E : hE) (H : Heap) (a arr cap : Nat) (xs : List Nat) : Prop := (∃ mcn : Int32, hOb (eD E) classes H a 4 [.ref arr, .int (nI xs.length), .int mcn]) ∧ eB E ≤ a ∧ xs.length ≤ cap ∧ cap ≤ 15 ∧ ((cap = 0 ∧ arr = eK E 100) ∨ (eB E ≤ arr ∧ arr ≠ a ∧ (cap = 10 ∨ cap = 15) ∧ ∃ f : Nat → Option Nat, hAq H arr (eA E 2) cap f ∧ ∀ i, i < xs.length → f i = some (xs.getD i 0)))
theorem Li.ch {E : hE} {H H1 : Heap} {a arr cap : Nat} {xs : List Nat} {S : Nat → Prop} (h : Li E H a arr cap xs) (k : hCh S H H1) (h1 : ¬ S a) (h2 : eB E ≤ arr → ¬ S arr) : Li E H1 a arr cap xs := by
  obtain ⟨⟨mcn, ho⟩, hB, hl, hc, h⟩ := h
  refine ⟨⟨mcn, ho.ch k h1⟩, hB, hl, hc, ?_⟩
  rcases h with h | ⟨b1, b2, b3, f, hf, hx⟩
  · exact Or.inl h
  · exact Or.inr ⟨b1, b2, b3, f, hf.ch k (h2 b1), hx⟩
def insA (xs : List Nat) (i x : Nat) : List Nat := xs.take i ++ x :: xs.drop i
def delA (xs : List Nat) (i : Nat) : List Nat := xs.take i ++ xs.drop (i + 1)
theorem insA_len {xs : List Nat} {i x : Nat} (h : i ≤ xs.length) : (insA xs i x).length = xs.length + 1 := by
  unfold insA; rw [List.length_append, List.length_cons, List.length_drop, len_take h]; omega
theorem insA_getD {xs : List Nat} {i x j : Nat} (h : i ≤ xs.length) : (insA xs i x).getD j 0 = if j < i then xs.getD j 0 else if j = i then x else xs.getD (j - 1) 0 := by
  unfold insA
  by_cases c : j < i
  · rw [if_pos c, List.getD_eq_getElem?_getD, List.getElem?_append_left (by rw [len_take h]; exact c), ← List.getD_eq_getElem?_getD, getD_take c]
  · rw [if_neg c, List.getD_eq_getElem?_getD, List.getElem?_append_right (by rw [len_take h]; omega), len_take h]
    by_cases d : j = i
    · rw [if_pos d, d, Nat.sub_self]; rfl
    · rw [if_neg d, show j - i = (j - i - 1) + 1 by omega, List.getElem?_cons_succ, List.getElem?_drop, List.getD_eq_getElem?_getD, show i + (j - i - 1) = j - 1 by omega]
theorem delA_len {xs : List Nat} {i : Nat} (h : i < xs.length) : (delA xs i).length = xs.length - 1 := by
  unfold delA; rw [List.length_append, List.length_drop, len_take (by omega)]; omega
theorem delA_getD {xs : List Nat} {i j : Nat} (h : i < xs.length) : (delA xs i).getD j 0 = if j < i then xs.getD j 0 else xs.getD (j + 1) 0 := by
  unfold delA
  by_cases c : j < i
  · rw [if_pos c, List.getD_eq_getElem?_getD, List.getElem?_append_left (by rw [len_take (by omega)]; exact c), ← List.getD_eq_getElem?_getD, getD_take c]
  · rw [if_neg c, List.getD_eq_getElem?_getD, List.getElem?_append_right (by rw [len_take (by omega)]; omega), len_take (by omega), List.getElem?_drop, List.getD_eq_getElem?_getD, show i + 1 + (j - i) = j + 1 by omega]
theorem uq_ne {f : Nat → Option Nat} {k j : Nat} {v : Option Nat} (h : j ≠ k) : va_up f k v j = f j := if_neg h
theorem uq_self {f : Nat → Option Nat} {k : Nat} {v : Option Nat} : va_up f k v k = v := if_pos rfl
def lS (E : hE) (a arr : Nat) : Nat → Prop := fun q => q = a ∨ (q = arr ∧ eB E ≤ arr)
set_option maxHeartbeats 4000000 in
set_option maxRecDepth 100000 in
theorem c_AbC_init (l : Launch) {E : hE} (hE : EnvOk E) {H : Heap} (a : Nat) : Ct l E y_AbC_init b_AbC_init 1 none (rmA 1 0 0) [.ref a] H (hQv (fun H1 => H1 = H)) := by
  refine hx_enter hE (by decide) (Nat.le_of_ble_eq_true rfl) ?_
  intro p e s m args below meth c ls cx hnm hl
  have hl : lv_has ls 1 [(0, .ref a)] := hl
  have hlo : hLo (eB E) [] := hLo.nil
  refine lv_aload_n cx.x cx.b d_AbC_init_0 rfl (lv_at hl 0 rfl) ?_
  refine W.objInit cx.x cx.b cx.o (cx.ts _ tw_96) (cx.ts _ tw_31) (cx.ts _ tw_32) rfl (hl.1.trans cx.ml.symm) rfl d_AbC_init_1 (Nat.le_of_ble_eq_true rfl) (Nat.le_of_ble_eq_true rfl) ?_
  refine W.eq (g2 := F0 m 4 ls []) rfl ?_
  exact hx_retv cx.x cx.b cx.r cx.k hlo (fun _ h => h) (Nat.le_of_ble_eq_true rfl) (Nat.le_of_ble_eq_true rfl) d_AbC_init_4 (rfl)

set_option maxHeartbeats 4000000 in
set_option maxRecDepth 100000 in
theorem c_AbL_init (l : Launch) {E : hE} (hE : EnvOk E) {H : Heap} {a : Nat} (h : hOb (eD E) classes H a 4 [.null, .int 0, .int 0]) (hB : eB E ≤ a) : Ct l E y_AbL_init b_AbL_init 1 none (rmA 2 0 0) [.ref a] H (hQv (fun H1 => hOb (eD E) classes H1 a 4 [.null, .int 0, .int 0] ∧ hCh (fun q => q = a) H H1 ∧ H1.size = H.size)) := by
  refine hx_enter hE (by decide) (Nat.le_of_ble_eq_true rfl) ?_
  intro p e s m args below meth c ls cx hnm hl
  have hl : lv_has ls 1 [(0, .ref a)] := hl
  have hlo : hLo (eB E) [] := hLo.nil
  refine lv_aload_n cx.x cx.b d_AbL_init_0 rfl (lv_at hl 0 rfl) ?_
  refine hx_callv (iv_AbL_1 cx (c_AbC_init l hE a) rfl hl.1 rfl (Nat.le_of_ble_eq_true rfl) d_AbL_init_1 ⟨Nat.le_of_ble_eq_true rfl, Nat.le_of_ble_eq_true rfl⟩ ⟨Nat.le_of_ble_eq_true rfl, Nat.le_of_ble_eq_true rfl⟩) hlo (fun _ h => h) (fun H108 locs hp107 hlo => ?_)
  obtain rfl := hp107.symm
  refine lv_aload_n cx.x cx.b d_AbL_init_4 rfl (lv_at hl 0 rfl) ?_
  refine lv_iconst (v := 0) cx.x cx.b d_AbL_init_5 (by decide) ?_
  refine hx_put (T := F_AL) (v := .int 0) cx.x cx.b cx.ts i_AL t_AL t_AL_ok n_AL cx.o cx.K h hlo hB rfl 2 (by decide) (cx.ts _ tw_101) (fun _ h => h) rfl (t_AL_ok 2 (by decide)) rfl rfl (Nat.le_of_ble_eq_true rfl) d_AbL_init_6 (fun H1 locs ho z o hlo => ?_)
  exact hx_retv cx.x cx.b cx.r cx.k hlo (fun _ h => h) (Nat.le_of_ble_eq_true rfl) (Nat.le_of_ble_eq_true rfl) d_AbL_init_9 (⟨ho, hCh.put z o rfl, z⟩)

set_option maxHeartbeats 4000000 in
set_option maxRecDepth 100000 in
theorem c_AL_init (l : Launch) {E : hE} (hE : EnvOk E) (hL : EnvL E) {H : Heap} {a : Nat} (h : hOb (eD E) classes H a 4 [.null, .int 0, .int 0]) (hB : eB E ≤ a) (hO : Old E H) : Ct l E y_AL_init b_AL_init 1 none (rmA 3 0 0) [.ref a] H (hQv (fun H1 => Li E H1 a (eK E 100) 0 [] ∧ hCh (fun q => q = a) H H1 ∧ H1.size = H.size)) := by
  refine hx_enter hE (by decide) (Nat.le_of_ble_eq_true rfl) ?_
  intro p e s m args below meth c ls cx hnm hl
  have hl : lv_has ls 1 [(0, .ref a)] := hl
  have hlo : hLo (eB E) [] := hLo.nil
  refine lv_aload_n cx.x cx.b d_AL_init_0 rfl (lv_at hl 0 rfl) ?_
  refine hx_callv (iv_AL_1 cx (c_AbL_init l hE h hB) rfl hl.1 rfl (Nat.le_of_ble_eq_true rfl) d_AL_init_1 ⟨Nat.le_of_ble_eq_true rfl, Nat.le_of_ble_eq_true rfl⟩ ⟨Nat.le_of_ble_eq_true rfl, Nat.le_of_ble_eq_true rfl⟩) hlo (fun _ h => h) (fun H110 locs hp109 hlo => ?_)
  obtain ⟨q1, q2, q3⟩ := hp109
  have hO2 : Old E H110 := hO.ch q2 (fun q e => by rw [e]; exact hB)
  refine lv_aload_n cx.x cx.b d_AL_init_4 rfl (lv_at hl 0 rfl) ?_
  refine hx_gets cx.x cx.b (KX.dflt hL cx.X hO2) cx.o (cx.ts _ tw_97) (fun _ h => h) d_AL_init_5 ?_
  refine pf_AL_9_AL (x := (some (eK E 100))) cx q1 hlo hB (Nat.le_of_ble_eq_true rfl) d_AL_init_8 (fun H111 locs ho112 z_H111 o_H111 hlo => ?_)
  have ho112 : hOb (eD E) classes H111 a 4 [.ref (eK E 100), .int 0, .int 0] := ho112
  exact hx_retv cx.x cx.b cx.r cx.k hlo (fun _ h => h) (Nat.le_of_ble_eq_true rfl) (Nat.le_of_ble_eq_true rfl) d_AL_init_11 (⟨⟨⟨0, ho112⟩, hB, Nat.zero_le _, Nat.zero_le _, Or.inl ⟨rfl, rfl⟩⟩, q2.tr (hCh.put z_H111 o_H111 rfl), z_H111.trans q3⟩)

set_option maxHeartbeats 4000000 in
set_option maxRecDepth 100000 in
theorem c_AL_size (l : Launch) {E : hE} (hE : EnvOk E) {H : Heap} {a arr cap : Nat} {xs : List Nat} (h : Li E H a arr cap xs) : Ct l E y_AL_size b_AL_size 1 (some .int) (rmA 0 0 0) [.ref a] H (hQi (fun r H1 => r = nI xs.length ∧ H1 = H)) := by
  refine hx_enter hE (by decide) (Nat.le_of_ble_eq_true rfl) ?_
  intro p e s m args below meth c ls cx hnm hl
  have hl : lv_has ls 1 [(0, .ref a)] := hl
  have hlo : hLo (eB E) [] := hLo.nil
  obtain ⟨⟨mcn, ho⟩, -⟩ := h
  refine lv_aload_n cx.x cx.b d_AL_size_0 rfl (lv_at hl 0 rfl) ?_
  refine gf_AL_48_AL cx ho rfl d_AL_size_1 ?_
  exact hx_reti cx.x cx.b cx.r cx.k rfl hlo (fun _ h => h) (Nat.le_of_ble_eq_true rfl) (Nat.le_of_ble_eq_true rfl) d_AL_size_4 (⟨rfl, rfl⟩)

set_option maxHeartbeats 4000000 in
set_option maxRecDepth 100000 in
theorem c_Obs_checkIndex (l : Launch) {E : hE} (hE : EnvOk E) {H : Heap} {x n : Int32} (h0 : ¬ x < 0) (h1 : x < n) : Ct l E y_Obs_checkIndex b_Obs_checkIndex 2 (some .int) (rmA 1 0 0) [.int x, .int n] H (hQi (fun r H1 => r = x ∧ H1 = H)) := by
  refine hx_enter hE (by decide) (Nat.le_of_ble_eq_true rfl) ?_
  intro p e s m args below meth c ls cx hnm hl
  have hl : lv_has ls 2 [(0, .int x), (1, .int n)] := hl
  have hlo : hLo (eB E) [] := hLo.nil
  refine lv_iload_n cx.x cx.b d_Obs_checkIndex_0 rfl (lv_at hl 0 rfl) ?_
  refine lv_iload_n cx.x cx.b d_Obs_checkIndex_1 rfl (lv_at hl 1 rfl) ?_
  refine lv_null cx.x cx.b d_Obs_checkIndex_2 ?_
  refine hx_calli (iv_Obs_105 cx (c_Pre_checkIndex l hE h0 h1 none) rfl hl.1 rfl (Nat.le_of_ble_eq_true rfl) d_Obs_checkIndex_3 ⟨Nat.le_of_ble_eq_true rfl, Nat.le_of_ble_eq_true rfl⟩ ⟨Nat.le_of_ble_eq_true rfl, Nat.le_of_ble_eq_true rfl⟩) hlo (fun _ h => h) (fun r115 H114 locs hp113 hlo => ?_)
  obtain ⟨hp113, hH9⟩ := hp113
  have hH9 := hH9.symm
  subst hH9
  subst hp113
  exact hx_reti cx.x cx.b cx.r cx.k rfl hlo (fun _ h => h) (Nat.le_of_ble_eq_true rfl) (Nat.le_of_ble_eq_true rfl) d_Obs_checkIndex_6 (⟨rfl, rfl⟩)

set_option maxHeartbeats 4000000 in
set_option maxRecDepth 100000 in
theorem c_AL_elementData (l : Launch) {E : hE} (hE : EnvOk E) {H : Heap} {a arr cap : Nat} {xs : List Nat} (h : Li E H a arr cap xs) {i : Nat} (hi : i < xs.length) : Ct l E y_AL_elementData b_AL_elementData 2 (some (.object "java/lang/Object")) (rmA 0 0 0) [.ref a, .int (nI i)] H (hQr (fun r H1 => r = some (xs.getD i 0) ∧ H1 = H)) := by
  refine hx_enter hE (by decide) (Nat.le_of_ble_eq_true rfl) ?_
  intro p e s m args below meth c ls cx hnm hl
  have hl : lv_has ls 2 [(0, .ref a), (1, .int (nI i))] := hl
  have hlo : hLo (eB E) [] := hLo.nil
  obtain ⟨⟨mcn, ho⟩, hB, hle, hc15, hcase⟩ := h
  rcases hcase with ⟨hc0, -⟩ | ⟨b1, b2, b3, f, hf, hx⟩
  · omega
  · refine lv_aload_n cx.x cx.b d_AL_elementData_0 rfl (lv_at hl 0 rfl) ?_
    refine gf_AL_9_AL cx ho rfl d_AL_elementData_1 ?_
    refine lv_iload_n cx.x cx.b d_AL_elementData_4 rfl (lv_at hl 1 rfl) ?_
    refine hx_aald cx.x cx.b cx.K 2 hf rfl (vp_in_nI (by omega) (by omega)) d_AL_elementData_5 ?_
    rw [nI_clamp (by omega), hx i hi]
    exact hx_reta (v := some (xs.getD i 0)) cx.x cx.b cx.r cx.k (Or.inl ⟨_, rfl⟩) hlo (fun _ h => h) (Nat.le_of_ble_eq_true rfl) (Nat.le_of_ble_eq_true rfl) d_AL_elementData_6 (⟨rfl, rfl⟩)

set_option maxHeartbeats 4000000 in
set_option maxRecDepth 100000 in
theorem c_AL_get (l : Launch) {E : hE} (hE : EnvOk E) {H : Heap} {a arr cap : Nat} {xs : List Nat} (h : Li E H a arr cap xs) {i : Nat} (hi : i < xs.length) : Ct l E y_AL_get b_AL_get 2 (some (.object "java/lang/Object")) (rmA 2 0 0) [.ref a, .int (nI i)] H (hQr (fun r H1 => r = some (xs.getD i 0) ∧ H1 = H)) := by
  refine hx_enter hE (by decide) (Nat.le_of_ble_eq_true rfl) ?_
  intro p e s m args below meth c ls cx hnm hl
  have hl : lv_has ls 2 [(0, .ref a), (1, .int (nI i))] := hl
  have hlo : hLo (eB E) [] := hLo.nil
  have h0 := h
  obtain ⟨⟨mcn, ho⟩, hB, hle, hc15, hcase⟩ := h
  refine lv_iload_n cx.x cx.b d_AL_get_0 rfl (lv_at hl 1 rfl) ?_
  refine lv_aload_n cx.x cx.b d_AL_get_1 rfl (lv_at hl 0 rfl) ?_
  refine gf_AL_48_AL cx ho rfl d_AL_get_2 ?_
  refine hx_calli (iv_AL_118 cx (c_Obs_checkIndex l hE (nI_pos (by omega)) (nI_lt hi (by omega))) rfl hl.1 rfl (Nat.le_of_ble_eq_true rfl) d_AL_get_5 ⟨Nat.le_of_ble_eq_true rfl, Nat.le_of_ble_eq_true rfl⟩ ⟨Nat.le_of_ble_eq_true rfl, Nat.le_of_ble_eq_true rfl⟩) hlo (fun _ h => h) (fun r118 H117 locs hp116 hlo => ?_)
  obtain ⟨hp116, hH9⟩ := hp116
  have hH9 := hH9.symm
  subst hH9
  subst hp116
  refine lv_pop cx.x cx.b d_AL_get_8 rfl ?_
  refine lv_aload_n cx.x cx.b d_AL_get_9 rfl (lv_at hl 0 rfl) ?_
  refine lv_iload_n cx.x cx.b d_AL_get_10 rfl (lv_at hl 1 rfl) ?_
  refine hx_callr (iv_AL_123_AL cx (c_AL_elementData l hE h0 hi) ho rfl hl.1 rfl (Nat.le_of_ble_eq_true rfl) d_AL_get_11 ⟨Nat.le_of_ble_eq_true rfl, Nat.le_of_ble_eq_true rfl⟩ ⟨Nat.le_of_ble_eq_true rfl, Nat.le_of_ble_eq_true rfl⟩) hlo (fun _ h => h) (fun r121 H120 locs hp119 hlo => ?_)
  obtain ⟨hp119, hH9⟩ := hp119
  have hH9 := hH9.symm
  subst hH9
  subst hp119
  exact hx_reta (v := some (xs.getD i 0)) cx.x cx.b cx.r cx.k (Or.inl ⟨_, rfl⟩) hlo (fun _ h => h) (Nat.le_of_ble_eq_true rfl) (Nat.le_of_ble_eq_true rfl) d_AL_get_14 (⟨rfl, rfl⟩)

set_option maxHeartbeats 4000000 in
set_option maxRecDepth 100000 in
theorem c_AL_range (l : Launch) {E : hE} (hE : EnvOk E) {H : Heap} {a arr cap : Nat} {xs : List Nat} (h : Li E H a arr cap xs) {i : Nat} (hi : i ≤ xs.length) : Ct l E y_AL_rangeCheckForAdd b_AL_rangeCheckForAdd 2 none (rmA 0 0 0) [.ref a, .int (nI i)] H (hQv (fun H1 => H1 = H)) := by
  refine hx_enter hE (by decide) (Nat.le_of_ble_eq_true rfl) ?_
  intro p e s m args below meth c ls cx hnm hl
  have hl : lv_has ls 2 [(0, .ref a), (1, .int (nI i))] := hl
  have hlo : hLo (eB E) [] := hLo.nil
  obtain ⟨⟨mcn, ho⟩, hB, hle, hc15, hcase⟩ := h
  refine lv_iload_n cx.x cx.b d_AL_rangeCheckForAdd_0 rfl (lv_at hl 1 rfl) ?_
  refine lv_aload_n cx.x cx.b d_AL_rangeCheckForAdd_1 rfl (lv_at hl 0 rfl) ?_
  refine gf_AL_48_AL cx ho rfl d_AL_rangeCheckForAdd_2 ?_
  refine lv_icmp_gt (tgt := 12) cx.x cx.b d_AL_rangeCheckForAdd_5 (by decide) (fun c => absurd ((nI_ltI (a := xs.length) (b := i) (by omega) (by omega)).mp c) (by omega)) (fun _ => ?_)
  refine lv_iload_n cx.x cx.b d_AL_rangeCheckForAdd_8 rfl (lv_at hl 1 rfl) ?_
  refine lv_if_ge (tgt := 25) cx.x cx.b d_AL_rangeCheckForAdd_9 (by decide) (fun _ => ?_) (fun c => absurd (nI_pos' (n := i) (by omega)) c)
  exact hx_retv cx.x cx.b cx.r cx.k hlo (fun _ h => h) (Nat.le_of_ble_eq_true rfl) (Nat.le_of_ble_eq_true rfl) d_AL_rangeCheckForAdd_25 (rfl)

set_option maxHeartbeats 4000000 in
set_option maxRecDepth 100000 in
theorem c_ASu_newLength (l : Launch) {E : hE} (hE : EnvOk E) {H : Heap} : Ct l E y_ASu_newLength b_ASu_newLength 4 (some .int) (rmA 1 0 0) [.int 10, .int 1, .int 5] H (hQi (fun r H1 => r = 15 ∧ H1 = H)) := by
  refine hx_enter hE (by decide) (Nat.le_of_ble_eq_true rfl) ?_
  intro p e s m args below meth c ls cx hnm hl
  have hl : lv_has ls 4 [(0, .int 10), (1, .int 1), (2, .int 5)] := hl
  have hlo : hLo (eB E) [] := hLo.nil
  refine lv_iload_n cx.x cx.b d_ASu_newLength_0 rfl (lv_at hl 0 rfl) ?_
  refine lv_iload_n cx.x cx.b d_ASu_newLength_1 rfl (lv_at hl 1 rfl) ?_
  refine lv_iload_n cx.x cx.b d_ASu_newLength_2 rfl (lv_at hl 2 rfl) ?_
  refine va_mmax cx.x cx.b (cx.ml.trans hl.1.symm) cx.o (cx.ts _ tw_580) (cx.ts _ tw_581) (cx.ts _ tw_22) (cx.ts _ tw_582) (Nat.le_of_ble_eq_true rfl) (Nat.le_of_ble_eq_true rfl) (Nat.le_of_ble_eq_true rfl) (Nat.le_of_ble_eq_true rfl) d_ASu_newLength_3 ?_
  refine lv_topi (fun x122 e_x122 => ?_)
  have e_x122 : x122 = 5 := e_x122.trans (by decide)
  subst e_x122
  refine lv_iadd cx.x cx.b d_ASu_newLength_6 ?_
  refine lv_topi (fun x123 e_x123 => ?_)
  refine lv_istore_n (lv' := [(3, .int x123), (0, .int 10), (1, .int 1), (2, .int 5)]) cx.x cx.b d_ASu_newLength_7 rfl hl (by decide) rfl (fun ls hl => ?_)
  refine lv_iconst (v := 0) cx.x cx.b d_ASu_newLength_8 (by decide) ?_
  refine lv_iload_n cx.x cx.b d_ASu_newLength_9 rfl (lv_at hl 0 rfl) ?_
  have e_x123 : x123 = 15 := e_x123.trans (by decide)
  subst e_x123
  refine lv_icmp_ge (tgt := 21) cx.x cx.b d_ASu_newLength_10 (by decide) (fun c => absurd c (by decide)) (fun _ => ?_)
  refine lv_iload_n cx.x cx.b d_ASu_newLength_13 rfl (lv_at hl 0 rfl) ?_
  refine lv_ldc cx.x cx.b cx.o (cx.ts _ tw_583) d_ASu_newLength_14 ?_
  refine lv_icmp_gt (tgt := 21) cx.x cx.b d_ASu_newLength_16 (by decide) (fun c => absurd c (by decide)) (fun _ => ?_)
  refine lv_iload_n cx.x cx.b d_ASu_newLength_19 rfl (lv_at hl 0 rfl) ?_
  exact hx_reti cx.x cx.b cx.r cx.k rfl hlo (fun _ h => h) (Nat.le_of_ble_eq_true rfl) (Nat.le_of_ble_eq_true rfl) d_ASu_newLength_20 (⟨rfl, rfl⟩)

set_option maxHeartbeats 4000000 in
set_option maxRecDepth 100000 in
theorem c_Ars_copyOf2 (l : Launch) {E : hE} (hE : EnvOk E) {H : Heap} {arr : Nat} {f : Nat → Option Nat} (hf : hAq H arr (eA E 2) 10 f) (hO : Old E H) (hL : EnvL E) (hel : ∀ i, i < 10 → ∀ y, f i = some y → isD E H y) : Ct l E y_Ars_copyOf2 b_Ars_copyOf2 4 (some (.array (.object "java/lang/Object"))) (rmA 2 1 15) [.ref arr, .int 15, .ref (eK E 101)] H (hQr (fun r H1 => r = some H.size ∧ hAq H1 H.size (eA E 2) 15 (va_cpy f (fun _ => none) 0 0 10) ∧ hCh (fun _ => False) H H1 ∧ H1.size = H.size + 1)) := by
  refine hx_enter hE (by decide) (Nat.le_of_ble_eq_true rfl) ?_
  intro p e s m args below meth c ls cx hnm hl
  have hl : lv_has ls 4 [(0, .ref arr), (1, .int 15), (2, .ref (eK E 101))] := hl
  have hlo : hLo (eB E) [] := hLo.nil
  refine lv_aload_n cx.x cx.b d_Ars_copyOf2_0 rfl (lv_at hl 2 rfl) ?_
  refine va_ldcM cx.x cx.b cx.o (cx.ts _ tw_608) (KX.mir hL cx.X) d_Ars_copyOf2_1 ?_
  refine lv_acmp_ne (rx := some (eK E 101)) (ry := some (eK E 101)) (tgt := 13) cx.x cx.b d_Ars_copyOf2_3 (by decide) (fun c => absurd rfl c) (fun _ => ?_)
  refine lv_iload_n cx.x cx.b d_Ars_copyOf2_6 rfl (lv_at hl 1 rfl) ?_
  refine hx_newq (N' := 15) cx.x cx.b cx.o (cx.ts _ tw_610) cx.X.2.2.2.2.1 cx.K 2 rfl (by decide) (by decide) (by decide) (Nat.le_of_ble_eq_true rfl) (Nat.le_of_ble_eq_true rfl) d_Ars_copyOf2_7 (fun H124 ha125 z_H124 o_H124 => ?_)
  have hf1 := hf.eq (o_H124 _ hf.lt)
  refine lv_goto (tgt := 24) cx.x cx.b d_Ars_copyOf2_10 (by decide) ?_
  refine lv_astore_n (lv' := [(3, .ref H.size), (0, .ref arr), (1, .int 15), (2, .ref (eK E 101))]) cx.x cx.b d_Ars_copyOf2_24 rfl hl (by decide) rfl (fun ls hl => ?_)
  refine lv_aload_n cx.x cx.b d_Ars_copyOf2_25 rfl (lv_at hl 1 rfl) ?_
  refine lv_iconst (v := 0) cx.x cx.b d_Ars_copyOf2_26 (by decide) ?_
  refine lv_aload_n cx.x cx.b d_Ars_copyOf2_27 rfl (lv_at hl 0 rfl) ?_
  refine lv_iconst (v := 0) cx.x cx.b d_Ars_copyOf2_28 (by decide) ?_
  refine lv_aload_n cx.x cx.b d_Ars_copyOf2_29 rfl (lv_at hl 1 rfl) ?_
  refine hx_alen (v := 10) cx.x cx.b cx.K 2 hf1 rfl rfl d_Ars_copyOf2_30 ?_
  refine lv_iload_n cx.x cx.b d_Ars_copyOf2_31 rfl (lv_at hl 2 rfl) ?_
  refine va_mmin cx.x cx.b (cx.ml.trans hl.1.symm) cx.o (cx.ts _ tw_611) (cx.ts _ tw_612) (cx.ts _ tw_22) (cx.ts _ tw_613) (Nat.le_of_ble_eq_true rfl) (Nat.le_of_ble_eq_true rfl) (Nat.le_of_ble_eq_true rfl) (Nat.le_of_ble_eq_true rfl) d_Ars_copyOf2_32 ?_
  refine lv_topi (fun x126 e_x126 => ?_)
  have e_x126 : x126 = 10 := e_x126.trans (by decide)
  subst e_x126
  refine hx_acopy cx.x cx.b (cx.ml.trans hl.1.symm) cx.o (cx.ts _ tw_614) (cx.ts _ tw_542) (cx.ts _ tw_541) (cx.ts _ tw_20) cx.K 2 rfl hf1 ha125 hlo (show eB E ≤ H.size from hO.1) (by decide) (by decide) (by decide) (by decide) (by decide) (fun i hi y hy => by have hi : i < 10 := hi; rw [show (0 : Int32).toNatClampNeg + i = i from Nat.zero_add i] at hy; exact ((hel i hi y hy).eq (o_H124 _ (hel i hi y hy).lt)).any cx.X) (Nat.le_of_ble_eq_true rfl) (Nat.le_of_ble_eq_true rfl) d_Ars_copyOf2_35 (fun H127 locs ha128 z_H127 o_H127 hlo => ?_)
  refine lv_aload_n cx.x cx.b d_Ars_copyOf2_38 rfl (lv_at hl 0 rfl) ?_
  exact hx_reta (v := some H.size) cx.x cx.b cx.r cx.k (Or.inr ⟨_, rfl⟩) hlo (fun _ h => h) (Nat.le_of_ble_eq_true rfl) (Nat.le_of_ble_eq_true rfl) d_Ars_copyOf2_39 (⟨rfl, ha128, ⟨by omega, fun q hq _ => by rw [o_H127 q (by omega), o_H124 q hq]⟩, by omega⟩)

set_option maxHeartbeats 4000000 in
set_option maxRecDepth 100000 in
theorem c_Ars_copyOf (l : Launch) {E : hE} (hE : EnvOk E) {H : Heap} {arr : Nat} {f : Nat → Option Nat} (hf : hAq H arr (eA E 2) 10 f) (hO : Old E H) (hL : EnvL E) (hel : ∀ i, i < 10 → ∀ y, f i = some y → isD E H y) : Ct l E y_Ars_copyOf b_Ars_copyOf 2 (some (.array (.object "java/lang/Object"))) (rmA 3 1 15) [.ref arr, .int 15] H (hQr (fun r H1 => r = some H.size ∧ hAq H1 H.size (eA E 2) 15 (va_cpy f (fun _ => none) 0 0 10) ∧ hCh (fun _ => False) H H1 ∧ H1.size = H.size + 1)) := by
  refine hx_enter hE (by decide) (Nat.le_of_ble_eq_true rfl) ?_
  intro p e s m args below meth c ls cx hnm hl
  have hl : lv_has ls 2 [(0, .ref arr), (1, .int 15)] := hl
  have hlo : hLo (eB E) [] := hLo.nil
  refine lv_aload_n cx.x cx.b d_Ars_copyOf_0 rfl (lv_at hl 0 rfl) ?_
  refine lv_iload_n cx.x cx.b d_Ars_copyOf_1 rfl (lv_at hl 1 rfl) ?_
  refine lv_aload_n cx.x cx.b d_Ars_copyOf_2 rfl (lv_at hl 0 rfl) ?_
  have hrc : ∃ cell : Cell, H[arr]? = some cell ∧ cell.vm.isStatics = false ∧ s.vm.findClass "[Ljava/lang/Object;" = some cell.cls := ⟨_, hf, rfl, va_nmO (cx.K.2 2 _ rfl).2 (by decide)⟩
  refine va_getC (C := "[Ljava/lang/Object;") cx.x cx.b (cx.ml.trans hl.1.symm) cx.o (cx.ts _ tw_590) (va_Nw.use rfl (cx.X.2.2.2.1 ⟨"java/lang/Object", "getClass", "()Ljava/lang/Class;"⟩ (List.mem_of_getElem? (i := 3) rfl))) (cx.ts _ tw_1104) (cx.ts _ tw_591) (cx.ts _ tw_604) (KX.mir hL cx.X) hrc (Nat.le_of_ble_eq_true rfl) (Nat.le_of_ble_eq_true rfl) d_Ars_copyOf_3 ?_
  refine hx_callr (iv_Ars_300 cx (c_Ars_copyOf2 l hE hf hO hL hel) rfl hl.1 rfl (Nat.le_of_ble_eq_true rfl) d_Ars_copyOf_6 ⟨Nat.le_of_ble_eq_true rfl, Nat.le_of_ble_eq_true rfl⟩ ⟨Nat.le_of_ble_eq_true rfl, Nat.le_of_ble_eq_true rfl⟩) hlo (fun _ h => h) (fun r131 H130 locs hp129 hlo => ?_)
  obtain ⟨q0, q1, q2, q3⟩ := hp129
  subst q0
  exact hx_reta (v := some H.size) cx.x cx.b cx.r cx.k (Or.inr ⟨_, rfl⟩) hlo (fun _ h => h) (Nat.le_of_ble_eq_true rfl) (Nat.le_of_ble_eq_true rfl) d_Ars_copyOf_9 (⟨rfl, q1, q2, q3⟩)

set_option maxHeartbeats 4000000 in
set_option maxRecDepth 100000 in
theorem c_AL_grow2_0 (l : Launch) {E : hE} (hE : EnvOk E) (hL : EnvL E) {H : Heap} {a : Nat} {mcn : Int32} (ho : hOb (eD E) classes H a 4 [.ref (eK E 100), .int (nI 0), .int mcn]) (hB : eB E ≤ a) (hO : Old E H) : Ct l E y_AL_grow2 b_AL_grow2 4 (some (.array (.object "java/lang/Object"))) (rmA 4 1 15) [.ref a, .int 1] H (hQr (fun r H1 => r = some H.size ∧ hOb (eD E) classes H1 a 4 [.ref H.size, .int (nI 0), .int mcn] ∧ hAq H1 H.size (eA E 2) 10 (fun _ => none) ∧ hCh (fun q => q = a) H H1 ∧ H1.size = H.size + 1)) := by
  refine hx_enter hE (by decide) (Nat.le_of_ble_eq_true rfl) ?_
  intro p e s m args below meth c ls cx hnm hl
  have hl : lv_has ls 4 [(0, .ref a), (1, .int 1)] := hl
  have hlo : hLo (eB E) [] := hLo.nil
  have hlt := ho.lt
  refine lv_aload_n cx.x cx.b d_AL_grow2_0 rfl (lv_at hl 0 rfl) ?_
  refine gf_AL_9_AL cx ho rfl d_AL_grow2_1 ?_
  refine hx_tlen (v := 0) cx.x cx.b (KX.dfltA hL cx.X hO) rfl d_AL_grow2_4 ?_
  refine lv_istore_n (lv' := [(2, .int 0), (0, .ref a), (1, .int 1)]) cx.x cx.b d_AL_grow2_5 rfl hl (by decide) rfl (fun ls hl => ?_)
  refine lv_iload_n cx.x cx.b d_AL_grow2_6 rfl (lv_at hl 0 rfl) ?_
  refine lv_if_gt (tgt := 20) cx.x cx.b d_AL_grow2_7 (by decide) (fun c => absurd c (by decide)) (fun _ => ?_)
  refine lv_aload_n cx.x cx.b d_AL_grow2_10 rfl (lv_at hl 1 rfl) ?_
  refine gf_AL_9_AL cx ho rfl d_AL_grow2_11 ?_
  refine hx_gets cx.x cx.b (KX.dflt hL cx.X hO) cx.o (cx.ts _ tw_97) (fun _ h => h) d_AL_grow2_14 ?_
  refine lv_acmp_eq (rx := some (eK E 100)) (ry := some (eK E 100)) (tgt := 45) cx.x cx.b d_AL_grow2_17 (by decide) (fun _ => ?_) (fun c => absurd rfl c)
  refine lv_aload_n cx.x cx.b d_AL_grow2_45 rfl (lv_at hl 1 rfl) ?_
  refine lv_bipush (v := 10) cx.x cx.b d_AL_grow2_46 (by decide) ?_
  refine lv_iload_n cx.x cx.b d_AL_grow2_48 rfl (lv_at hl 2 rfl) ?_
  refine va_mmax cx.x cx.b (cx.ml.trans hl.1.symm) cx.o (cx.ts _ tw_615) (cx.ts _ tw_581) (cx.ts _ tw_22) (cx.ts _ tw_582) (Nat.le_of_ble_eq_true rfl) (Nat.le_of_ble_eq_true rfl) (Nat.le_of_ble_eq_true rfl) (Nat.le_of_ble_eq_true rfl) d_AL_grow2_49 ?_
  refine lv_topi (fun x132 e_x132 => ?_)
  have e_x132 : x132 = 10 := e_x132.trans (by decide)
  subst e_x132
  refine hx_newq (N' := 10) cx.x cx.b cx.o (cx.ts _ tw_616) cx.X.2.2.2.2.1 cx.K 2 rfl (by decide) (by decide) (by decide) (Nat.le_of_ble_eq_true rfl) (Nat.le_of_ble_eq_true rfl) d_AL_grow2_52 (fun H133 ha134 z_H133 o_H133 => ?_)
  have ho := ho.eq (o_H133 _ hlt)
  refine lv_dup_x1 cx.x cx.b d_AL_grow2_55 rfl rfl ?_
  refine pf_AL_9_AL (x := (some H.size)) cx ho hlo hB (Nat.le_of_ble_eq_true rfl) d_AL_grow2_56 (fun H135 locs ho136 z_H135 o_H135 hlo => ?_)
  have ho136 : hOb (eD E) classes H135 a 4 [.ref H.size, .int (nI 0), .int mcn] := ho136
  exact hx_reta (v := some H.size) cx.x cx.b cx.r cx.k (Or.inr ⟨_, rfl⟩) hlo (fun _ h => h) (Nat.le_of_ble_eq_true rfl) (Nat.le_of_ble_eq_true rfl) d_AL_grow2_59 (⟨rfl, ho136, ha134.eq (o_H135 _ (by omega)), ⟨by omega, fun q hq hn => by rw [o_H135 q hn, o_H133 q hq]⟩, by omega⟩)

set_option maxHeartbeats 4000000 in
set_option maxRecDepth 100000 in
theorem c_AL_grow_0 (l : Launch) {E : hE} (hE : EnvOk E) (hL : EnvL E) {H : Heap} {a : Nat} {mcn : Int32} (ho : hOb (eD E) classes H a 4 [.ref (eK E 100), .int (nI 0), .int mcn]) (hB : eB E ≤ a) (hO : Old E H) : Ct l E y_AL_grow b_AL_grow 1 (some (.array (.object "java/lang/Object"))) (rmA 5 1 15) [.ref a] H (hQr (fun r H1 => r = some H.size ∧ hOb (eD E) classes H1 a 4 [.ref H.size, .int (nI 0), .int mcn] ∧ hAq H1 H.size (eA E 2) 10 (fun _ => none) ∧ hCh (fun q => q = a) H H1 ∧ H1.size = H.size + 1)) := by
  refine hx_enter hE (by decide) (Nat.le_of_ble_eq_true rfl) ?_
  intro p e s m args below meth c ls cx hnm hl
  have hl : lv_has ls 1 [(0, .ref a)] := hl
  have hlo : hLo (eB E) [] := hLo.nil
  refine lv_aload_n cx.x cx.b d_AL_grow_0 rfl (lv_at hl 0 rfl) ?_
  refine lv_aload_n cx.x cx.b d_AL_grow_1 rfl (lv_at hl 0 rfl) ?_
  refine gf_AL_48_AL cx ho rfl d_AL_grow_2 ?_
  refine lv_iconst (v := 1) cx.x cx.b d_AL_grow_5 (by decide) ?_
  refine lv_iadd cx.x cx.b d_AL_grow_6 ?_
  refine lv_topi (fun x137 e_x137 => ?_)
  have e_x137 : x137 = 1 := e_x137.trans (by decide)
  subst e_x137
  refine hx_callr (iv_AL_69_AL cx (c_AL_grow2_0 l hE hL ho hB hO) ho rfl hl.1 rfl (Nat.le_of_ble_eq_true rfl) d_AL_grow_7 ⟨Nat.le_of_ble_eq_true rfl, Nat.le_of_ble_eq_true rfl⟩ ⟨Nat.le_of_ble_eq_true rfl, Nat.le_of_ble_eq_true rfl⟩) hlo (fun _ h => h) (fun r140 H139 locs hp138 hlo => ?_)
  obtain ⟨q0, q1⟩ := hp138
  subst q0
  exact hx_reta (v := some H.size) cx.x cx.b cx.r cx.k (Or.inr ⟨_, rfl⟩) hlo (fun _ h => h) (Nat.le_of_ble_eq_true rfl) (Nat.le_of_ble_eq_true rfl) d_AL_grow_10 (⟨rfl, q1⟩)

set_option maxHeartbeats 4000000 in
set_option maxRecDepth 100000 in
theorem c_AL_grow2_10 (l : Launch) {E : hE} (hE : EnvOk E) (hL : EnvL E) {H : Heap} {a arr : Nat} {mcn : Int32} (ho : hOb (eD E) classes H a 4 [.ref arr, .int (nI 10), .int mcn]) (hB : eB E ≤ a) (hO : Old E H) {f : Nat → Option Nat} (hf : hAq H arr (eA E 2) 10 f) (hne : arr ≠ a) (hel : ∀ i, i < 10 → ∀ y, f i = some y → isD E H y) : Ct l E y_AL_grow2 b_AL_grow2 4 (some (.array (.object "java/lang/Object"))) (rmA 4 1 15) [.ref a, .int 11] H (hQr (fun r H1 => r = some H.size ∧ hOb (eD E) classes H1 a 4 [.ref H.size, .int (nI 10), .int mcn] ∧ hAq H1 H.size (eA E 2) 15 (va_cpy f (fun _ => none) 0 0 10) ∧ hCh (fun q => q = a) H H1 ∧ H1.size = H.size + 1)) := by
  refine hx_enter hE (by decide) (Nat.le_of_ble_eq_true rfl) ?_
  intro p e s m args below meth c ls cx hnm hl
  have hl : lv_has ls 4 [(0, .ref a), (1, .int 11)] := hl
  have hlo : hLo (eB E) [] := hLo.nil
  have hlt := ho.lt
  refine lv_aload_n cx.x cx.b d_AL_grow2_0 rfl (lv_at hl 0 rfl) ?_
  refine gf_AL_9_AL cx ho rfl d_AL_grow2_1 ?_
  refine hx_alen (v := 10) cx.x cx.b cx.K 2 hf rfl rfl d_AL_grow2_4 ?_
  refine lv_istore_n (lv' := [(2, .int 10), (0, .ref a), (1, .int 11)]) cx.x cx.b d_AL_grow2_5 rfl hl (by decide) rfl (fun ls hl => ?_)
  refine lv_iload_n cx.x cx.b d_AL_grow2_6 rfl (lv_at hl 0 rfl) ?_
  refine lv_if_gt (tgt := 20) cx.x cx.b d_AL_grow2_7 (by decide) (fun _ => ?_) (fun c => absurd (by decide) c)
  refine lv_iload_n cx.x cx.b d_AL_grow2_20 rfl (lv_at hl 0 rfl) ?_
  refine lv_iload_n cx.x cx.b d_AL_grow2_21 rfl (lv_at hl 2 rfl) ?_
  refine lv_iload_n cx.x cx.b d_AL_grow2_22 rfl (lv_at hl 0 rfl) ?_
  refine lv_isub cx.x cx.b d_AL_grow2_23 ?_
  refine lv_topi (fun x141 e_x141 => ?_)
  have e_x141 : x141 = 1 := e_x141.trans (by decide)
  subst e_x141
  refine lv_iload_n cx.x cx.b d_AL_grow2_24 rfl (lv_at hl 0 rfl) ?_
  refine lv_iconst (v := 1) cx.x cx.b d_AL_grow2_25 (by decide) ?_
  refine lv_ishr cx.x cx.b d_AL_grow2_26 ?_
  refine lv_topi (fun x142 e_x142 => ?_)
  have e_x142 : x142 = 5 := e_x142.trans (by decide)
  subst e_x142
  refine hx_calli (iv_AL_73 cx (c_ASu_newLength l hE) rfl hl.1 rfl (Nat.le_of_ble_eq_true rfl) d_AL_grow2_27 ⟨Nat.le_of_ble_eq_true rfl, Nat.le_of_ble_eq_true rfl⟩ ⟨Nat.le_of_ble_eq_true rfl, Nat.le_of_ble_eq_true rfl⟩) hlo (fun _ h => h) (fun r145 H144 locs hp143 hlo => ?_)
  obtain ⟨hp143, hH9⟩ := hp143
  have hH9 := hH9.symm
  subst hH9
  subst hp143
  refine lv_istore_n (lv' := [(3, .int 15), (2, .int 10), (0, .ref a), (1, .int 11)]) cx.x cx.b d_AL_grow2_30 rfl hl (by decide) rfl (fun ls hl => ?_)
  refine lv_aload_n cx.x cx.b d_AL_grow2_31 rfl (lv_at hl 2 rfl) ?_
  refine lv_aload_n cx.x cx.b d_AL_grow2_32 rfl (lv_at hl 2 rfl) ?_
  refine gf_AL_9_AL cx ho rfl d_AL_grow2_33 ?_
  refine lv_iload_n cx.x cx.b d_AL_grow2_36 rfl (lv_at hl 0 rfl) ?_
  refine hx_callr (iv_AL_66 cx (c_Ars_copyOf l hE hf hO hL hel) rfl hl.1 rfl (Nat.le_of_ble_eq_true rfl) d_AL_grow2_37 ⟨Nat.le_of_ble_eq_true rfl, Nat.le_of_ble_eq_true rfl⟩ ⟨Nat.le_of_ble_eq_true rfl, Nat.le_of_ble_eq_true rfl⟩) hlo (fun _ h => h) (fun r148 H147 locs hp146 hlo => ?_)
  obtain ⟨q0, q1, q2, q3⟩ := hp146
  subst q0
  show W p l e _ s m args below meth c _ _ _ _ _ (F0 m 40 ls [.ref H.size, .ref a])
  have ho := ho.ch q2 id
  refine lv_dup_x1 cx.x cx.b d_AL_grow2_40 rfl rfl ?_
  refine pf_AL_9_AL (x := (some H.size)) cx ho hlo hB (Nat.le_of_ble_eq_true rfl) d_AL_grow2_41 (fun H149 locs ho150 z_H149 o_H149 hlo => ?_)
  have ho150 : hOb (eD E) classes H149 a 4 [.ref H.size, .int (nI 10), .int mcn] := ho150
  exact hx_reta (v := some H.size) cx.x cx.b cx.r cx.k (Or.inr ⟨_, rfl⟩) hlo (fun _ h => h) (Nat.le_of_ble_eq_true rfl) (Nat.le_of_ble_eq_true rfl) d_AL_grow2_44 (⟨rfl, ho150, q1.eq (o_H149 _ (by omega)), ⟨by omega, fun q hq hn => by rw [o_H149 q hn, q2.2 q hq id]⟩, by omega⟩)

set_option maxHeartbeats 4000000 in
set_option maxRecDepth 100000 in
theorem c_AL_grow_10 (l : Launch) {E : hE} (hE : EnvOk E) (hL : EnvL E) {H : Heap} {a arr : Nat} {mcn : Int32} (ho : hOb (eD E) classes H a 4 [.ref arr, .int (nI 10), .int mcn]) (hB : eB E ≤ a) (hO : Old E H) {f : Nat → Option Nat} (hf : hAq H arr (eA E 2) 10 f) (hne : arr ≠ a) (hel : ∀ i, i < 10 → ∀ y, f i = some y → isD E H y) : Ct l E y_AL_grow b_AL_grow 1 (some (.array (.object "java/lang/Object"))) (rmA 5 1 15) [.ref a] H (hQr (fun r H1 => r = some H.size ∧ hOb (eD E) classes H1 a 4 [.ref H.size, .int (nI 10), .int mcn] ∧ hAq H1 H.size (eA E 2) 15 (va_cpy f (fun _ => none) 0 0 10) ∧ hCh (fun q => q = a) H H1 ∧ H1.size = H.size + 1)) := by
  refine hx_enter hE (by decide) (Nat.le_of_ble_eq_true rfl) ?_
  intro p e s m args below meth c ls cx hnm hl
  have hl : lv_has ls 1 [(0, .ref a)] := hl
  have hlo : hLo (eB E) [] := hLo.nil
  refine lv_aload_n cx.x cx.b d_AL_grow_0 rfl (lv_at hl 0 rfl) ?_
  refine lv_aload_n cx.x cx.b d_AL_grow_1 rfl (lv_at hl 0 rfl) ?_
  refine gf_AL_48_AL cx ho rfl d_AL_grow_2 ?_
  refine lv_iconst (v := 1) cx.x cx.b d_AL_grow_5 (by decide) ?_
  refine lv_iadd cx.x cx.b d_AL_grow_6 ?_
  refine lv_topi (fun x151 e_x151 => ?_)
  have e_x151 : x151 = 11 := e_x151.trans (by decide)
  subst e_x151
  refine hx_callr (iv_AL_69_AL cx (c_AL_grow2_10 l hE hL ho hB hO hf hne hel) ho rfl hl.1 rfl (Nat.le_of_ble_eq_true rfl) d_AL_grow_7 ⟨Nat.le_of_ble_eq_true rfl, Nat.le_of_ble_eq_true rfl⟩ ⟨Nat.le_of_ble_eq_true rfl, Nat.le_of_ble_eq_true rfl⟩) hlo (fun _ h => h) (fun r154 H153 locs hp152 hlo => ?_)
  obtain ⟨q0, q1⟩ := hp152
  subst q0
  exact hx_reta (v := some H.size) cx.x cx.b cx.r cx.k (Or.inr ⟨_, rfl⟩) hlo (fun _ h => h) (Nat.le_of_ble_eq_true rfl) (Nat.le_of_ble_eq_true rfl) d_AL_grow_10 (⟨rfl, q1⟩)

set_option maxHeartbeats 4000000 in
set_option maxRecDepth 100000 in
theorem c_AL_fastRemove (l : Launch) {E : hE} (hE : EnvOk E) {H : Heap} {a arr cap : Nat} {xs : List Nat} {mcn : Int32} (ho : hOb (eD E) classes H a 4 [.ref arr, .int (nI xs.length), .int mcn]) (hB : eB E ≤ a) (hle : xs.length ≤ cap) (hc15 : cap ≤ 15) (b1 : eB E ≤ arr) (b2 : arr ≠ a) {f : Nat → Option Nat} (hf : hAq H arr (eA E 2) cap f) (hx : ∀ i, i < xs.length → f i = some (xs.getD i 0)) {i : Nat} (hi : i < xs.length) (hel : ∀ y ∈ xs, isD E H y ∧ y ≠ a) : Ct l E y_AL_fastRemove b_AL_fastRemove 4 none (rmA 2 0 0) [.ref a, .ref arr, .int (nI i)] H (hQv (fun H1 => (∃ m2 : Int32, hOb (eD E) classes H1 a 4 [.ref arr, .int (nI (xs.length - 1)), .int m2]) ∧ (∃ g : Nat → Option Nat, hAq H1 arr (eA E 2) cap g ∧ ∀ j, j < xs.length - 1 → g j = some ((delA xs i).getD j 0)) ∧ hCh (lS E a arr) H H1 ∧ H1.size = H.size)) := by
  refine hx_enter hE (by decide) (Nat.le_of_ble_eq_true rfl) ?_
  intro p e s m args below meth c ls cx hnm hl
  have hl : lv_has ls 4 [(0, .ref a), (1, .ref arr), (2, .int (nI i))] := hl
  have hlo : hLo (eB E) [] := hLo.nil
  refine lv_aload_n cx.x cx.b d_AL_fastRemove_0 rfl (lv_at hl 0 rfl) ?_
  refine lv_dup cx.x cx.b d_AL_fastRemove_1 rfl ?_
  refine gf_AL_63_AL cx ho rfl d_AL_fastRemove_2 ?_
  refine lv_iconst (v := 1) cx.x cx.b d_AL_fastRemove_5 (by decide) ?_
  refine lv_iadd cx.x cx.b d_AL_fastRemove_6 ?_
  refine lv_topi (fun x155 e_x155 => ?_)
  refine pf_AL_63_AL cx ho hlo hB (Nat.le_of_ble_eq_true rfl) d_AL_fastRemove_7 (fun H156 locs ho157 z_H156 o_H156 hlo => ?_)
  have ho157 : hOb (eD E) classes H156 a 4 [.ref arr, .int (nI xs.length), .int x155] := ho157
  have hf := hf.eq (o_H156 _ b2)
  have k1 : hCh (lS E a arr) H H156 := hCh.put z_H156 o_H156 (Or.inl rfl)
  refine lv_aload_n cx.x cx.b d_AL_fastRemove_10 rfl (lv_at hl 0 rfl) ?_
  refine gf_AL_48_AL cx ho157 rfl d_AL_fastRemove_11 ?_
  refine lv_iconst (v := 1) cx.x cx.b d_AL_fastRemove_14 (by decide) ?_
  refine lv_isub cx.x cx.b d_AL_fastRemove_15 ?_
  refine lv_topi (fun x158 e_x158 => ?_)
  have e_x158 : x158 = nI (xs.length - 1) := e_x158.trans (pk_sub (b := 1) (by omega))
  subst e_x158
  refine lv_dup cx.x cx.b d_AL_fastRemove_16 rfl ?_
  refine lv_istore_n (lv' := [(3, .int (nI (xs.length - 1))), (0, .ref a), (1, .ref arr), (2, .int (nI i))]) cx.x cx.b d_AL_fastRemove_17 rfl hl (by decide) rfl (fun ls hl => ?_)
  refine lv_iload_n cx.x cx.b d_AL_fastRemove_18 rfl (lv_at hl 3 rfl) ?_
  refine lv_icmp_le (tgt := 34) cx.x cx.b d_AL_fastRemove_19 (by decide) (fun c1 => ?_) (fun c1 => ?_)
  · have c1 : (xs.length - 1) ≤ i := (nI_leI (a := (xs.length - 1)) (b := i) (by omega) (by omega)).mp c1
    have hi1 : i = xs.length - 1 := by omega
    refine lv_aload_n cx.x cx.b d_AL_fastRemove_34 rfl (lv_at hl 2 rfl) ?_
    refine lv_aload_n cx.x cx.b d_AL_fastRemove_35 rfl (lv_at hl 1 rfl) ?_
    refine lv_iload_n cx.x cx.b d_AL_fastRemove_36 rfl (lv_at hl 0 rfl) ?_
    refine lv_dup_x1 cx.x cx.b d_AL_fastRemove_37 rfl rfl ?_
    refine pf_AL_48_AL cx ho157 hlo hB (Nat.le_of_ble_eq_true rfl) d_AL_fastRemove_38 (fun H159 locs ho160 z_H159 o_H159 hlo => ?_)
    have ho160 : hOb (eD E) classes H159 a 4 [.ref arr, .int (nI (xs.length - 1)), .int x155] := ho160
    have hf := hf.eq (o_H159 _ b2)
    refine lv_null cx.x cx.b d_AL_fastRemove_41 ?_
    refine hx_aastN cx.x cx.b cx.K 2 hf hlo b1 rfl (vp_in_nI (by omega) (by omega)) d_AL_fastRemove_42 (fun H161 locs ha162 z_H161 o_H161 hlo => ?_)
    have ho160 := ho160.eq (o_H161 _ (Ne.symm b2))
    rw [nI_clamp (by omega)] at ha162
    exact hx_retv cx.x cx.b cx.r cx.k hlo (fun _ h => h) (Nat.le_of_ble_eq_true rfl) (Nat.le_of_ble_eq_true rfl) d_AL_fastRemove_43 (⟨⟨_, ho160⟩, ⟨_, ha162, fun j hj => by rw [uq_ne (by omega)]; rw [delA_getD hi, if_pos (by omega)]; exact hx j (by omega)⟩, (k1.tr (hCh.put z_H159 o_H159 (Or.inl rfl))).tr (hCh.put z_H161 o_H161 (Or.inr ⟨rfl, b1⟩)), by omega⟩)
  · have c1 : i < (xs.length - 1) := Nat.not_le.mp (fun zz => c1 ((nI_leI (a := (xs.length - 1)) (b := i) (by omega) (by omega)).mpr zz))
    refine lv_aload_n cx.x cx.b d_AL_fastRemove_22 rfl (lv_at hl 2 rfl) ?_
    refine lv_iload_n cx.x cx.b d_AL_fastRemove_23 rfl (lv_at hl 3 rfl) ?_
    refine lv_iconst (v := 1) cx.x cx.b d_AL_fastRemove_24 (by decide) ?_
    refine lv_iadd cx.x cx.b d_AL_fastRemove_25 ?_
    refine lv_topi (fun x163 e_x163 => ?_)
    have e_x163 : x163 = nI (i + 1) := e_x163.trans (nI_1 i)
    subst e_x163
    refine lv_aload_n cx.x cx.b d_AL_fastRemove_26 rfl (lv_at hl 2 rfl) ?_
    refine lv_iload_n cx.x cx.b d_AL_fastRemove_27 rfl (lv_at hl 3 rfl) ?_
    refine lv_iload_n cx.x cx.b d_AL_fastRemove_28 rfl (lv_at hl 0 rfl) ?_
    refine lv_iload_n cx.x cx.b d_AL_fastRemove_29 rfl (lv_at hl 3 rfl) ?_
    refine lv_isub cx.x cx.b d_AL_fastRemove_30 ?_
    refine lv_topi (fun x164 e_x164 => ?_)
    have e_x164 : x164 = nI (xs.length - 1 - i) := e_x164.trans (pk_sub (by omega))
    subst e_x164
    refine hx_acopy cx.x cx.b (cx.ml.trans hl.1.symm) cx.o (cx.ts _ tw_540) (cx.ts _ tw_542) (cx.ts _ tw_541) (cx.ts _ tw_20) cx.K 2 rfl hf hf hlo b1 (nI_pos (by omega)) (nI_pos (by omega)) (nI_pos (by omega)) (by rw [nI_clamp (by omega), nI_clamp (by omega)]; omega) (by rw [nI_clamp (by omega), nI_clamp (by omega)]; omega) (fun j hj y hy => by rw [nI_clamp (by omega)] at hj; rw [nI_clamp (by omega), hx _ (by omega)] at hy; cases hy; obtain ⟨e1, e2⟩ := hel _ (getD_mem (show i + 1 + j < xs.length by omega)); exact (e1.eq (o_H156 _ e2)).any cx.X) (Nat.le_of_ble_eq_true rfl) (Nat.le_of_ble_eq_true rfl) d_AL_fastRemove_31 (fun H165 locs ha166 z_H165 o_H165 hlo => ?_)
    rw [nI_clamp (by omega), nI_clamp (by omega), nI_clamp (by omega)] at ha166
    have ho3 := ho157.eq (o_H165 _ (Ne.symm b2))
    have k2 := k1.tr (hCh.put (S := lS E a arr) z_H165 o_H165 (Or.inr ⟨rfl, b1⟩))
    refine lv_aload_n cx.x cx.b d_AL_fastRemove_34 rfl (lv_at hl 2 rfl) ?_
    refine lv_aload_n cx.x cx.b d_AL_fastRemove_35 rfl (lv_at hl 1 rfl) ?_
    refine lv_iload_n cx.x cx.b d_AL_fastRemove_36 rfl (lv_at hl 0 rfl) ?_
    refine lv_dup_x1 cx.x cx.b d_AL_fastRemove_37 rfl rfl ?_
    refine pf_AL_48_AL cx ho3 hlo hB (Nat.le_of_ble_eq_true rfl) d_AL_fastRemove_38 (fun H167 locs ho168 z_H167 o_H167 hlo => ?_)
    have ho168 : hOb (eD E) classes H167 a 4 [.ref arr, .int (nI (xs.length - 1)), .int x155] := ho168
    have ha166 := ha166.eq (o_H167 _ b2)
    refine lv_null cx.x cx.b d_AL_fastRemove_41 ?_
    refine hx_aastN cx.x cx.b cx.K 2 ha166 hlo b1 rfl (vp_in_nI (by omega) (by omega)) d_AL_fastRemove_42 (fun H169 locs ha170 z_H169 o_H169 hlo => ?_)
    have ho168 := ho168.eq (o_H169 _ (Ne.symm b2))
    rw [nI_clamp (by omega)] at ha170
    exact hx_retv cx.x cx.b cx.r cx.k hlo (fun _ h => h) (Nat.le_of_ble_eq_true rfl) (Nat.le_of_ble_eq_true rfl) d_AL_fastRemove_43 (⟨⟨_, ho168⟩, ⟨_, ha170, fun j hj => by rw [uq_ne (by omega)]; rw [delA_getD hi]; by_cases d : j < i; rw [if_pos d, pk_cpy_out (Or.inl d)]; exact hx j (by omega); rw [if_neg d, pk_cpy_in (by omega) (by omega), show i + 1 + (j - i) = j + 1 by omega]; exact hx _ (by omega)⟩, (k2.tr (hCh.put z_H167 o_H167 (Or.inl rfl))).tr (hCh.put z_H169 o_H169 (Or.inr ⟨rfl, b1⟩)), by omega⟩)

set_option maxHeartbeats 4000000 in
set_option maxRecDepth 100000 in
theorem c_AL_remove (l : Launch) {E : hE} (hE : EnvOk E) {H : Heap} {a arr cap : Nat} {xs : List Nat} (h : Li E H a arr cap xs) {i : Nat} (hi : i < xs.length) (hel : ∀ y ∈ xs, isD E H y ∧ y ≠ a) : Ct l E y_AL_remove b_AL_remove 4 (some (.object "java/lang/Object")) (rmA 3 0 0) [.ref a, .int (nI i)] H (hQr (fun r H1 => r = some (xs.getD i 0) ∧ Li E H1 a arr cap (delA xs i) ∧ hCh (lS E a arr) H H1 ∧ H1.size = H.size)) := by
  refine hx_enter hE (by decide) (Nat.le_of_ble_eq_true rfl) ?_
  intro p e s m args below meth c ls cx hnm hl
  have hl : lv_has ls 4 [(0, .ref a), (1, .int (nI i))] := hl
  have hlo : hLo (eB E) [] := hLo.nil
  obtain ⟨⟨mcn, ho⟩, hB, hle, hc15, hcase⟩ := h
  rcases hcase with ⟨hc0, -⟩ | ⟨b1, b2, b3, f, hf, hx⟩
  · omega
  · refine lv_iload_n cx.x cx.b d_AL_remove_0 rfl (lv_at hl 1 rfl) ?_
    refine lv_aload_n cx.x cx.b d_AL_remove_1 rfl (lv_at hl 0 rfl) ?_
    refine gf_AL_48_AL cx ho rfl d_AL_remove_2 ?_
    refine hx_calli (iv_AL_118 cx (c_Obs_checkIndex l hE (nI_pos (by omega)) (nI_lt hi (by omega))) rfl hl.1 rfl (Nat.le_of_ble_eq_true rfl) d_AL_remove_5 ⟨Nat.le_of_ble_eq_true rfl, Nat.le_of_ble_eq_true rfl⟩ ⟨Nat.le_of_ble_eq_true rfl, Nat.le_of_ble_eq_true rfl⟩) hlo (fun _ h => h) (fun r173 H172 locs hp171 hlo => ?_)
    obtain ⟨hp171, hH9⟩ := hp171
    have hH9 := hH9.symm
    subst hH9
    subst hp171
    refine lv_pop cx.x cx.b d_AL_remove_8 rfl ?_
    refine lv_aload_n cx.x cx.b d_AL_remove_9 rfl (lv_at hl 0 rfl) ?_
    refine gf_AL_9_AL cx ho rfl d_AL_remove_10 ?_
    refine lv_astore_n (lv' := [(2, .ref arr), (0, .ref a), (1, .int (nI i))]) cx.x cx.b d_AL_remove_13 rfl hl (by decide) rfl (fun ls hl => ?_)
    refine lv_aload_n cx.x cx.b d_AL_remove_14 rfl (lv_at hl 0 rfl) ?_
    refine lv_iload_n cx.x cx.b d_AL_remove_15 rfl (lv_at hl 2 rfl) ?_
    refine hx_aald cx.x cx.b cx.K 2 hf rfl (vp_in_nI (by omega) (by omega)) d_AL_remove_16 ?_
    rw [nI_clamp (by omega), hx i hi]
    show W p l e _ s m args below meth c H locs _ _ _ (F0 m 17 ls [.ref (xs.getD i 0)])
    refine lv_astore_n (lv' := [(3, .ref (xs.getD i 0)), (2, .ref arr), (0, .ref a), (1, .int (nI i))]) cx.x cx.b d_AL_remove_17 rfl hl (by decide) rfl (fun ls hl => ?_)
    refine lv_aload_n cx.x cx.b d_AL_remove_18 rfl (lv_at hl 2 rfl) ?_
    refine lv_aload_n cx.x cx.b d_AL_remove_19 rfl (lv_at hl 1 rfl) ?_
    refine lv_iload_n cx.x cx.b d_AL_remove_20 rfl (lv_at hl 3 rfl) ?_
    refine hx_callv (iv_AL_144_AL cx (c_AL_fastRemove l hE ho hB hle hc15 b1 b2 hf hx hi hel) ho rfl hl.1 rfl (Nat.le_of_ble_eq_true rfl) d_AL_remove_21 ⟨Nat.le_of_ble_eq_true rfl, Nat.le_of_ble_eq_true rfl⟩ ⟨Nat.le_of_ble_eq_true rfl, Nat.le_of_ble_eq_true rfl⟩) hlo (fun _ h => h) (fun H175 locs hp174 hlo => ?_)
    obtain ⟨⟨m2, q1⟩, ⟨g, q2, q3⟩, q4, q5⟩ := hp174
    have hdl := delA_len hi
    rw [← hdl] at q1
    refine lv_aload_n cx.x cx.b d_AL_remove_24 rfl (lv_at hl 0 rfl) ?_
    exact hx_reta (v := some (xs.getD i 0)) cx.x cx.b cx.r cx.k (Or.inl ⟨_, rfl⟩) hlo (fun _ h => h) (Nat.le_of_ble_eq_true rfl) (Nat.le_of_ble_eq_true rfl) d_AL_remove_25 (⟨rfl, ⟨⟨m2, q1⟩, hB, by omega, hc15, Or.inr ⟨b1, b2, b3, g, q2, fun j hj => q3 j (by omega)⟩⟩, q4, q5⟩)

set_option maxHeartbeats 4000000 in
set_option maxRecDepth 100000 in
theorem c_AL_add (l : Launch) {E : hE} (hE : EnvOk E) (hL : EnvL E) {H : Heap} {a arr cap : Nat} {xs : List Nat} (h : Li E H a arr cap xs) (hO : Old E H) {i x : Nat} (hi : i ≤ xs.length) (h15 : xs.length < 15) (hel : ∀ y ∈ xs, isD E H y ∧ y ≠ a ∧ (eB E ≤ arr → y ≠ arr)) (hx0 : isD E H x ∧ x ≠ a ∧ (eB E ≤ arr → x ≠ arr)) : Ct l E y_AL_add b_AL_add 5 none (rmA 6 1 15) [.ref a, .int (nI i), .ref x] H (hQv (fun H1 => ∃ arr2 cap2, Li E H1 a arr2 cap2 (insA xs i x) ∧ ((arr2 = arr ∧ H1.size = H.size) ∨ (arr2 = H.size ∧ H1.size = H.size + 1)) ∧ hCh (lS E a arr) H H1)) := by
  refine hx_enter hE (by decide) (Nat.le_of_ble_eq_true rfl) ?_
  intro p e s m args below meth c ls cx hnm hl
  have hl : lv_has ls 5 [(0, .ref a), (1, .int (nI i)), (2, .ref x)] := hl
  have hlo : hLo (eB E) [] := hLo.nil
  have h0 := h
  obtain ⟨⟨mcn, ho⟩, hB, hle, hc15, hcase⟩ := h
  refine lv_aload_n cx.x cx.b d_AL_add_0 rfl (lv_at hl 0 rfl) ?_
  refine lv_iload_n cx.x cx.b d_AL_add_1 rfl (lv_at hl 1 rfl) ?_
  refine hx_callv (iv_AL_135_AL cx (c_AL_range l hE h0 hi) ho rfl hl.1 rfl (Nat.le_of_ble_eq_true rfl) d_AL_add_2 ⟨Nat.le_of_ble_eq_true rfl, Nat.le_of_ble_eq_true rfl⟩ ⟨Nat.le_of_ble_eq_true rfl, Nat.le_of_ble_eq_true rfl⟩) hlo (fun _ h => h) (fun H177 locs hp176 hlo => ?_)
  obtain rfl := hp176.symm
  refine lv_aload_n cx.x cx.b d_AL_add_5 rfl (lv_at hl 0 rfl) ?_
  refine lv_dup cx.x cx.b d_AL_add_6 rfl ?_
  refine gf_AL_63_AL cx ho rfl d_AL_add_7 ?_
  refine lv_iconst (v := 1) cx.x cx.b d_AL_add_10 (by decide) ?_
  refine lv_iadd cx.x cx.b d_AL_add_11 ?_
  refine lv_topi (fun x178 e_x178 => ?_)
  refine pf_AL_63_AL cx ho hlo hB (Nat.le_of_ble_eq_true rfl) d_AL_add_12 (fun H179 locs ho180 z_H179 o_H179 hlo => ?_)
  have ho180 : hOb (eD E) classes H179 a 4 [.ref arr, .int (nI xs.length), .int x178] := ho180
  have k1 : hCh (lS E a arr) H H179 := hCh.put z_H179 o_H179 (Or.inl rfl)
  have hO1 : Old E H179 := hO.ch k1 (fun q e => by rcases e with e | e; rw [e]; exact hB; rw [e.1]; exact e.2)
  have hil := insA_len (x := x) hi
  refine lv_aload_n cx.x cx.b d_AL_add_15 rfl (lv_at hl 0 rfl) ?_
  refine gf_AL_48_AL cx ho180 rfl d_AL_add_16 ?_
  refine lv_dup cx.x cx.b d_AL_add_19 rfl ?_
  refine lv_istore_n (lv' := [(3, .int (nI xs.length)), (0, .ref a), (1, .int (nI i)), (2, .ref x)]) cx.x cx.b d_AL_add_20 rfl hl (by decide) rfl (fun ls hl => ?_)
  refine lv_aload_n cx.x cx.b d_AL_add_21 rfl (lv_at hl 1 rfl) ?_
  refine gf_AL_9_AL cx ho180 rfl d_AL_add_22 ?_
  refine lv_dup cx.x cx.b d_AL_add_25 rfl ?_
  refine lv_astore (lv' := [(4, .ref arr), (3, .int (nI xs.length)), (0, .ref a), (1, .int (nI i)), (2, .ref x)]) cx.x cx.b d_AL_add_26 hl (by decide) rfl (fun ls hl => ?_)
  rcases hcase with ⟨hc0, he0⟩ | ⟨b1, b2, b3, f, hf, hx⟩
  · have hxs : xs = [] := by cases xs with | nil => rfl | cons y ys => simp at hle; omega
    subst hxs
    subst hc0
    subst he0
    refine hx_tlen (v := 0) cx.x cx.b (KX.dfltA hL cx.X hO1) rfl d_AL_add_28 ?_
    refine lv_icmp_ne (tgt := 38) cx.x cx.b d_AL_add_29 (by decide) (fun c => absurd rfl c) (fun _ => ?_)
    refine lv_aload_n cx.x cx.b d_AL_add_32 rfl (lv_at hl 2 rfl) ?_
    refine hx_callr (iv_AL_129_AL cx (c_AL_grow_0 l hE hL ho180 hB hO1) ho180 rfl hl.1 rfl (Nat.le_of_ble_eq_true rfl) d_AL_add_33 ⟨Nat.le_of_ble_eq_true rfl, Nat.le_of_ble_eq_true rfl⟩ ⟨Nat.le_of_ble_eq_true rfl, Nat.le_of_ble_eq_true rfl⟩) hlo (fun _ h => h) (fun r183 H182 locs hp181 hlo => ?_)
    obtain ⟨q0, q1, q2, q3, q4⟩ := hp181
    subst q0
    show W p l e _ s m args below meth c _ _ _ _ _ (F0 m 36 ls [.ref H179.size])
    have i0 : i = 0 := by simpa using hi
    have hB9 : eB E ≤ H179.size := hO1.1
    have hlt9 := ho180.lt
    have hx9 : isD E H182 x ∧ x ≠ H179.size := ⟨(hx0.1.eq (o_H179 _ hx0.2.1)).ch q3 hx0.2.1, by have := hx0.1.lt; omega⟩
    have hel9 : ∀ y ∈ ([] : List Nat), isD E H182 y ∧ True := fun y hy => absurd hy List.not_mem_nil
    have hxx : ∀ j, j < ([] : List Nat).length → (fun _ => none : Nat → Option Nat) j = some (([] : List Nat).getD j 0) := fun j hj => absurd hj (Nat.not_lt_zero j)
    refine lv_astore (lv' := [(4, .ref H179.size), (3, .int (nI ([] : List Nat).length)), (0, .ref a), (1, .int (nI i)), (2, .ref x)]) cx.x cx.b d_AL_add_36 hl (by decide) rfl (fun ls hl => ?_)
    refine lv_aload cx.x cx.b d_AL_add_38 (lv_at hl 0 rfl) ?_
    refine lv_iload_n cx.x cx.b d_AL_add_40 rfl (lv_at hl 3 rfl) ?_
    refine lv_aload cx.x cx.b d_AL_add_41 (lv_at hl 0 rfl) ?_
    refine lv_iload_n cx.x cx.b d_AL_add_43 rfl (lv_at hl 3 rfl) ?_
    refine lv_iconst (v := 1) cx.x cx.b d_AL_add_44 (by decide) ?_
    refine lv_iadd cx.x cx.b d_AL_add_45 ?_
    refine lv_topi (fun x184 e_x184 => ?_)
    have e_x184 : x184 = nI (i + 1) := e_x184.trans (nI_1 i)
    subst e_x184
    refine lv_iload_n cx.x cx.b d_AL_add_46 rfl (lv_at hl 1 rfl) ?_
    refine lv_iload_n cx.x cx.b d_AL_add_47 rfl (lv_at hl 3 rfl) ?_
    refine lv_isub cx.x cx.b d_AL_add_48 ?_
    refine lv_topi (fun x185 e_x185 => ?_)
    have e_x185 : x185 = nI (([] : List Nat).length - i) := e_x185.trans (pk_sub hi)
    subst e_x185
    refine hx_acopy cx.x cx.b (cx.ml.trans hl.1.symm) cx.o (cx.ts _ tw_540) (cx.ts _ tw_542) (cx.ts _ tw_541) (cx.ts _ tw_20) cx.K 2 rfl q2 q2 hlo hB9 (nI_pos (by omega)) (nI_pos (by omega)) (nI_pos (by omega)) (by rw [nI_clamp (by omega), nI_clamp (by omega)]; omega) (by rw [nI_clamp (by omega), nI_clamp (by omega)]; omega) (fun j hj y hy => by have hy : (none : Option Nat) = some y := hy; cases hy) (Nat.le_of_ble_eq_true rfl) (Nat.le_of_ble_eq_true rfl) d_AL_add_49 (fun H186 locs ha187 z_H186 o_H186 hlo => ?_)
    rw [nI_clamp (by omega), nI_clamp (by omega), nI_clamp (by omega)] at ha187
    refine lv_aload cx.x cx.b d_AL_add_52 (lv_at hl 0 rfl) ?_
    refine lv_iload_n cx.x cx.b d_AL_add_54 rfl (lv_at hl 3 rfl) ?_
    refine lv_aload_n cx.x cx.b d_AL_add_55 rfl (lv_at hl 4 rfl) ?_
    refine hx_aast cx.x cx.b cx.K 2 ha187 hlo hB9 rfl ((hx9.1.eq (o_H186 _ (hx9.2))).any cx.X) (vp_in_nI (by omega) (by omega)) d_AL_add_56 (fun H188 locs ha189 z_H188 o_H188 hlo => ?_)
    rw [nI_clamp (by omega)] at ha189
    have ho9 := (q1.eq (o_H186 _ (by omega))).eq (o_H188 _ (by omega))
    refine lv_aload_n cx.x cx.b d_AL_add_57 rfl (lv_at hl 2 rfl) ?_
    refine lv_iload_n cx.x cx.b d_AL_add_58 rfl (lv_at hl 1 rfl) ?_
    refine lv_iconst (v := 1) cx.x cx.b d_AL_add_59 (by decide) ?_
    refine lv_iadd cx.x cx.b d_AL_add_60 ?_
    refine lv_topi (fun x190 e_x190 => ?_)
    have e_x190 : x190 = nI (insA [] i x).length := e_x190.trans (by rw [nI_1, hil])
    subst e_x190
    refine pf_AL_48_AL cx ho9 hlo hB (Nat.le_of_ble_eq_true rfl) d_AL_add_61 (fun H191 locs ho192 z_H191 o_H191 hlo => ?_)
    have ho192 : hOb (eD E) classes H191 a 4 [.ref H179.size, .int (nI (insA [] i x).length), .int x178] := ho192
    have hfin : ∀ j, j < (insA [] i x).length → va_up (va_cpy (fun _ => none) (fun _ => none) i (i + 1) (([] : List Nat).length - i)) i (some x) j = some ((insA [] i x).getD j 0) := by
      intro j hj
      rw [insA_getD hi]
      by_cases d : j = i
      · rw [d, uq_self, if_neg (by omega), if_pos rfl]
      · rw [uq_ne d]
        by_cases d2 : j < i
        · rw [if_pos d2, pk_cpy_out (Or.inl (by omega))]; exact hxx j (by omega)
        · exact absurd (show j < 0 + 1 by rw [hil] at hj; exact hj) (by omega)
    exact hx_retv cx.x cx.b cx.r cx.k hlo (fun _ h => h) (Nat.le_of_ble_eq_true rfl) (Nat.le_of_ble_eq_true rfl) d_AL_add_64 (⟨H179.size, 10, ⟨⟨_, ho192⟩, hB, by rw [hil]; decide, by omega, Or.inr ⟨hB9, by omega, Or.inl rfl, _, ha189.eq (o_H191 _ (by omega)), hfin⟩⟩, Or.inr ⟨by omega, by omega⟩, ⟨by omega, fun q hq hn => by rw [o_H191 q (fun e => hn (Or.inl e)), o_H188 q (by omega), o_H186 q (by omega), q3.2 q (by omega) (fun e => hn (Or.inl e)), o_H179 q (fun e => hn (Or.inl e))]⟩⟩)
  · have hf := hf.eq (o_H179 _ b2)
    refine hx_alen (v := nI cap) cx.x cx.b cx.K 2 hf rfl rfl d_AL_add_28 ?_
    refine lv_icmp_ne (tgt := 38) cx.x cx.b d_AL_add_29 (by decide) (fun c1 => ?_) (fun c1 => ?_)
    · have c1 : xs.length ≠ cap := fun zz => c1 ((nI_eq (a := xs.length) (b := cap) (by omega) (by omega)).mpr zz)
      have hx9 : isD E H179 x ∧ x ≠ arr := ⟨hx0.1.eq (o_H179 _ hx0.2.1), hx0.2.2 b1⟩
      have hel9 : ∀ y ∈ xs, isD E H179 y ∧ True := fun y hy => ⟨(hel y hy).1.eq (o_H179 _ (hel y hy).2.1), trivial⟩
      refine lv_aload cx.x cx.b d_AL_add_38 (lv_at hl 0 rfl) ?_
      refine lv_iload_n cx.x cx.b d_AL_add_40 rfl (lv_at hl 3 rfl) ?_
      refine lv_aload cx.x cx.b d_AL_add_41 (lv_at hl 0 rfl) ?_
      refine lv_iload_n cx.x cx.b d_AL_add_43 rfl (lv_at hl 3 rfl) ?_
      refine lv_iconst (v := 1) cx.x cx.b d_AL_add_44 (by decide) ?_
      refine lv_iadd cx.x cx.b d_AL_add_45 ?_
      refine lv_topi (fun x193 e_x193 => ?_)
      have e_x193 : x193 = nI (i + 1) := e_x193.trans (nI_1 i)
      subst e_x193
      refine lv_iload_n cx.x cx.b d_AL_add_46 rfl (lv_at hl 1 rfl) ?_
      refine lv_iload_n cx.x cx.b d_AL_add_47 rfl (lv_at hl 3 rfl) ?_
      refine lv_isub cx.x cx.b d_AL_add_48 ?_
      refine lv_topi (fun x194 e_x194 => ?_)
      have e_x194 : x194 = nI (xs.length - i) := e_x194.trans (pk_sub hi)
      subst e_x194
      refine hx_acopy cx.x cx.b (cx.ml.trans hl.1.symm) cx.o (cx.ts _ tw_540) (cx.ts _ tw_542) (cx.ts _ tw_541) (cx.ts _ tw_20) cx.K 2 rfl hf hf hlo b1 (nI_pos (by omega)) (nI_pos (by omega)) (nI_pos (by omega)) (by rw [nI_clamp (by omega), nI_clamp (by omega)]; omega) (by rw [nI_clamp (by omega), nI_clamp (by omega)]; omega) (fun j hj y hy => by rw [nI_clamp (by omega)] at hj; rw [nI_clamp (by omega), hx _ (by omega)] at hy; cases hy; exact (hel9 _ (getD_mem (show i + j < xs.length by omega))).1.any cx.X) (Nat.le_of_ble_eq_true rfl) (Nat.le_of_ble_eq_true rfl) d_AL_add_49 (fun H195 locs ha196 z_H195 o_H195 hlo => ?_)
      rw [nI_clamp (by omega), nI_clamp (by omega), nI_clamp (by omega)] at ha196
      refine lv_aload cx.x cx.b d_AL_add_52 (lv_at hl 0 rfl) ?_
      refine lv_iload_n cx.x cx.b d_AL_add_54 rfl (lv_at hl 3 rfl) ?_
      refine lv_aload_n cx.x cx.b d_AL_add_55 rfl (lv_at hl 4 rfl) ?_
      refine hx_aast cx.x cx.b cx.K 2 ha196 hlo b1 rfl ((hx9.1.eq (o_H195 _ (hx9.2))).any cx.X) (vp_in_nI (by omega) (by omega)) d_AL_add_56 (fun H197 locs ha198 z_H197 o_H197 hlo => ?_)
      rw [nI_clamp (by omega)] at ha198
      have ho9 := (ho180.eq (o_H195 _ (Ne.symm b2))).eq (o_H197 _ (Ne.symm b2))
      refine lv_aload_n cx.x cx.b d_AL_add_57 rfl (lv_at hl 2 rfl) ?_
      refine lv_iload_n cx.x cx.b d_AL_add_58 rfl (lv_at hl 1 rfl) ?_
      refine lv_iconst (v := 1) cx.x cx.b d_AL_add_59 (by decide) ?_
      refine lv_iadd cx.x cx.b d_AL_add_60 ?_
      refine lv_topi (fun x199 e_x199 => ?_)
      have e_x199 : x199 = nI (insA xs i x).length := e_x199.trans (by rw [nI_1, hil])
      subst e_x199
      refine pf_AL_48_AL cx ho9 hlo hB (Nat.le_of_ble_eq_true rfl) d_AL_add_61 (fun H200 locs ho201 z_H200 o_H200 hlo => ?_)
      have ho201 : hOb (eD E) classes H200 a 4 [.ref arr, .int (nI (insA xs i x).length), .int x178] := ho201
      have hfin : ∀ j, j < (insA xs i x).length → va_up (va_cpy f f i (i + 1) (xs.length - i)) i (some x) j = some ((insA xs i x).getD j 0) := by
        intro j hj
        rw [insA_getD hi]
        by_cases d : j = i
        · rw [d, uq_self, if_neg (by omega), if_pos rfl]
        · rw [uq_ne d]
          by_cases d2 : j < i
          · rw [if_pos d2, pk_cpy_out (Or.inl (by omega))]; exact hx j (by omega)
          · rw [if_neg d2, if_neg d, pk_cpy_in (by omega) (by omega), show i + (j - (i + 1)) = j - 1 by omega]; exact hx _ (by omega)
      exact hx_retv cx.x cx.b cx.r cx.k hlo (fun _ h => h) (Nat.le_of_ble_eq_true rfl) (Nat.le_of_ble_eq_true rfl) d_AL_add_64 (⟨arr, cap, ⟨⟨_, ho201⟩, hB, by omega, hc15, Or.inr ⟨b1, b2, b3, _, ha198.eq (o_H200 _ b2), hfin⟩⟩, Or.inl ⟨rfl, by omega⟩, ((k1.tr (hCh.put z_H195 o_H195 (Or.inr ⟨rfl, b1⟩))).tr (hCh.put z_H197 o_H197 (Or.inr ⟨rfl, b1⟩))).tr (hCh.put z_H200 o_H200 (Or.inl rfl))⟩)
    · have c1 : xs.length = cap := (nI_eq (a := xs.length) (b := cap) (by omega) (by omega)).mp c1
      have hcap : cap = 10 := by omega
      subst hcap
      have hel8 : ∀ i, i < 10 → ∀ y, f i = some y → isD E H179 y := fun j hj y hy => by rw [hx j (by omega)] at hy; cases hy; exact (hel _ (getD_mem (show j < xs.length by omega))).1.eq (o_H179 _ (hel _ (getD_mem (show j < xs.length by omega))).2.1)
      refine lv_aload_n cx.x cx.b d_AL_add_32 rfl (lv_at hl 2 rfl) ?_
      have ho8 := ho180
      rw [c1] at ho8
      refine hx_callr (iv_AL_129_AL cx (c_AL_grow_10 l hE hL ho8 hB hO1 hf b2 hel8) ho8 rfl hl.1 rfl (Nat.le_of_ble_eq_true rfl) d_AL_add_33 ⟨Nat.le_of_ble_eq_true rfl, Nat.le_of_ble_eq_true rfl⟩ ⟨Nat.le_of_ble_eq_true rfl, Nat.le_of_ble_eq_true rfl⟩) hlo (fun _ h => h) (fun r204 H203 locs hp202 hlo => ?_)
      obtain ⟨q0, q1, q2, q3, q4⟩ := hp202
      subst q0
      show W p l e _ s m args below meth c _ _ _ _ _ (F0 m 36 ls [.ref H179.size])
      have hB9 : eB E ≤ H179.size := hO1.1
      have hlt9 := ho8.lt
      have hlt8 := hf.lt
      have hx9 : isD E H203 x ∧ x ≠ H179.size := ⟨(hx0.1.eq (o_H179 _ hx0.2.1)).ch q3 hx0.2.1, by have := hx0.1.lt; omega⟩
      have hel9 : ∀ y ∈ xs, isD E H203 y ∧ True := fun y hy => ⟨((hel y hy).1.eq (o_H179 _ (hel y hy).2.1)).ch q3 (hel y hy).2.1, trivial⟩
      have hxx : ∀ j, j < xs.length → va_cpy f (fun _ => none) 0 0 10 j = some (xs.getD j 0) := fun j hj => by rw [pk_cpy_in (by omega) (by omega), show 0 + (j - 0) = j by omega]; exact hx j hj
      refine lv_astore (lv' := [(4, .ref H179.size), (3, .int (nI xs.length)), (0, .ref a), (1, .int (nI i)), (2, .ref x)]) cx.x cx.b d_AL_add_36 hl (by decide) rfl (fun ls hl => ?_)
      refine lv_aload cx.x cx.b d_AL_add_38 (lv_at hl 0 rfl) ?_
      refine lv_iload_n cx.x cx.b d_AL_add_40 rfl (lv_at hl 3 rfl) ?_
      refine lv_aload cx.x cx.b d_AL_add_41 (lv_at hl 0 rfl) ?_
      refine lv_iload_n cx.x cx.b d_AL_add_43 rfl (lv_at hl 3 rfl) ?_
      refine lv_iconst (v := 1) cx.x cx.b d_AL_add_44 (by decide) ?_
      refine lv_iadd cx.x cx.b d_AL_add_45 ?_
      refine lv_topi (fun x205 e_x205 => ?_)
      have e_x205 : x205 = nI (i + 1) := e_x205.trans (nI_1 i)
      subst e_x205
      refine lv_iload_n cx.x cx.b d_AL_add_46 rfl (lv_at hl 1 rfl) ?_
      refine lv_iload_n cx.x cx.b d_AL_add_47 rfl (lv_at hl 3 rfl) ?_
      refine lv_isub cx.x cx.b d_AL_add_48 ?_
      refine lv_topi (fun x206 e_x206 => ?_)
      have e_x206 : x206 = nI (xs.length - i) := e_x206.trans (pk_sub hi)
      subst e_x206
      refine hx_acopy cx.x cx.b (cx.ml.trans hl.1.symm) cx.o (cx.ts _ tw_540) (cx.ts _ tw_542) (cx.ts _ tw_541) (cx.ts _ tw_20) cx.K 2 rfl q2 q2 hlo hB9 (nI_pos (by omega)) (nI_pos (by omega)) (nI_pos (by omega)) (by rw [nI_clamp (by omega), nI_clamp (by omega)]; omega) (by rw [nI_clamp (by omega), nI_clamp (by omega)]; omega) (fun j hj y hy => by rw [nI_clamp (by omega)] at hj; rw [nI_clamp (by omega), hxx _ (by omega)] at hy; cases hy; exact (hel9 _ (getD_mem (show i + j < xs.length by omega))).1.any cx.X) (Nat.le_of_ble_eq_true rfl) (Nat.le_of_ble_eq_true rfl) d_AL_add_49 (fun H207 locs ha208 z_H207 o_H207 hlo => ?_)
      rw [nI_clamp (by omega), nI_clamp (by omega), nI_clamp (by omega)] at ha208
      refine lv_aload cx.x cx.b d_AL_add_52 (lv_at hl 0 rfl) ?_
      refine lv_iload_n cx.x cx.b d_AL_add_54 rfl (lv_at hl 3 rfl) ?_
      refine lv_aload_n cx.x cx.b d_AL_add_55 rfl (lv_at hl 4 rfl) ?_
      refine hx_aast cx.x cx.b cx.K 2 ha208 hlo hB9 rfl ((hx9.1.eq (o_H207 _ (hx9.2))).any cx.X) (vp_in_nI (by omega) (by omega)) d_AL_add_56 (fun H209 locs ha210 z_H209 o_H209 hlo => ?_)
      rw [nI_clamp (by omega)] at ha210
      have ho9 := (q1.eq (o_H207 _ (by omega))).eq (o_H209 _ (by omega))
      refine lv_aload_n cx.x cx.b d_AL_add_57 rfl (lv_at hl 2 rfl) ?_
      refine lv_iload_n cx.x cx.b d_AL_add_58 rfl (lv_at hl 1 rfl) ?_
      refine lv_iconst (v := 1) cx.x cx.b d_AL_add_59 (by decide) ?_
      refine lv_iadd cx.x cx.b d_AL_add_60 ?_
      refine lv_topi (fun x211 e_x211 => ?_)
      have e_x211 : x211 = nI (insA xs i x).length := e_x211.trans (by rw [nI_1, hil])
      subst e_x211
      refine pf_AL_48_AL cx ho9 hlo hB (Nat.le_of_ble_eq_true rfl) d_AL_add_61 (fun H212 locs ho213 z_H212 o_H212 hlo => ?_)
      have ho213 : hOb (eD E) classes H212 a 4 [.ref H179.size, .int (nI (insA xs i x).length), .int x178] := ho213
      have hfin : ∀ j, j < (insA xs i x).length → va_up (va_cpy (va_cpy f (fun _ => none) 0 0 10) (va_cpy f (fun _ => none) 0 0 10) i (i + 1) (xs.length - i)) i (some x) j = some ((insA xs i x).getD j 0) := by
        intro j hj
        rw [insA_getD hi]
        by_cases d : j = i
        · rw [d, uq_self, if_neg (by omega), if_pos rfl]
        · rw [uq_ne d]
          by_cases d2 : j < i
          · rw [if_pos d2, pk_cpy_out (Or.inl (by omega))]; exact hxx j (by omega)
          · rw [if_neg d2, if_neg d, pk_cpy_in (by omega) (by omega), show i + (j - (i + 1)) = j - 1 by omega]; exact hxx _ (by omega)
      exact hx_retv cx.x cx.b cx.r cx.k hlo (fun _ h => h) (Nat.le_of_ble_eq_true rfl) (Nat.le_of_ble_eq_true rfl) d_AL_add_64 (⟨H179.size, 15, ⟨⟨_, ho213⟩, hB, by omega, by omega, Or.inr ⟨hB9, by omega, Or.inr rfl, _, ha210.eq (o_H212 _ (by omega)), hfin⟩⟩, Or.inr ⟨by omega, by omega⟩, ⟨by omega, fun q hq hn => by rw [o_H212 q (fun e => hn (Or.inl e)), o_H209 q (by omega), o_H207 q (by omega), q3.2 q (by omega) (fun e => hn (Or.inl e)), o_H179 q (fun e => hn (Or.inl e))]⟩⟩)
