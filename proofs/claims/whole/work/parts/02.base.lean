/-! THE LAYER OF HEAP FACTS. A contract speaks of the heap H0 that it starts with: what it reads is said of H0 in hypotheses, what it leaves is said of the heap H1 behind it. Nothing is cut out or joined: a method that only reads leaves H0 itself. -/
section HXD
/-- an object of class ci with fields fs at a -/
def hOb (D : va_G) (cl : List vw_C) (H : Heap) (a ci : Nat) (fs : List Value) : Prop := va_at D cl (a, .inr (ci, fs)) H
/-- an array of small numbers, of references -/
def hAi (H : Heap) (a : Nat) (cA : ClassId) (n : Nat) (f : Nat → Int32) : Prop := H[a]? = some (vp_cell cA (n, .inl f))
def hAq (H : Heap) (a : Nat) (cA : ClassId) (n : Nat) (f : Nat → Option Nat) : Prop := H[a]? = some (vp_cell cA (n, .inr (.inr (.inr (.inr f)))))
/-- what was written lies at B or behind it -/
def hLo (B : Nat) (locs : List Loc) : Prop := ∀ q ∈ locs, B ≤ q.base
/-- from H to H1 nothing changed but in S, and cells came -/
def hCh (S : Nat → Prop) (H H1 : Heap) : Prop := H.size ≤ H1.size ∧ ∀ q : Nat, q < H.size → ¬ S q → H1[q]? = H[q]?
theorem hCh.rf {S : Nat → Prop} {H : Heap} : hCh S H H := ⟨Nat.le_refl _, fun _ _ _ => rfl⟩
theorem hCh.tr {S : Nat → Prop} {H H1 H2 : Heap} (h : hCh S H H1) (k : hCh S H1 H2) : hCh S H H2 := ⟨Nat.le_trans h.1 k.1, fun q hq hs => (k.2 q (Nat.lt_of_lt_of_le hq h.1) hs).trans (h.2 q hq hs)⟩
theorem hCh.mono {S S' : Nat → Prop} {H H1 : Heap} (h : hCh S H H1) (hs : ∀ q, q < H.size → S q → S' q) : hCh S' H H1 := ⟨h.1, fun q hq hn => h.2 q hq (fun z => hn (hs q hq z))⟩
theorem hCh.put {S : Nat → Prop} {a : Nat} {H H1 : Heap} (z : H1.size = H.size) (o : ∀ q : Nat, q ≠ a → H1[q]? = H[q]?) (ha : S a) : hCh S H H1 := ⟨Nat.le_of_eq z.symm, fun q _ hs => o q (fun e => hs (e ▸ ha))⟩
theorem hCh.new {S : Nat → Prop} {H H1 : Heap} (z : H1.size = H.size + 1) (o : ∀ q : Nat, q < H.size → H1[q]? = H[q]?) : hCh S H H1 := ⟨by omega, fun q hq _ => o q hq⟩
theorem hOb.lt {D : va_G} {cl : List vw_C} {H : Heap} {a ci : Nat} {fs : List Value} (h : hOb D cl H a ci fs) : a < H.size := va_at.lt (q := (a, .inr (ci, fs))) h
theorem hAi.lt {H : Heap} {a : Nat} {cA : ClassId} {n : Nat} {f : Nat → Int32} (h : hAi H a cA n f) : a < H.size := (Array.getElem?_eq_some_iff.mp h).1
theorem hAq.lt {H : Heap} {a : Nat} {cA : ClassId} {n : Nat} {f : Nat → Option Nat} (h : hAq H a cA n f) : a < H.size := (Array.getElem?_eq_some_iff.mp h).1
theorem hOb.eq {D : va_G} {cl : List vw_C} {H H1 : Heap} {a ci : Nat} {fs : List Value} (h : hOb D cl H a ci fs) (hq : H1[a]? = H[a]?) : hOb D cl H1 a ci fs := va_at.kept (q := (a, .inr (ci, fs))) h hq
theorem hAi.eq {H H1 : Heap} {a : Nat} {cA : ClassId} {n : Nat} {f : Nat → Int32} (h : hAi H a cA n f) (hq : H1[a]? = H[a]?) : hAi H1 a cA n f := hq.trans h
theorem hAq.eq {H H1 : Heap} {a : Nat} {cA : ClassId} {n : Nat} {f : Nat → Option Nat} (h : hAq H a cA n f) (hq : H1[a]? = H[a]?) : hAq H1 a cA n f := hq.trans h
theorem hOb.ch {S : Nat → Prop} {D : va_G} {cl : List vw_C} {H H1 : Heap} {a ci : Nat} {fs : List Value} (h : hOb D cl H a ci fs) (k : hCh S H H1) (hs : ¬ S a) : hOb D cl H1 a ci fs := h.eq (k.2 a h.lt hs)
theorem hAi.ch {S : Nat → Prop} {H H1 : Heap} {a : Nat} {cA : ClassId} {n : Nat} {f : Nat → Int32} (h : hAi H a cA n f) (k : hCh S H H1) (hs : ¬ S a) : hAi H1 a cA n f := h.eq (k.2 a h.lt hs)
theorem hAq.ch {S : Nat → Prop} {H H1 : Heap} {a : Nat} {cA : ClassId} {n : Nat} {f : Nat → Option Nat} (h : hAq H a cA n f) (k : hCh S H H1) (hs : ¬ S a) : hAq H1 a cA n f := h.eq (k.2 a h.lt hs)
theorem hLo.nil {B : Nat} : hLo B [] := fun _ h => by cases h
theorem hLo.put {B a i : Nat} {locs : List Loc} (h : hLo B locs) (ha : B ≤ a) : hLo B (locs ++ [⟨a, i⟩]) := fun q hq => by
  rcases List.mem_append.mp hq with h1 | h1
  · exact h q h1
  · rw [List.mem_singleton.mp h1]; exact ha
theorem hLo.app {B : Nat} {locs L : List Loc} (h : hLo B locs) (k : hLo B L) : hLo B (locs ++ L) := fun q hq => by
  rcases List.mem_append.mp hq with h1 | h1
  · exact h q h1
  · exact k q h1
theorem hP1 {D : va_G} {cl : List vw_C} {H : Heap} {q : Nat × va_E} (h : va_at D cl q H) : va_P D cl [q] H := by
  intro k x hk
  cases k with
  | zero => cases hk; exact h
  | succ k => simp at hk
/-- the answers: an int (boolean, char ..), nothing, a reference or null -/
def hQi (P : Int32 → Heap → Prop) : Array Value → State → Outcome → State → Prop := fun _ _ oc t => ∃ r : Int32, oc = .returned (some (.int r)) ∧ P r t.heap
def hQv (P : Heap → Prop) : Array Value → State → Outcome → State → Prop := fun _ _ oc t => oc = .returned none ∧ P t.heap
def hQr (P : Option Nat → Heap → Prop) : Array Value → State → Outcome → State → Prop := fun _ _ oc t => ∃ r : Option Nat, oc = .returned (some (va_rf r)) ∧ P r t.heap
/-- the start of a contract: its arguments, its heap, what is known of the tables -/
def hPc (K : State → Prop) (av : List Value) (H0 : Heap) : Array Value → State → Prop := fun v U => v = av.toArray ∧ U.heap = H0 ∧ K U
/-- what is known of the tables goes on holding -/
def hKeeps (K : State → Prop) : Prop := (∀ s U : State, s.WarmedH U.vm → K s → K U) ∧ ∀ (U : State) (g : JFrame) (mk : MethodId) (a : Array Value), K U → K (U.calling g mk a)
theorem hPc.blind {K : State → Prop} (hk : hKeeps K) {av : List Value} {H0 : Heap} : FrameBlind (hPc K av H0) := fun a U g mk q => ⟨q.1, q.2.1, hk.2 U g mk a q.2.2⟩
end HXD
section HX
variable {p : Program} {l : Launch} {e : Env} {R : Room} {s : State} {m : MethodId} {args : Array Value} {below : List Frame} {meth : Method} {c : Code} {H : Heap} {locs : List Loc} {cells slots : Nat} {Q : State → Prop}
variable {cc : ByteArray} {pc : Nat} {ls : Array Slot} {rest : List Value} {D : va_G} {cl : List vw_C} {a B : Nat} {tys : List (ClassId × FieldType)}
theorem hx_get (hexec : p.tables.exec = Jvm.exec) (hb : c.code = cc) {own ref C : String} {T : u_T} {N ci index : Nat} {Ts : List Cond} (hts : ∀ w ∈ Ts, w.before args s = true) (hin : ∀ w ∈ u_ws C T N, w ∈ Ts) (hown : s.vm.findClass own = some m.cls) (hK : va_K D cl tys s) {fs : List Value} (he : hOb D cl H a ci fs) (hc : cl[ci]? = some (C, T, N)) (k : Nat) (hk : k < N) (hlink : (Cond.fieldLink own index ref (T k).2.1 (T k).2.2.1).before args s = true) (hsame : ∀ x, s.fieldFound? (T k).1 (T k).2.1 (T k).2.2.1 = some x → s.fieldFound? ref (T k).2.1 (T k).2.2.1 = some x) {v : Value} (hv : fs[k]? = some v) (hdg : decode cc pc = .ok (.getfield index, 3))
    (kk : W p l e R s m args below meth c H locs cells slots Q (F0 m (pc + 3) ls (v :: rest))) : W p l e R s m args below meth c H locs cells slots Q (F0 m pc ls (.ref a :: rest)) :=
  va_get hexec hb hts hin hown hK (hP1 he) 0 rfl hc k hk hlink hsame hv hdg kk
theorem hx_getN (hexec : p.tables.exec = Jvm.exec) (hb : c.code = cc) {own ref C host : String} {T : u_T} {N ci index : Nat} {Ts : List Cond} (hts : ∀ w ∈ Ts, w.before args s = true) (hin : ∀ w ∈ u_ws C T N, w ∈ Ts) (hown : s.vm.findClass own = some m.cls) (hK : va_K D cl tys s) {fs : List Value} (he : hOb D cl H a ci fs) (hc : cl[ci]? = some (C, T, N)) (k : Nat) (hk : k < N) (hlink : (Cond.fieldLinkNest own index ref (T k).2.1 (T k).2.2.1 host).before args s = true) (hsame : ∀ x, s.fieldFound? (T k).1 (T k).2.1 (T k).2.2.1 = some x → s.fieldFound? ref (T k).2.1 (T k).2.2.1 = some x) {v : Value} (hv : fs[k]? = some v) (hdg : decode cc pc = .ok (.getfield index, 3))
    (kk : W p l e R s m args below meth c H locs cells slots Q (F0 m (pc + 3) ls (v :: rest))) : W p l e R s m args below meth c H locs cells slots Q (F0 m pc ls (.ref a :: rest)) :=
  va_getN hexec hb hts hin hown hK (hP1 he) 0 rfl hc k hk hlink hsame hv hdg kk
theorem hx_put (hexec : p.tables.exec = Jvm.exec) (hb : c.code = cc) {own ref C : String} {T : u_T} {N ci index : Nat} {Ts : List Cond} (hts : ∀ w ∈ Ts, w.before args s = true) (hin : ∀ w ∈ u_ws C T N, w ∈ Ts) (ty0 : Nat → FieldType) (hty : ∀ k, k < N → parseFieldDescriptor (T k).2.2.1 = some (ty0 k)) (hnm : ∀ a, a < N → ∀ b, b < N → a ≠ b → (T a).2.1 ≠ (T b).2.1) (hown : s.vm.findClass own = some m.cls) (hK : va_K D cl tys s) {fs : List Value} (he : hOb D cl H a ci fs) (hlo : hLo B locs) (hB : B ≤ a) (hc : cl[ci]? = some (C, T, N)) (k : Nat) (hk : k < N) (hlink : (Cond.fieldLink own index ref (T k).2.1 (T k).2.2.1).before args s = true) (hsame : ∀ x, s.fieldFound? (T k).1 (T k).2.1 (T k).2.2.1 = some x → s.fieldFound? ref (T k).2.1 (T k).2.2.1 = some x) (hfin : (T k).2.2.2 = false) {ty : FieldType} {v : Value} (hd : parseFieldDescriptor (T k).2.2.1 = some ty) (hn : narrow ty v = v) (hfit : fits ty v = true) (hl : k < fs.length)
    (hdg : decode cc pc = .ok (.putfield index, 3)) (kk : ∀ (H1 : Heap) (locs1 : List Loc), hOb D cl H1 a ci (fs.set k v) → H1.size = H.size → (∀ q : Nat, q ≠ a → H1[q]? = H[q]?) → hLo B locs1 → W p l e R s m args below meth c H1 locs1 cells slots Q (F0 m (pc + 3) ls rest)) : W p l e R s m args below meth c H locs cells slots Q (F0 m pc ls (v :: .ref a :: rest)) := by
  have hap := va_apart (own := own) hts hin ty0 hty hnm hK hc
  obtain ⟨r, h1, cell, q1, q2, q3, q4⟩ := he
  have hr : r = (C, T, N) := Option.some.inj (h1.symm.trans hc)
  subst hr
  obtain ⟨hS, hfc, kC, hkC, hkind⟩ := hK.1 ci _ hc
  obtain ⟨cf, kf, fi, f, hi, hsl⟩ := hS k hk
  have hlay := hts _ (hin _ (u_in_lay hk))
  unfold u_lay at hlay
  rw [if_neg (by rw [hfin]; decide)] at hlay
  have hst := (u_facts hfc hkC (u_lays hts hin hk) hi).1
  have h6 := u_store hfc hkC hkind hlay hi hd hn hfit
  refine W.putK hexec hb (f := f) ⟨hown, hlink, ⟨_, _, _, hsame _ hi⟩, hst⟩ (by rw [q2]; exact h6) q1 q3 (by rw [hsl]; exact k2_hasslot (q4 k hk)) rfl rfl hdg fun H' e1 e2 e3 => ?_
  rw [hsl] at e1 ⊢
  exact kk H' _ ⟨_, hc, t_OB.to (V := updV (vp_V fs) k v) ⟨_, e1, q2, q3, t_set q4 hap hk v⟩ (fun j _ => vp_updV_set hl v j)⟩ e2 e3 (hlo.put hB)
theorem hx_putN (hexec : p.tables.exec = Jvm.exec) (hb : c.code = cc) {own ref C host : String} {T : u_T} {N ci index : Nat} {Ts : List Cond} (hts : ∀ w ∈ Ts, w.before args s = true) (hin : ∀ w ∈ u_ws C T N, w ∈ Ts) (ty0 : Nat → FieldType) (hty : ∀ k, k < N → parseFieldDescriptor (T k).2.2.1 = some (ty0 k)) (hnm : ∀ a, a < N → ∀ b, b < N → a ≠ b → (T a).2.1 ≠ (T b).2.1) (hown : s.vm.findClass own = some m.cls) (hK : va_K D cl tys s) {fs : List Value} (he : hOb D cl H a ci fs) (hlo : hLo B locs) (hB : B ≤ a) (hc : cl[ci]? = some (C, T, N)) (k : Nat) (hk : k < N) (hlink : (Cond.fieldLinkNest own index ref (T k).2.1 (T k).2.2.1 host).before args s = true) (hsame : ∀ x, s.fieldFound? (T k).1 (T k).2.1 (T k).2.2.1 = some x → s.fieldFound? ref (T k).2.1 (T k).2.2.1 = some x) (hfin : (T k).2.2.2 = false) {ty : FieldType} {v : Value} (hd : parseFieldDescriptor (T k).2.2.1 = some ty) (hn : narrow ty v = v) (hfit : fits ty v = true) (hl : k < fs.length)
    (hdg : decode cc pc = .ok (.putfield index, 3)) (kk : ∀ (H1 : Heap) (locs1 : List Loc), hOb D cl H1 a ci (fs.set k v) → H1.size = H.size → (∀ q : Nat, q ≠ a → H1[q]? = H[q]?) → hLo B locs1 → W p l e R s m args below meth c H1 locs1 cells slots Q (F0 m (pc + 3) ls rest)) : W p l e R s m args below meth c H locs cells slots Q (F0 m pc ls (v :: .ref a :: rest)) := by
  have hap := va_apart (own := own) hts hin ty0 hty hnm hK hc
  obtain ⟨r, h1, cell, q1, q2, q3, q4⟩ := he
  have hr : r = (C, T, N) := Option.some.inj (h1.symm.trans hc)
  subst hr
  obtain ⟨hS, hfc, kC, hkC, hkind⟩ := hK.1 ci _ hc
  obtain ⟨cf, kf, fi, f, hi, hsl⟩ := hS k hk
  have hlay := hts _ (hin _ (u_in_lay hk))
  unfold u_lay at hlay
  rw [if_neg (by rw [hfin]; decide)] at hlay
  have hst := (u_facts hfc hkC (u_lays hts hin hk) hi).1
  have h6 := u_store hfc hkC hkind hlay hi hd hn hfit
  refine va_WputK hexec hb (f := f) hown hlink (hsame _ hi) hst (by rw [q2]; exact h6) q1 q3 (by rw [hsl]; exact k2_hasslot (q4 k hk)) rfl rfl hdg fun H' e1 e2 e3 => ?_
  rw [hsl] at e1 ⊢
  exact kk H' _ ⟨_, hc, t_OB.to (V := updV (vp_V fs) k v) ⟨_, e1, q2, q3, t_set q4 hap hk v⟩ (fun j _ => vp_updV_set hl v j)⟩ e2 e3 (hlo.put hB)
theorem hx_putF (hexec : p.tables.exec = Jvm.exec) (hb : c.code = cc) {own ref C : String} {T : u_T} {N ci index : Nat} {Ts : List Cond} (hts : ∀ w ∈ Ts, w.before args s = true) (hin : ∀ w ∈ u_ws C T N, w ∈ Ts) (ty0 : Nat → FieldType) (hty : ∀ k, k < N → parseFieldDescriptor (T k).2.2.1 = some (ty0 k)) (hnm : ∀ a, a < N → ∀ b, b < N → a ≠ b → (T a).2.1 ≠ (T b).2.1) (hown : s.vm.findClass own = some m.cls) (hK : va_K D cl tys s) {fs : List Value} (he : hOb D cl H a ci fs) (hlo : hLo B locs) (hB : B ≤ a) (hc : cl[ci]? = some (C, T, N)) (k : Nat) (hk : k < N) (hlink : (Cond.fieldLink own index ref (T k).2.1 (T k).2.2.1).before args s = true) (hsame : ∀ x, s.fieldFound? (T k).1 (T k).2.1 (T k).2.2.1 = some x → s.fieldFound? ref (T k).2.1 (T k).2.2.1 = some x) (hfin : (T k).2.2.2 = true) (hin2 : meth.name = "<init>") (hdecl : (T k).1 = own) {ty : FieldType} {v : Value} (hd : parseFieldDescriptor (T k).2.2.1 = some ty) (hn : narrow ty v = v) (hfit : fits ty v = true) (hl : k < fs.length)
    (hdg : decode cc pc = .ok (.putfield index, 3)) (kk : ∀ (H1 : Heap) (locs1 : List Loc), hOb D cl H1 a ci (fs.set k v) → H1.size = H.size → (∀ q : Nat, q ≠ a → H1[q]? = H[q]?) → hLo B locs1 → W p l e R s m args below meth c H1 locs1 cells slots Q (F0 m (pc + 3) ls rest)) : W p l e R s m args below meth c H locs cells slots Q (F0 m pc ls (v :: .ref a :: rest)) := by
  have hap := va_apart (own := own) hts hin ty0 hty hnm hK hc
  obtain ⟨r, h1, cell, q1, q2, q3, q4⟩ := he
  have hr : r = (C, T, N) := Option.some.inj (h1.symm.trans hc)
  subst hr
  obtain ⟨hS, hfc, kC, hkC, hkind⟩ := hK.1 ci _ hc
  obtain ⟨cf, kf, fi, f, hi, hsl⟩ := hS k hk
  have hlay := hts _ (hin _ (u_in_lay hk))
  unfold u_lay at hlay
  rw [if_pos hfin] at hlay
  have hst := (u_facts hfc hkC (u_lays hts hin hk) hi).1
  have hcf : m.cls = cf := by
    obtain ⟨_, _, c', _, _, _, -, -, hf', -, -, -, hown2, -⟩ := Cond.laysFinal_spec hlay
    have e1 : c' = cf := by have := hi.symm.trans hf'; simp at this; exact this.1.symm
    rw [hdecl] at hown2
    rw [← e1]; exact Option.some.inj (hown.symm.trans hown2)
  have h6 := u_fits hfc hkC hkind (Or.inr hlay) hi hd hn hfit
  refine W.putFinK hexec hb hown hlink (hsame _ hi) hst hcf hin2 (by rw [q2]; exact h6) q1 q3 (by rw [hsl]; exact k2_hasslot (q4 k hk)) rfl rfl hdg fun H' e1 e2 e3 => ?_
  rw [hsl] at e1 ⊢
  exact kk H' _ ⟨_, hc, t_OB.to (V := updV (vp_V fs) k v) ⟨_, e1, q2, q3, t_set q4 hap hk v⟩ (fun j _ => vp_updV_set hl v j)⟩ e2 e3 (hlo.put hB)
/-- a new object: its address is the heap's size -/
theorem hx_new (hexec : p.tables.exec = Jvm.exec) (hb : c.code = cc) {own C : String} {T : u_T} {N ci index : Nat} {Ts : List Cond} (hts : ∀ w ∈ Ts, w.before args s = true) (hin : ∀ w ∈ u_ws C T N, w ∈ Ts) (ty : Nat → FieldType) (hty : ∀ k, k < N → parseFieldDescriptor (T k).2.2.1 = some (ty k)) (hown : s.vm.findClass own = some m.cls) (hcl : (Cond.classLink own index C).before args s = true) (hinst : (Cond.instantiable C N).before args s = true) (hini : (Cond.initialized C).before args s = true)
    (hK : va_K D cl tys s) (hc : cl[ci]? = some (C, T, N)) {fs : List Value} (hfs : ∀ j, j < N → defaultValue (ty j) = vp_V fs j) (hcells : cells + 1 ≤ R.cells) (hslots : slots + N ≤ R.slots) (hdg : decode cc pc = .ok (.new index, 3))
    (kk : ∀ H1 : Heap, hOb D cl H1 H.size ci fs → H1.size = H.size + 1 → (∀ q : Nat, q < H.size → H1[q]? = H[q]?) →
      W p l e R s m args below meth c H1 locs (cells + 1) (slots + N) Q (F0 m (pc + 3) ls (.ref H.size :: rest))) : W p l e R s m args below meth c H locs cells slots Q (F0 m pc ls rest) := by
  have hKn := hK.1 ci _ hc
  refine W.newcK hexec hb hown hcl hinst hini rfl hdg hcells hslots hKn.2.1 rfl fun H1 kC hkC e1 z1 o1 => ?_
  exact kk H1 ⟨_, hc, (u_born ty hts hin hKn hkC e1 hty).to hfs⟩ z1 o1
/-- a new array of small numbers -/
theorem hx_newa (hexec : p.tables.exec = Jvm.exec) (hb : c.code = cc) {atype : ArrayType} (harr : (Cond.arrayClass (newarray.typeOf atype)).before args s = true) (hK : va_K D cl tys s) (t0 : Nat) {cA : ClassId} (ht : tys[t0]? = some (cA, newarray.typeOf atype))
    {n : Int32} {N : Nat} {a0 : vp_A} (ha : ∀ cA : ClassId, vp_cell cA a0 = arrV cA N (fun _ => defaultValue (newarray.typeOf atype))) (hn : ¬ n < 0) (hN : n.toNatClampNeg = N) (hbytes : N * componentBytes (newarray.typeOf atype) ≤ 536870912) (hcells : cells + 1 ≤ R.cells) (hslots : slots + N ≤ R.slots) (hdg : decode cc pc = .ok (.newarray atype, 2))
    (kk : ∀ H1 : Heap, H1[H.size]? = some (vp_cell cA a0) → H1.size = H.size + 1 → (∀ q : Nat, q < H.size → H1[q]? = H[q]?) →
      W p l e R s m args below meth c H1 locs (cells + 1) (slots + N) Q (F0 m (pc + 2) ls (.ref H.size :: rest))) : W p l e R s m args below meth c H locs cells slots Q (F0 m pc ls (.int n :: rest)) := by
  refine va_newaK hexec hb harr rfl hdg rfl hn hN hbytes hcells hslots rfl fun H1 cA' e1 z1 o1 hAr hNm => ?_
  have hcA : s.vm.findClass ("[" ++ (newarray.typeOf atype).toString) = some cA := by
    have h2 := (hK.2 t0 _ ht).2
    cases atype <;> exact h2
  have he : cA' = cA := Option.some.inj (hNm.symm.trans hcA)
  subst he
  exact kk H1 (by rw [ha]; exact e1) z1 o1
theorem hx_cald (hexec : p.tables.exec = Jvm.exec) (hb : c.code = cc) (hK : va_K D cl tys s) (t0 : Nat) {cA : ClassId} {n : Nat} {f : Nat → Int32} (ha : hAi H a cA n f) (ht : tys[t0]? = some (cA, .char)) {i : Int32} (hin : vp_in i n) (hdg : decode cc pc = .ok (.caload, 1))
    (kk : W p l e R s m args below meth c H locs cells slots Q (F0 m (pc + 1) ls (.int (f i.toNatClampNeg) :: rest))) : W p l e R s m args below meth c H locs cells slots Q (F0 m pc ls (.int i :: .ref a :: rest)) :=
  va_cald (D := D) (cl := cl) (ws := [(a, .inl (cA, n, .inl f))]) hexec hb hK (hP1 ha) 0 t0 rfl ht hin hdg kk
theorem hx_iald (hexec : p.tables.exec = Jvm.exec) (hb : c.code = cc) (hK : va_K D cl tys s) (t0 : Nat) {cA : ClassId} {n : Nat} {f : Nat → Int32} (ha : hAi H a cA n f) (ht : tys[t0]? = some (cA, .int)) {i : Int32} (hin : vp_in i n) (hdg : decode cc pc = .ok (.iaload, 1))
    (kk : W p l e R s m args below meth c H locs cells slots Q (F0 m (pc + 1) ls (.int (f i.toNatClampNeg) :: rest))) : W p l e R s m args below meth c H locs cells slots Q (F0 m pc ls (.int i :: .ref a :: rest)) :=
  va_iald (D := D) (cl := cl) (ws := [(a, .inl (cA, n, .inl f))]) hexec hb hK (hP1 ha) 0 t0 rfl ht hin hdg kk
theorem hx_aald (hexec : p.tables.exec = Jvm.exec) (hb : c.code = cc) (hK : va_K D cl tys s) (t0 : Nat) {cA : ClassId} {C : String} {n : Nat} {f : Nat → Option Nat} (ha : hAq H a cA n f) (ht : tys[t0]? = some (cA, .object C)) {i : Int32} (hin : vp_in i n) (hdg : decode cc pc = .ok (.aaload, 1))
    (kk : W p l e R s m args below meth c H locs cells slots Q (F0 m (pc + 1) ls (va_rf (f i.toNatClampNeg) :: rest))) : W p l e R s m args below meth c H locs cells slots Q (F0 m pc ls (.int i :: .ref a :: rest)) :=
  va_aldq (D := D) (cl := cl) (ws := [(a, .inl (cA, n, .inr (.inr (.inr (.inr f)))))]) hexec hb hK (hP1 ha) 0 t0 rfl ht hin hdg kk
theorem hx_alen (hexec : p.tables.exec = Jvm.exec) (hb : c.code = cc) (hK : va_K D cl tys s) (t0 : Nat) {cA : ClassId} {x : vp_A} (ha : H[a]? = some (vp_cell cA x)) {ty : FieldType} (ht : tys[t0]? = some (cA, ty)) {v : Int32} (hv : nI x.1 = v) (hdg : decode cc pc = .ok (.arraylength, 1))
    (kk : W p l e R s m args below meth c H locs cells slots Q (F0 m (pc + 1) ls (.int v :: rest))) : W p l e R s m args below meth c H locs cells slots Q (F0 m pc ls (.ref a :: rest)) :=
  va_alen (D := D) (cl := cl) (ws := [(a, .inl (cA, x))]) hexec hb hK (hP1 ha) 0 t0 rfl ht hv hdg kk
theorem hx_cast (hexec : p.tables.exec = Jvm.exec) (hb : c.code = cc) (hK : va_K D cl tys s) (t0 : Nat) {cA : ClassId} {n : Nat} {f : Nat → Int32} (ha : hAi H a cA n f) (hlo : hLo B locs) (hB : B ≤ a) (ht : tys[t0]? = some (cA, .char)) {i : Int32} {x : Int32} (hin : vp_in i n) (hdg : decode cc pc = .ok (.castore, 1))
    (kk : ∀ (H1 : Heap) (locs1 : List Loc), hAi H1 a cA n (upd f i.toNatClampNeg (vp_nar .char x)) → H1.size = H.size → (∀ q : Nat, q ≠ a → H1[q]? = H[q]?) → hLo B locs1 → W p l e R s m args below meth c H1 locs1 cells slots Q (F0 m (pc + 1) ls rest)) : W p l e R s m args below meth c H locs cells slots Q (F0 m pc ls (.int x :: .int i :: .ref a :: rest)) := by
  refine W.cast hexec hb ha ((hK.2 t0 _ ht).1 n (fun j => .int (f j))) (fun q => by cases q) (by show ¬ (i < 0 ∨ (arrV _ _ _).slots.size ≤ _); rw [arrV_size]; exact hin) rfl rfl hdg fun H1 e z oq => ?_
  refine kk H1 _ ?_ z oq (hlo.put hB)
  show H1[a]? = some (vp_cell _ _)
  rw [e]
  rw [vp_cell_i, vp_cell_i, arrV_store]
  congr 2
  funext q
  by_cases hq : q = i.toNatClampNeg
  · subst hq
    simp [updV, upd, vp_nar]
    try rfl
  · simp [updV, upd, hq]
theorem hx_iast (hexec : p.tables.exec = Jvm.exec) (hb : c.code = cc) (hK : va_K D cl tys s) (t0 : Nat) {cA : ClassId} {n : Nat} {f : Nat → Int32} (ha : hAi H a cA n f) (hlo : hLo B locs) (hB : B ≤ a) (ht : tys[t0]? = some (cA, .int)) {i : Int32} {x : Int32} (hin : vp_in i n) (hdg : decode cc pc = .ok (.iastore, 1))
    (kk : ∀ (H1 : Heap) (locs1 : List Loc), hAi H1 a cA n (upd f i.toNatClampNeg x) → H1.size = H.size → (∀ q : Nat, q ≠ a → H1[q]? = H[q]?) → hLo B locs1 → W p l e R s m args below meth c H1 locs1 cells slots Q (F0 m (pc + 1) ls rest)) : W p l e R s m args below meth c H locs cells slots Q (F0 m pc ls (.int x :: .int i :: .ref a :: rest)) := by
  refine W.iast hexec hb ha ((hK.2 t0 _ ht).1 n (fun j => .int (f j))) (fun q => by cases q) (by show ¬ (i < 0 ∨ (arrV _ _ _).slots.size ≤ _); rw [arrV_size]; exact hin) rfl rfl hdg fun H1 e z oq => ?_
  refine kk H1 _ ?_ z oq (hlo.put hB)
  show H1[a]? = some (vp_cell _ _)
  rw [e]
  rw [vp_cell_i, vp_cell_i, arrV_store]
  congr 2
  funext q
  by_cases hq : q = i.toNatClampNeg
  · subst hq
    simp [updV, upd]
  · simp [updV, upd, hq]
/-- returns -/
theorem hx_reti {P : Int32 → Heap → Prop} {free : Addr → Prop} {v : Int32} {ty : FieldType} {mc ms : Nat} (hexec : p.tables.exec = Jvm.exec) (hb : c.code = cc) (hr : meth.sig.returnType = some ty) (hlocks : meth.locks = false) (hn : narrow ty (.int v) = .int v) (hlo : hLo B locs) (hfr : ∀ q, B ≤ q → free q) (hc : cells ≤ mc) (hs : slots ≤ ms) (hdg : decode cc pc = .ok (.ireturn, 1)) (hP : P v H) :
    W p l e R s m args below meth c H locs cells slots (MQ below (hQi P) args s mc ms free) (F0 m pc ls [.int v]) := by
  refine W.widen (k := mc) (n := ms) hc hs ?_
  exact W.zret hexec hb hr hn (fun t ht _ => ⟨v, rfl, by rw [ht]; exact hP⟩) (fun q hq => hfr _ (hlo q hq)) hdg hlocks
theorem hx_retv {P : Heap → Prop} {free : Addr → Prop} {mc ms : Nat} (hexec : p.tables.exec = Jvm.exec) (hb : c.code = cc) (hr : meth.sig.returnType = none) (hlocks : meth.locks = false) (hlo : hLo B locs) (hfr : ∀ q, B ≤ q → free q) (hc : cells ≤ mc) (hs : slots ≤ ms) (hdg : decode cc pc = .ok (.return_, 1)) (hP : P H) :
    W p l e R s m args below meth c H locs cells slots (MQ below (hQv P) args s mc ms free) (F0 m pc ls []) := by
  refine W.widen (k := mc) (n := ms) hc hs ?_
  exact W.vret hexec hb hr (fun t ht _ => ⟨rfl, by rw [ht]; exact hP⟩) (fun q hq => hfr _ (hlo q hq)) hdg hlocks
theorem hx_reta {P : Option Nat → Heap → Prop} {free : Addr → Prop} {v : Option Nat} {rt : FieldType} {mc ms : Nat} (hexec : p.tables.exec = Jvm.exec) (hb : c.code = cc) (hr : meth.sig.returnType = some rt) (hlocks : meth.locks = false) (hrt : (∃ n, rt = .object n) ∨ ∃ t, rt = .array t) (hlo : hLo B locs) (hfr : ∀ q, B ≤ q → free q) (hc : cells ≤ mc) (hs : slots ≤ ms) (hdg : decode cc pc = .ok (.areturn, 1)) (hP : P v H) :
    W p l e R s m args below meth c H locs cells slots (MQ below (hQr P) args s mc ms free) (F0 m pc ls [va_rf v]) := by
  refine W.widen (k := mc) (n := ms) hc hs ?_
  exact W.aret hexec hb hr hrt (by cases v with | none => exact Or.inl rfl | some x => exact Or.inr ⟨x, rfl⟩) (fun t ht _ => ⟨v, rfl, by rw [ht]; exact hP⟩) (fun q hq => hfr _ (hlo q hq)) hdg hlocks
-- calls: what came back goes on
variable {st0 : List Value} {aa : Array Value} {mc ms : Nat} {free : Addr → Prop}
theorem hx_calli {P : Int32 → Heap → Prop} (hr : va_Run p l e R s m args below meth c H locs cells slots mc ms (F0 m pc ls st0) rest (hQi P aa) free) (hlo : hLo B locs) (hfr : ∀ q, free q → B ≤ q)
    (kk : ∀ (r : Int32) (H1 : Heap) (locs1 : List Loc), P r H1 → hLo B locs1 → W p l e R s m args below meth c H1 locs1 (cells + mc) (slots + ms) Q (F0 m (pc + 3) ls (.int r :: rest))) : W p l e R s m args below meth c H locs cells slots Q (F0 m pc ls st0) := by
  intro T hT X
  obtain ⟨v, st₀, t, T', L, h0, X', hL, e1, e2, ⟨r, hv, hp⟩, st⟩ := hr T hT X
  cases hv
  obtain ⟨t2, a1, b1⟩ := kk r T'.heap (locs ++ L) (by rw [e1]; exact hp) (hlo.app (fun q hq => hfr _ (hL q hq))) T' rfl X'
  exact ⟨t2, st t2 a1, b1⟩
theorem hx_callv {P : Heap → Prop} (hr : va_Run p l e R s m args below meth c H locs cells slots mc ms (F0 m pc ls st0) rest (hQv P aa) free) (hlo : hLo B locs) (hfr : ∀ q, free q → B ≤ q)
    (kk : ∀ (H1 : Heap) (locs1 : List Loc), P H1 → hLo B locs1 → W p l e R s m args below meth c H1 locs1 (cells + mc) (slots + ms) Q (F0 m (pc + 3) ls rest)) : W p l e R s m args below meth c H locs cells slots Q (F0 m pc ls st0) := by
  intro T hT X
  obtain ⟨v, st₀, t, T', L, h0, X', hL, e1, e2, ⟨hv, hp⟩, st⟩ := hr T hT X
  cases hv
  obtain ⟨t2, a1, b1⟩ := kk T'.heap (locs ++ L) (by rw [e1]; exact hp) (hlo.app (fun q hq => hfr _ (hL q hq))) T' rfl X'
  exact ⟨t2, st t2 a1, b1⟩
theorem hx_callr {P : Option Nat → Heap → Prop} (hr : va_Run p l e R s m args below meth c H locs cells slots mc ms (F0 m pc ls st0) rest (hQr P aa) free) (hlo : hLo B locs) (hfr : ∀ q, free q → B ≤ q)
    (kk : ∀ (r : Option Nat) (H1 : Heap) (locs1 : List Loc), P r H1 → hLo B locs1 → W p l e R s m args below meth c H1 locs1 (cells + mc) (slots + ms) Q (F0 m (pc + 3) ls (va_rf r :: rest))) : W p l e R s m args below meth c H locs cells slots Q (F0 m pc ls st0) := by
  intro T hT X
  obtain ⟨v, st₀, t, T', L, h0, X', hL, e1, e2, ⟨r, hv, hp⟩, st⟩ := hr T hT X
  cases hv
  obtain ⟨t2, a1, b1⟩ := kk r T'.heap (locs ++ L) (by rw [e1]; exact hp) (hlo.app (fun q hq => hfr _ (hL q hq))) T' rfl X'
  exact ⟨t2, st t2 a1, b1⟩
end HX
def nwN : List (String × Nat × MethodName × String) := [("BaselineText", 23, y_Dg_init, "BaselineText"), ("BaselineText", 30, y_Bl_init, "BaselineText"), ("BaselineText$Reader", 11, y_Dc_init, "BaselineText"), ("BaselineText$Type", 3, y_Dc_init, "BaselineText"), ("BaselineText$Baseline", 51, y_Tp_init, "BaselineText")]
def nwC : List (String × String) := [("BaselineText$Declaration", "BaselineText$Declaration"), ("BaselineText$Type", "BaselineText$Declaration"), ("BaselineText$Type", "BaselineText$Type"), ("BaselineText", "java/lang/Object"), ("BaselineText$Row", "java/lang/Object"), ("BaselineText$Diagnostics", "java/lang/Object"), ("BaselineText$Baseline", "java/lang/Object"), ("BaselineText$Shelf", "java/lang/Object"), ("BaselineTextModel", "java/lang/Object"), ("BaselineText$Reader", "java/lang/Object"), ("BaselineText$Declaration", "java/lang/Object"), ("BaselineText$Line", "java/lang/Object"), ("BaselineText$Type", "java/lang/Object"), ("java/lang/String", "java/lang/Object")]
def nwD : List MethodName := [⟨"BaselineText$Declaration", "copy", "(LBaselineText$Declaration;)V"⟩, ⟨"BaselineText$Declaration", "addLine", "(LBaselineText$Row;ZI)V"⟩, ⟨"BaselineText$Declaration", "isSame", "(LBaselineText$Declaration;)Z"⟩, ⟨"java/lang/Object", "getClass", "()Ljava/lang/Class;"⟩]
def nwS : List (String × Nat × String × Nat) := [("BaselineText$Reader", 83, "#sig", 0), ("BaselineText$Reader", 92, "1", 1), ("BaselineText$Reader", 94, "2", 2), ("BaselineText$Vocabulary", 24, "public", 3), ("BaselineText$Vocabulary", 30, "protected", 4), ("BaselineText$Vocabulary", 32, "static", 5), ("BaselineText$Vocabulary", 28, "final", 6), ("BaselineText$Vocabulary", 26, "abstract", 7), ("BaselineText$Vocabulary", 42, "method", 8), ("BaselineText$Vocabulary", 44, "field", 9), ("BaselineText$Vocabulary", 34, "class", 10), ("BaselineText$Vocabulary", 36, "interface", 11), ("BaselineText$Vocabulary", 38, "enum", 12), ("BaselineText$Vocabulary", 40, "record", 13), ("BaselineText$Grammar", 9, "<init>", 14), ("BaselineText$Baseline", 62, "#sig ", 15), ("BaselineText$Declaration", 45, "  ", 16)]
/-! THE ENVIRONMENT: what the law's start gives and no call changes. E = (the heap at the law's start, the classes' numbers and slots, the array classes, the addresses of the String constants and of their bytes, what else is known of the tables) -/
abbrev hE : Type := Heap × va_G × (Nat → ClassId) × (Nat → Nat) × (Nat → Nat) × (State → Prop)
abbrev eH (E : hE) : Heap := E.1
abbrev eB (E : hE) : Nat := E.1.size
abbrev eD (E : hE) : va_G := E.2.1
abbrev eA (E : hE) : Nat → ClassId := E.2.2.1
abbrev eK (E : hE) : Nat → Nat := E.2.2.2.1
abbrev eV (E : hE) : Nat → Nat := E.2.2.2.2.1
abbrev eP (E : hE) : State → Prop := E.2.2.2.2.2
abbrev eT (E : hE) : List (ClassId × FieldType) := [(eA E 0, .int), (eA E 1, .char), (eA E 2, .object "java/lang/Object")]
/-- what is known of the tables in every state -/
def KX (E : hE) (s : State) : Prop := va_K (eD E) classes (eT E) s ∧ (∀ w ∈ nwN, va_Nw (.methodLinkNest w.1 w.2.1 w.2.2.1 w.2.2.2) s) ∧ (∀ w ∈ nwC, va_Nw (.castable w.1 w.2) s) ∧ (∀ w ∈ nwD, va_Nw (.declares w) s) ∧ va_AO "java/lang/Object" s ∧ (∀ w ∈ nwS, vk_R w.1 w.2.1 w.2.2.1 (eK E w.2.2.2) s) ∧ eP E s
/-- the part of it that is not looked into here goes on holding -/
def EnvOk (E : hE) : Prop := hKeeps (eP E)
/-- the law's start is as it was -/
def Old (E : hE) (H : Heap) : Prop := eB E ≤ H.size ∧ ∀ q : Nat, q < eB E → H[q]? = (eH E)[q]?
theorem Old.ch {E : hE} {S : Nat → Prop} {H H1 : Heap} (h : Old E H) (k : hCh S H H1) (hs : ∀ q, S q → eB E ≤ q) : Old E H1 := ⟨Nat.le_trans h.1 k.1, fun q hq => (k.2 q (Nat.lt_of_lt_of_le hq h.1) (fun z => absurd (hs q z) (by omega))).trans (h.2 q hq)⟩
theorem KX.keeps {E : hE} (hE : EnvOk E) : hKeeps (KX E) := by
  refine ⟨fun s U hW h => ?_, fun U g mk a h => ?_⟩
  · obtain ⟨h1, h2, h3, h4, h5, h6, h7⟩ := h
    exact ⟨va_K.moved hW.alike h1, fun w hw => va_Nw.warmM hW (h2 w hw), fun w hw => va_Nw.warmC hW (h3 w hw), fun w hw => va_Nw.warmD hW (h4 w hw), va_AO.moved hW.alike h5, fun w hw => vk_R.warm hW (h6 w hw), hE.1 s U hW h7⟩
  · obtain ⟨h1, h2, h3, h4, h5, h6, h7⟩ := h
    exact ⟨va_K.moved (u := U) (U := U.calling g mk a) (Vm.Alike.refl U.vm) h1, fun w hw => va_Nw.same rfl rfl (h2 w hw), fun w hw => va_Nw.same rfl rfl (h3 w hw), fun w hw => va_Nw.same rfl rfl (h4 w hw), va_AO.moved (u := U) (U := U.calling g mk a) (Vm.Alike.refl U.vm) h5, fun w hw => vk_R.same rfl (h6 w hw), hE.2 U g mk a h7⟩
/-- where a walk stands: the machine, the code, its class, the tables' words, its answer's type, the environment -/
def Cx (E : hE) (p : Program) (s : State) (m : MethodId) (args : Array Value) (meth : Method) (c : Code) (own : String) (cc : ByteArray) (nL : Nat) (ret : Option FieldType) : Prop :=
  (p.tables.exec = Jvm.exec ∧ c.code = cc ∧ c.maxLocals = nL ∧ s.vm.findClass own = some m.cls ∧ ∀ w ∈ tg, w.before args s = true) ∧ meth.sig.returnType = ret ∧ meth.locks = false ∧ KX E s ∧ EnvOk E
section CXP
variable {E : hE} {p : Program} {s : State} {m : MethodId} {args : Array Value} {meth : Method} {c : Code} {own : String} {cc : ByteArray} {nL : Nat} {ret : Option FieldType}
theorem Cx.x (h : Cx E p s m args meth c own cc nL ret) : p.tables.exec = Jvm.exec := h.1.1
theorem Cx.b (h : Cx E p s m args meth c own cc nL ret) : c.code = cc := h.1.2.1
theorem Cx.ml (h : Cx E p s m args meth c own cc nL ret) : c.maxLocals = nL := h.1.2.2.1
theorem Cx.o (h : Cx E p s m args meth c own cc nL ret) : s.vm.findClass own = some m.cls := h.1.2.2.2.1
theorem Cx.ts (h : Cx E p s m args meth c own cc nL ret) : ∀ w ∈ tg, w.before args s = true := h.1.2.2.2.2
theorem Cx.r (h : Cx E p s m args meth c own cc nL ret) : meth.sig.returnType = ret := h.2.1
theorem Cx.k (h : Cx E p s m args meth c own cc nL ret) : meth.locks = false := h.2.2.1
theorem Cx.K (h : Cx E p s m args meth c own cc nL ret) : va_K (eD E) classes (eT E) s := h.2.2.2.1.1
theorem Cx.X (h : Cx E p s m args meth c own cc nL ret) : KX E s := h.2.2.2.1
theorem Cx.e (h : Cx E p s m args meth c own cc nL ret) : EnvOk E := h.2.2.2.2
end CXP
/-- a contract: heap H0, arguments av, what the end says -/
abbrev Ct (l : Launch) (E : hE) (y : MethodName) (cc : ByteArray) (n : Nat) (ret : Option FieldType) (rm : Room) (av : List Value) (H0 : Heap) (Qc : Array Value → State → Outcome → State → Prop) : Prop :=
  Met l y (.code y cc n ret :: tg) rm (hPc (KX E) av H0) Qc rm.cells rm.slots (fun q => eB E ≤ q)
theorem tg_in {y : MethodName} {b : ByteArray} {n : Nat} {r : Option FieldType} (h : Cond.code y b n r ∈ tg) : GoodIn tg (.code y b n r :: tg) := fun w hw => by
  rcases List.mem_cons.mp hw with e | e
  · rw [e]; exact ⟨h, good_of_word (tg_good h)⟩
  · exact ⟨e, good_of_word (tg_good e)⟩
theorem hx_enter {l : Launch} {E : hE} {y : MethodName} {cc : ByteArray} {n : Nat} {ret : Option FieldType} {rm : Room} {av : List Value} {H0 : Heap} {Qc : Array Value → State → Outcome → State → Prop} (hE : EnvOk E) (hy : plainName y.cls = true) (hn : (lg_sl av).length ≤ n)
    (body : ∀ (p : Program) (e : Env) (s : State) (m : MethodId) (args : Array Value) (below : List Frame) (meth : Method) (c : Code) (ls : Array Slot), Cx E p s m args meth c y.cls cc n ret → meth.name = y.name → lv_has ls n (lv_args 0 av) → W p l e rm s m args below meth c H0 [] 0 0 (MQ below Qc args s rm.cells rm.slots (fun q => eB E ≤ q)) (F0 m 0 ls [])) : Ct l E y cc n ret rm av H0 Qc := by
  refine Met.ofW (cc := cc) (maxL := n) (ret := ret) hy rfl ?_
  intro p e s m args below meth c s₁ B hml hv
  obtain ⟨hav, hH, hK⟩ := hv
  have hts := atoms_spec (ws := .code y cc n ret :: tg) B.pre
  have hl := lv_entry av hn
  rw [hH]
  have hb := body p e s m args below meth c _ ⟨⟨B.exec, B.bytes, hml, findClass_of_methodNamed B.named, fun w hw => hts w (List.mem_cons_of_mem _ hw)⟩, B.returns, B.notSynchronized, hK, hE⟩ (name_of_methodNamed B.named B.method).1 hl
  rw [hav]
  rw [hav] at hb
  rw [lg_entry_eq]
  exact hb
section RN
variable {E : hE} {p : Program} {l : Launch} {e : Env} {R : Room} {s : State} {m : MethodId} {args : Array Value} {below : List Frame} {meth : Method} {c : Code} {H : Heap} {locs : List Loc} {cells slots : Nat}
variable {y : MethodName} {bytes cc : ByteArray} {maxL nL n index : Nat} {ret retY : Option FieldType} {rm : Room} {Qc : Array Value → State → Outcome → State → Prop} {own C : String} {b : Addr} {As rest : List Value} {st0 : List Value} {pc : Nat} {ls : Array Slot} {T : u_T} {N ci : Nat} {fs : List Value}
theorem hOb.recv {D : va_G} {tys : List (ClassId × FieldType)} (hK : va_K D classes tys s) (h : hOb D classes H b ci fs) (hc : classes[ci]? = some (C, T, N)) : ∃ cell : Cell, H[b]? = some cell ∧ cell.vm.isStatics = false ∧ s.vm.findClass C = some cell.cls := va_recv hK (hP1 h) hc (q0 := 0) rfl
/-- invokevirtual -/
theorem rn_V (hcode : Cond.code y bytes maxL retY ∈ tg) (hlink : Cond.methodLink own index y ∈ tg) (hinst : Cond.instanceMethod y ∈ tg) (hsel : Cond.selects C y y ∈ tg) (hini : Cond.initialized y.cls ∈ tg) (hd : y.cls ≠ "java/lang/invoke/MethodHandle" ∧ y.cls ≠ "java/lang/invoke/VarHandle" ∧ (parseMethodDescriptor y.desc).map (fun d => d.parameters.length) = some n) 
    (cx : Cx E p s m args meth c own cc nL ret) (hM : Ct l E y bytes maxL retY rm (.ref b :: As) H Qc) (hrecv : ∃ cell : Cell, H[b]? = some cell ∧ cell.vm.isStatics = false ∧ s.vm.findClass C = some cell.cls) (hn : As.length = n) (hsize : ls.size = nL) (hst : st0 = As.reverse ++ .ref b :: rest) (hW : (rest.map fun v => v.category).sum ≤ 8) (hdg : decode cc pc = .ok (.invokevirtual index, 3)) (hR : rm.frames + 1 ≤ R.frames ∧ 8 + (maxL + 11) + rm.locals ≤ R.locals) (hf : cells + rm.cells ≤ R.cells ∧ slots + rm.slots ≤ R.slots) :
    va_Run p l e R s m args below meth c H locs cells slots rm.cells rm.slots (F0 m pc ls st0) rest (Qc (Value.ref b :: As).toArray) (fun q => eB E ≤ q) :=
  va_runV (Ts := tg) (nL := nL) cx.1 hM ⟨callB_of n cx.ts (tg_in hcode) rfl rfl rfl (cx.ts _ hini) (cx.ts _ hlink) hd hR, cx.ts _ hinst, cx.ts _ hsel⟩ ⟨hPc.blind (KX.keeps cx.e), hrecv, fun U hU hW => ⟨rfl, hU, (KX.keeps cx.e).1 s U hW cx.X⟩⟩ rfl hn hsize hst (by show 2 * 0 + _ ≤ 8; omega) hdg hf
/-- invokestatic -/
theorem rn_S (hcode : Cond.code y bytes maxL retY ∈ tg) (hlink : Cond.methodLink own index y ∈ tg) (hstat : Cond.static y ∈ tg) (hini : Cond.initialized y.cls ∈ tg) (hd : y.cls ≠ "java/lang/invoke/MethodHandle" ∧ y.cls ≠ "java/lang/invoke/VarHandle" ∧ (parseMethodDescriptor y.desc).map (fun d => d.parameters.length) = some n)
    (cx : Cx E p s m args meth c own cc nL ret) (hM : Ct l E y bytes maxL retY rm As H Qc) (hn : As.length = n) (hsize : ls.size = nL) (hst : st0 = As.reverse ++ rest) (hW : (rest.map fun v => v.category).sum ≤ 8) (hdg : decode cc pc = .ok (.invokestatic index, 3)) (hR : rm.frames + 1 ≤ R.frames ∧ 8 + (maxL + 11) + rm.locals ≤ R.locals) (hf : cells + rm.cells ≤ R.cells ∧ slots + rm.slots ≤ R.slots) :
    va_Run p l e R s m args below meth c H locs cells slots rm.cells rm.slots (F0 m pc ls st0) rest (Qc As.toArray) (fun q => eB E ≤ q) :=
  va_runS (Ts := tg) (nL := nL) cx.1 hM ⟨callB_of n cx.ts (tg_in hcode) rfl rfl rfl (cx.ts _ hini) (cx.ts _ hlink) hd hR, cx.ts _ hstat⟩ ⟨hPc.blind (KX.keeps cx.e), fun U hU hW => ⟨rfl, hU, (KX.keeps cx.e).1 s U hW cx.X⟩⟩ rfl hn hsize hst (by show 2 * 0 + _ ≤ 8; omega) hdg hf
/-- invokespecial of a constructor -/
theorem rn_I (hcode : Cond.code y bytes maxL none ∈ tg) (hlink : Cond.methodLink own index y ∈ tg) (hinst : Cond.instanceMethod y ∈ tg) (hini : Cond.initialized y.cls ∈ tg) (hy1 : y.name = "<init>") (hd : y.cls ≠ "java/lang/invoke/MethodHandle" ∧ y.cls ≠ "java/lang/invoke/VarHandle" ∧ (parseMethodDescriptor y.desc).map (fun d => d.parameters.length) = some n)
    (cx : Cx E p s m args meth c own cc nL ret) (hM : Ct l E y bytes maxL none rm (.ref b :: As) H Qc) (hn : As.length = n) (hsize : ls.size = nL) (hst : st0 = As.reverse ++ .ref b :: rest) (hW : (rest.map fun v => v.category).sum ≤ 8) (hdg : decode cc pc = .ok (.invokespecial index, 3)) (hR : rm.frames + 1 ≤ R.frames ∧ 8 + (maxL + 11) + rm.locals ≤ R.locals) (hf : cells + rm.cells ≤ R.cells ∧ slots + rm.slots ≤ R.slots) :
    va_Run p l e R s m args below meth c H locs cells slots rm.cells rm.slots (F0 m pc ls st0) rest (Qc (Value.ref b :: As).toArray) (fun q => eB E ≤ q) :=
  va_runI (Ts := tg) (nL := nL) cx.1 hM ⟨callB_of n cx.ts (tg_in hcode) rfl rfl rfl (cx.ts _ hini) (cx.ts _ hlink) hd hR, hy1, cx.ts _ hinst⟩ ⟨hPc.blind (KX.keeps cx.e), fun U hU hW => ⟨rfl, hU, (KX.keeps cx.e).1 s U hW cx.X⟩⟩ rfl hn hsize hst (by show 2 * 0 + _ ≤ 8; omega) hdg hf
/-- a nest mate's private constructor -/
theorem rn_IN {host : String} (hcode : Cond.code y bytes maxL none ∈ tg) (hlink : (own, index, y, host) ∈ nwN) (hinst : Cond.instanceMethod y ∈ tg) (hini : Cond.initialized y.cls ∈ tg) (hy1 : y.name = "<init>") (hd : y.cls ≠ "java/lang/invoke/MethodHandle" ∧ y.cls ≠ "java/lang/invoke/VarHandle" ∧ (parseMethodDescriptor y.desc).map (fun d => d.parameters.length) = some n)
    (cx : Cx E p s m args meth c own cc nL ret) (hM : Ct l E y bytes maxL none rm (.ref b :: As) H Qc) (hn : As.length = n) (hsize : ls.size = nL) (hst : st0 = As.reverse ++ .ref b :: rest) (hW : (rest.map fun v => v.category).sum ≤ 8) (hdg : decode cc pc = .ok (.invokespecial index, 3)) (hR : rm.frames + 1 ≤ R.frames ∧ 8 + (maxL + 11) + rm.locals ≤ R.locals) (hf : cells + rm.cells ≤ R.cells ∧ slots + rm.slots ≤ R.slots) :
    va_Run p l e R s m args below meth c H locs cells slots rm.cells rm.slots (F0 m pc ls st0) rest (Qc (Value.ref b :: As).toArray) (fun q => eB E ≤ q) :=
  va_runIN (Ts := tg) (nL := nL) cx.1 hM ⟨va_cnB n cx.ts (tg_in hcode) rfl rfl rfl (cx.X.2.1 _ hlink) (cx.ts _ hini) hd hR, hy1, cx.ts _ hinst⟩ ⟨hPc.blind (KX.keeps cx.e), fun U hU hW => ⟨rfl, hU, (KX.keeps cx.e).1 s U hW cx.X⟩⟩ rfl hn hsize hst (by show 2 * 0 + _ ≤ 8; omega) hdg hf
/-- invokevirtual of an inherited method -/
theorem rn_U {x : MethodName} {owner : String} (hcode : Cond.code y bytes maxL retY ∈ tg) (hlink : Cond.methodLink own index x ∈ tg) (hsame : Cond.sameMethod x.cls owner x.name x.desc ∈ tg) (hinst : Cond.instanceMethod y ∈ tg) (hsel : Cond.selects C x y ∈ tg) (hini : Cond.initialized y.cls ∈ tg) (hyx : y = ⟨owner, x.name, x.desc⟩) (hd : owner ≠ "java/lang/invoke/MethodHandle" ∧ owner ≠ "java/lang/invoke/VarHandle" ∧ (parseMethodDescriptor x.desc).map (fun d => d.parameters.length) = some n) 
    (cx : Cx E p s m args meth c own cc nL ret) (hM : Ct l E y bytes maxL retY rm (.ref b :: As) H Qc) (hrecv : ∃ cell : Cell, H[b]? = some cell ∧ cell.vm.isStatics = false ∧ s.vm.findClass C = some cell.cls) (hn : As.length = n) (hsize : ls.size = nL) (hst : st0 = As.reverse ++ .ref b :: rest) (hW : (rest.map fun v => v.category).sum ≤ 8) (hdg : decode cc pc = .ok (.invokevirtual index, 3)) (hR : rm.frames + 1 ≤ R.frames ∧ 8 + (maxL + 11) + rm.locals ≤ R.locals) (hf : cells + rm.cells ≤ R.cells ∧ slots + rm.slots ≤ R.slots) :
    va_Run p l e R s m args below meth c H locs cells slots rm.cells rm.slots (F0 m pc ls st0) rest (Qc (Value.ref b :: As).toArray) (fun q => eB E ≤ q) := by
  refine va_runU (Ts := tg) (nL := nL) (x := x) (y := y) (owner := owner) (C := C) (maxL := maxL) (bytes := bytes) (ret := retY) cx.1 hM (va_cwU n cx.ts (fun w hw => ?_) rfl rfl rfl hyx hd hR) ⟨hPc.blind (KX.keeps cx.e), hrecv, fun U hU hW => ⟨rfl, hU, (KX.keeps cx.e).1 s U hW cx.X⟩⟩ rfl hn hsize hst (by show 2 * 0 + _ ≤ 8; omega) hdg hf
  rcases List.mem_append.mp hw with h | h
  · have h5 : w = .methodLink own index x ∨ w = .sameMethod x.cls owner x.name x.desc ∨ w = .selects C x y ∨ w = .instanceMethod y ∨ w = .initialized y.cls := by simpa using h
    rcases h5 with e | e | e | e | e
    · rw [e]; exact ⟨hlink, good_of_word (tg_good hlink)⟩
    · rw [e]; exact ⟨hsame, good_of_word (tg_good hsame)⟩
    · rw [e]; exact ⟨hsel, good_of_word (tg_good hsel)⟩
    · rw [e]; exact ⟨hinst, good_of_word (tg_good hinst)⟩
    · rw [e]; exact ⟨hini, good_of_word (tg_good hini)⟩
  · exact tg_in hcode w h
end RN
