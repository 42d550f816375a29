/-! THE MODEL -/
def hQl (P : Int64 → Heap → Prop) : Array Value → State → Outcome → State → Prop := fun _ _ oc t => ∃ r : Int64, oc = .returned (some (.long r)) ∧ P r t.heap
section HXL
variable {p : Program} {l : Launch} {e : Env} {R : Room} {s : State} {m : MethodId} {args : Array Value} {below : List Frame} {meth : Method} {c : Code} {H : Heap} {locs : List Loc} {cells slots : Nat} {Q : State → Prop}
variable {cc : ByteArray} {pc : Nat} {ls : Array Slot} {rest : List Value} {B : Nat} {st0 : List Value} {aa : Array Value} {mc ms : Nat} {free : Addr → Prop}
theorem hx_retl {P : Int64 → Heap → Prop} {v : Int64} (hexec : p.tables.exec = Jvm.exec) (hb : c.code = cc) (hr : meth.sig.returnType = some .long) (hlocks : meth.locks = false) (hlo : hLo B locs) (hfr : ∀ q, B ≤ q → free q) (hc : cells ≤ mc) (hs : slots ≤ ms) (hdg : decode cc pc = .ok (.lreturn, 1)) (hP : P v H) :
    W p l e R s m args below meth c H locs cells slots (MQ below (hQl P) args s mc ms free) (F0 m pc ls [.long v]) := by
  refine W.widen (k := mc) (n := ms) hc hs ?_
  exact W.lret hexec hb hr (fun t ht _ => ⟨v, rfl, by rw [ht]; exact hP⟩) (fun q hq => hfr _ (hlo q hq)) hdg hlocks
theorem hx_calll {P : Int64 → Heap → Prop} (hr : va_Run p l e R s m args below meth c H locs cells slots mc ms (F0 m pc ls st0) rest (hQl P aa) free) (hlo : hLo B locs) (hfr : ∀ q, free q → B ≤ q)
    (kk : ∀ (r : Int64) (H1 : Heap) (locs1 : List Loc), P r H1 → hLo B locs1 → W p l e R s m args below meth c H1 locs1 (cells + mc) (slots + ms) Q (F0 m (pc + 3) ls (.long r :: rest))) : W p l e R s m args below meth c H locs cells slots Q (F0 m pc ls st0) := by
  intro T hT X
  obtain ⟨v, st₀, t, T', L, h0, X', hL, e1, e2, ⟨r, hv, hp⟩, st⟩ := hr T hT X
  cases hv
  obtain ⟨t2, a1, b1⟩ := kk r T'.heap (locs ++ L) (by rw [e1]; exact hp) (hlo.app (fun q hq => hfr _ (hL q hq))) T' rfl X'
  exact ⟨t2, st t2 a1, b1⟩
end HXL
/-- what the model holds: its arrays (0 text, 1 diags, 2 types, 3 formats, 4 name, 5 desc, 6 nameSize, 7 descSize, 8 kind, 9 marks, 10 members, 11 part, 12 out, 13 other), its numbers (0 size, 1 found, 2 crossed, 3 from, 4 end, 5 wordFrom, 6 wordEnd, 7 format, 8 partSize, 9 code, 10 place, 11 written) -/
abbrev MS : Type := (Nat → Nat → Nat) × (Nat → Nat)
def up {α : Type} (f : Nat → α) (k : Nat) (x : α) : Nat → α := fun i => cond (Nat.beq i k) x (f i)
theorem up_id {α : Type} (f : Nat → α) (k : Nat) : up f k (f k) = f := by
  funext i
  unfold up
  cases h : Nat.beq i k with
  | false => rfl
  | true => rw [Nat.eq_of_beq_eq_true h]; rfl
def moF (ad : Nat → Nat) (g : MS) : List Value := [.ref (ad 0), .int (nI (g.2 0)), .ref (ad 1), .int (nI (g.2 1)), .int (nI (g.2 2)), .ref (ad 2), .ref (ad 3), .ref (ad 4), .ref (ad 5), .ref (ad 6), .ref (ad 7), .ref (ad 8), .ref (ad 9), .ref (ad 10), .int (nI (g.2 3)), .int (nI (g.2 4)), .int (nI (g.2 5)), .int (nI (g.2 6)), .int (nI (g.2 7)), .ref (ad 11), .int (nI (g.2 8)), .int (nI (g.2 9)), .int (nI (g.2 10)), .ref (ad 12), .int (nI (g.2 11)), .ref (ad 13)]
def arL (k : Nat) : Nat := match k with
  | 0 => 480 | 1 => 60 | 2 => 2 | 3 => 2 | 4 => 4340 | 5 => 4340 | 6 => 217 | 7 => 217 | 8 => 217 | 9 => 217 | 10 => 24 | 11 => 20 | 12 => 300 | _ => 300
/-- the MODEL: the object at a, its arrays at ad 0 .. ad 13, what they hold -/
def Mo (E : hE) (H : Heap) (a : Nat) (ad : Nat → Nat) (g : MS) : Prop := hOb (eD E) classes H a 10 (moF ad g) ∧ (∀ k, k < 14 → hAi H (ad k) (eA E 0) (arL k) (fun i => nI (g.1 k i))) ∧ eB E ≤ a ∧ (∀ k, k < 14 → eB E ≤ ad k ∧ ad k ≠ a) ∧ (∀ j k, j < 14 → k < 14 → j ≠ k → ad j ≠ ad k)
def moS (a : Nat) (ad : Nat → Nat) : Nat → Prop := fun q => q = a ∨ ∃ k, k < 14 ∧ q = ad k
def Mw (E : hE) (H0 H : Heap) (a : Nat) (ad : Nat → Nat) (g : MS) : Prop := Mo E H a ad g ∧ hCh (moS a ad) H0 H ∧ H.size = H0.size
theorem Mo.ch {E : hE} {H H1 : Heap} {a : Nat} {ad : Nat → Nat} {g : MS} {S : Nat → Prop} (h : Mo E H a ad g) (k : hCh S H H1) (hs : ∀ q, moS a ad q → ¬ S q) : Mo E H1 a ad g :=
  ⟨h.1.ch k (hs _ (Or.inl rfl)), fun j hj => (h.2.1 j hj).ch k (hs _ (Or.inr ⟨j, hj, rfl⟩)), h.2.2⟩
theorem Mo.lo {E : hE} {H : Heap} {a : Nat} {ad : Nat → Nat} {g : MS} (h : Mo E H a ad g) : ∀ q, moS a ad q → eB E ≤ q := fun q hq => by
  rcases hq with e | ⟨k, hk, e⟩
  · rw [e]; exact h.2.2.1
  · rw [e]; exact (h.2.2.2.1 k hk).1
theorem Mo.lt {E : hE} {H : Heap} {a : Nat} {ad : Nat → Nat} {g : MS} (h : Mo E H a ad g) : ∀ q, moS a ad q → q < H.size := fun q hq => by
  rcases hq with e | ⟨k, hk, e⟩
  · rw [e]; exact h.1.lt
  · rw [e]; exact (h.2.1 k hk).lt
theorem Mw.tr {E : hE} {H0 H H1 : Heap} {a : Nat} {ad : Nat → Nat} {g g2 : MS} (h : Mw E H0 H a ad g) (k : Mw E H H1 a ad g2) : Mw E H0 H1 a ad g2 := ⟨k.1, h.2.1.tr k.2.1, k.2.2.trans h.2.2⟩
theorem Mw.sc {E : hE} {H0 H H1 : Heap} {a : Nat} {ad : Nat → Nat} {g : MS} (h : Mw E H0 H a ad g) (g2 : MS) (ho : hOb (eD E) classes H1 a 10 (moF ad g2)) (z : H1.size = H.size) (o : ∀ q : Nat, q ≠ a → H1[q]? = H[q]?) (ha : g2.1 = g.1) : Mw E H0 H1 a ad g2 := by
  obtain ⟨⟨h1, h2, h3, h4, h5⟩, h6, h7⟩ := h
  exact ⟨⟨ho, fun k hk => by rw [ha]; exact (h2 k hk).eq (o _ (h4 k hk).2), h3, h4, h5⟩, h6.tr (hCh.put z o (Or.inl rfl)), z.trans h7⟩
theorem Mw.ar {E : hE} {H0 H H1 : Heap} {a : Nat} {ad : Nat → Nat} {g : MS} (h : Mw E H0 H a ad g) (g2 : MS) (k : Nat) (hk : k < 14) (ho : hAi H1 (ad k) (eA E 0) (arL k) (fun i => nI (g2.1 k i))) (z : H1.size = H.size) (o : ∀ q : Nat, q ≠ ad k → H1[q]? = H[q]?) (hf : g2.2 = g.2) (ha : ∀ j, j < 14 → j ≠ k → g2.1 j = g.1 j) : Mw E H0 H1 a ad g2 := by
  obtain ⟨⟨h1, h2, h3, h4, h5⟩, h6, h7⟩ := h
  refine ⟨⟨by unfold moF at h1 ⊢; rw [hf]; exact h1.eq (o _ (Ne.symm (h4 k hk).2)), fun j hj => ?_, h3, h4, h5⟩, h6.tr (hCh.put z o (Or.inr ⟨k, hk, rfl⟩)), z.trans h7⟩
  by_cases e : j = k
  · subst e; exact ho
  · rw [ha j hj e]; exact (h2 j hj).eq (o _ (h5 j k hj hk e))
def updN (f : Nat → Nat) (k x : Nat) : Nat → Nat := fun i => if i = k then x else f i
theorem updN_s {f : Nat → Nat} {k x : Nat} : updN f k x k = x := if_pos rfl
theorem updN_n {f : Nat → Nat} {k x i : Nat} (h : i ≠ k) : updN f k x i = f i := if_neg h
theorem upd_nI (f : Nat → Nat) (k x : Nat) : upd (fun i => nI (f i)) k (nI x) = fun i => nI (updN f k x i) := by
  funext i
  unfold upd updN
  by_cases c : i = k
  · rw [if_pos c, if_pos c]
  · rw [if_neg c, if_neg c]
theorem arN0 {f2 f : Nat → Nat → Nat} {j : Nat} (hj : j < 14) (hn : j ≠ 0) (h1 : f2 1 = f 1) (h2 : f2 2 = f 2) (h3 : f2 3 = f 3) (h4 : f2 4 = f 4) (h5 : f2 5 = f 5) (h6 : f2 6 = f 6) (h7 : f2 7 = f 7) (h8 : f2 8 = f 8) (h9 : f2 9 = f 9) (h10 : f2 10 = f 10) (h11 : f2 11 = f 11) (h12 : f2 12 = f 12) (h13 : f2 13 = f 13) : f2 j = f j := by
  rcases (show j = 1 ∨ j = 2 ∨ j = 3 ∨ j = 4 ∨ j = 5 ∨ j = 6 ∨ j = 7 ∨ j = 8 ∨ j = 9 ∨ j = 10 ∨ j = 11 ∨ j = 12 ∨ j = 13 by omega) with e | e | e | e | e | e | e | e | e | e | e | e | e
  · subst e; exact h1
  · subst e; exact h2
  · subst e; exact h3
  · subst e; exact h4
  · subst e; exact h5
  · subst e; exact h6
  · subst e; exact h7
  · subst e; exact h8
  · subst e; exact h9
  · subst e; exact h10
  · subst e; exact h11
  · subst e; exact h12
  · subst e; exact h13
theorem arN1 {f2 f : Nat → Nat → Nat} {j : Nat} (hj : j < 14) (hn : j ≠ 1) (h0 : f2 0 = f 0) (h2 : f2 2 = f 2) (h3 : f2 3 = f 3) (h4 : f2 4 = f 4) (h5 : f2 5 = f 5) (h6 : f2 6 = f 6) (h7 : f2 7 = f 7) (h8 : f2 8 = f 8) (h9 : f2 9 = f 9) (h10 : f2 10 = f 10) (h11 : f2 11 = f 11) (h12 : f2 12 = f 12) (h13 : f2 13 = f 13) : f2 j = f j := by
  rcases (show j = 0 ∨ j = 2 ∨ j = 3 ∨ j = 4 ∨ j = 5 ∨ j = 6 ∨ j = 7 ∨ j = 8 ∨ j = 9 ∨ j = 10 ∨ j = 11 ∨ j = 12 ∨ j = 13 by omega) with e | e | e | e | e | e | e | e | e | e | e | e | e
  · subst e; exact h0
  · subst e; exact h2
  · subst e; exact h3
  · subst e; exact h4
  · subst e; exact h5
  · subst e; exact h6
  · subst e; exact h7
  · subst e; exact h8
  · subst e; exact h9
  · subst e; exact h10
  · subst e; exact h11
  · subst e; exact h12
  · subst e; exact h13
theorem arN2 {f2 f : Nat → Nat → Nat} {j : Nat} (hj : j < 14) (hn : j ≠ 2) (h0 : f2 0 = f 0) (h1 : f2 1 = f 1) (h3 : f2 3 = f 3) (h4 : f2 4 = f 4) (h5 : f2 5 = f 5) (h6 : f2 6 = f 6) (h7 : f2 7 = f 7) (h8 : f2 8 = f 8) (h9 : f2 9 = f 9) (h10 : f2 10 = f 10) (h11 : f2 11 = f 11) (h12 : f2 12 = f 12) (h13 : f2 13 = f 13) : f2 j = f j := by
  rcases (show j = 0 ∨ j = 1 ∨ j = 3 ∨ j = 4 ∨ j = 5 ∨ j = 6 ∨ j = 7 ∨ j = 8 ∨ j = 9 ∨ j = 10 ∨ j = 11 ∨ j = 12 ∨ j = 13 by omega) with e | e | e | e | e | e | e | e | e | e | e | e | e
  · subst e; exact h0
  · subst e; exact h1
  · subst e; exact h3
  · subst e; exact h4
  · subst e; exact h5
  · subst e; exact h6
  · subst e; exact h7
  · subst e; exact h8
  · subst e; exact h9
  · subst e; exact h10
  · subst e; exact h11
  · subst e; exact h12
  · subst e; exact h13
theorem arN3 {f2 f : Nat → Nat → Nat} {j : Nat} (hj : j < 14) (hn : j ≠ 3) (h0 : f2 0 = f 0) (h1 : f2 1 = f 1) (h2 : f2 2 = f 2) (h4 : f2 4 = f 4) (h5 : f2 5 = f 5) (h6 : f2 6 = f 6) (h7 : f2 7 = f 7) (h8 : f2 8 = f 8) (h9 : f2 9 = f 9) (h10 : f2 10 = f 10) (h11 : f2 11 = f 11) (h12 : f2 12 = f 12) (h13 : f2 13 = f 13) : f2 j = f j := by
  rcases (show j = 0 ∨ j = 1 ∨ j = 2 ∨ j = 4 ∨ j = 5 ∨ j = 6 ∨ j = 7 ∨ j = 8 ∨ j = 9 ∨ j = 10 ∨ j = 11 ∨ j = 12 ∨ j = 13 by omega) with e | e | e | e | e | e | e | e | e | e | e | e | e
  · subst e; exact h0
  · subst e; exact h1
  · subst e; exact h2
  · subst e; exact h4
  · subst e; exact h5
  · subst e; exact h6
  · subst e; exact h7
  · subst e; exact h8
  · subst e; exact h9
  · subst e; exact h10
  · subst e; exact h11
  · subst e; exact h12
  · subst e; exact h13
theorem arN4 {f2 f : Nat → Nat → Nat} {j : Nat} (hj : j < 14) (hn : j ≠ 4) (h0 : f2 0 = f 0) (h1 : f2 1 = f 1) (h2 : f2 2 = f 2) (h3 : f2 3 = f 3) (h5 : f2 5 = f 5) (h6 : f2 6 = f 6) (h7 : f2 7 = f 7) (h8 : f2 8 = f 8) (h9 : f2 9 = f 9) (h10 : f2 10 = f 10) (h11 : f2 11 = f 11) (h12 : f2 12 = f 12) (h13 : f2 13 = f 13) : f2 j = f j := by
  rcases (show j = 0 ∨ j = 1 ∨ j = 2 ∨ j = 3 ∨ j = 5 ∨ j = 6 ∨ j = 7 ∨ j = 8 ∨ j = 9 ∨ j = 10 ∨ j = 11 ∨ j = 12 ∨ j = 13 by omega) with e | e | e | e | e | e | e | e | e | e | e | e | e
  · subst e; exact h0
  · subst e; exact h1
  · subst e; exact h2
  · subst e; exact h3
  · subst e; exact h5
  · subst e; exact h6
  · subst e; exact h7
  · subst e; exact h8
  · subst e; exact h9
  · subst e; exact h10
  · subst e; exact h11
  · subst e; exact h12
  · subst e; exact h13
theorem arN5 {f2 f : Nat → Nat → Nat} {j : Nat} (hj : j < 14) (hn : j ≠ 5) (h0 : f2 0 = f 0) (h1 : f2 1 = f 1) (h2 : f2 2 = f 2) (h3 : f2 3 = f 3) (h4 : f2 4 = f 4) (h6 : f2 6 = f 6) (h7 : f2 7 = f 7) (h8 : f2 8 = f 8) (h9 : f2 9 = f 9) (h10 : f2 10 = f 10) (h11 : f2 11 = f 11) (h12 : f2 12 = f 12) (h13 : f2 13 = f 13) : f2 j = f j := by
  rcases (show j = 0 ∨ j = 1 ∨ j = 2 ∨ j = 3 ∨ j = 4 ∨ j = 6 ∨ j = 7 ∨ j = 8 ∨ j = 9 ∨ j = 10 ∨ j = 11 ∨ j = 12 ∨ j = 13 by omega) with e | e | e | e | e | e | e | e | e | e | e | e | e
  · subst e; exact h0
  · subst e; exact h1
  · subst e; exact h2
  · subst e; exact h3
  · subst e; exact h4
  · subst e; exact h6
  · subst e; exact h7
  · subst e; exact h8
  · subst e; exact h9
  · subst e; exact h10
  · subst e; exact h11
  · subst e; exact h12
  · subst e; exact h13
theorem arN6 {f2 f : Nat → Nat → Nat} {j : Nat} (hj : j < 14) (hn : j ≠ 6) (h0 : f2 0 = f 0) (h1 : f2 1 = f 1) (h2 : f2 2 = f 2) (h3 : f2 3 = f 3) (h4 : f2 4 = f 4) (h5 : f2 5 = f 5) (h7 : f2 7 = f 7) (h8 : f2 8 = f 8) (h9 : f2 9 = f 9) (h10 : f2 10 = f 10) (h11 : f2 11 = f 11) (h12 : f2 12 = f 12) (h13 : f2 13 = f 13) : f2 j = f j := by
  rcases (show j = 0 ∨ j = 1 ∨ j = 2 ∨ j = 3 ∨ j = 4 ∨ j = 5 ∨ j = 7 ∨ j = 8 ∨ j = 9 ∨ j = 10 ∨ j = 11 ∨ j = 12 ∨ j = 13 by omega) with e | e | e | e | e | e | e | e | e | e | e | e | e
  · subst e; exact h0
  · subst e; exact h1
  · subst e; exact h2
  · subst e; exact h3
  · subst e; exact h4
  · subst e; exact h5
  · subst e; exact h7
  · subst e; exact h8
  · subst e; exact h9
  · subst e; exact h10
  · subst e; exact h11
  · subst e; exact h12
  · subst e; exact h13
theorem arN7 {f2 f : Nat → Nat → Nat} {j : Nat} (hj : j < 14) (hn : j ≠ 7) (h0 : f2 0 = f 0) (h1 : f2 1 = f 1) (h2 : f2 2 = f 2) (h3 : f2 3 = f 3) (h4 : f2 4 = f 4) (h5 : f2 5 = f 5) (h6 : f2 6 = f 6) (h8 : f2 8 = f 8) (h9 : f2 9 = f 9) (h10 : f2 10 = f 10) (h11 : f2 11 = f 11) (h12 : f2 12 = f 12) (h13 : f2 13 = f 13) : f2 j = f j := by
  rcases (show j = 0 ∨ j = 1 ∨ j = 2 ∨ j = 3 ∨ j = 4 ∨ j = 5 ∨ j = 6 ∨ j = 8 ∨ j = 9 ∨ j = 10 ∨ j = 11 ∨ j = 12 ∨ j = 13 by omega) with e | e | e | e | e | e | e | e | e | e | e | e | e
  · subst e; exact h0
  · subst e; exact h1
  · subst e; exact h2
  · subst e; exact h3
  · subst e; exact h4
  · subst e; exact h5
  · subst e; exact h6
  · subst e; exact h8
  · subst e; exact h9
  · subst e; exact h10
  · subst e; exact h11
  · subst e; exact h12
  · subst e; exact h13
theorem arN8 {f2 f : Nat → Nat → Nat} {j : Nat} (hj : j < 14) (hn : j ≠ 8) (h0 : f2 0 = f 0) (h1 : f2 1 = f 1) (h2 : f2 2 = f 2) (h3 : f2 3 = f 3) (h4 : f2 4 = f 4) (h5 : f2 5 = f 5) (h6 : f2 6 = f 6) (h7 : f2 7 = f 7) (h9 : f2 9 = f 9) (h10 : f2 10 = f 10) (h11 : f2 11 = f 11) (h12 : f2 12 = f 12) (h13 : f2 13 = f 13) : f2 j = f j := by
  rcases (show j = 0 ∨ j = 1 ∨ j = 2 ∨ j = 3 ∨ j = 4 ∨ j = 5 ∨ j = 6 ∨ j = 7 ∨ j = 9 ∨ j = 10 ∨ j = 11 ∨ j = 12 ∨ j = 13 by omega) with e | e | e | e | e | e | e | e | e | e | e | e | e
  · subst e; exact h0
  · subst e; exact h1
  · subst e; exact h2
  · subst e; exact h3
  · subst e; exact h4
  · subst e; exact h5
  · subst e; exact h6
  · subst e; exact h7
  · subst e; exact h9
  · subst e; exact h10
  · subst e; exact h11
  · subst e; exact h12
  · subst e; exact h13
theorem arN9 {f2 f : Nat → Nat → Nat} {j : Nat} (hj : j < 14) (hn : j ≠ 9) (h0 : f2 0 = f 0) (h1 : f2 1 = f 1) (h2 : f2 2 = f 2) (h3 : f2 3 = f 3) (h4 : f2 4 = f 4) (h5 : f2 5 = f 5) (h6 : f2 6 = f 6) (h7 : f2 7 = f 7) (h8 : f2 8 = f 8) (h10 : f2 10 = f 10) (h11 : f2 11 = f 11) (h12 : f2 12 = f 12) (h13 : f2 13 = f 13) : f2 j = f j := by
  rcases (show j = 0 ∨ j = 1 ∨ j = 2 ∨ j = 3 ∨ j = 4 ∨ j = 5 ∨ j = 6 ∨ j = 7 ∨ j = 8 ∨ j = 10 ∨ j = 11 ∨ j = 12 ∨ j = 13 by omega) with e | e | e | e | e | e | e | e | e | e | e | e | e
  · subst e; exact h0
  · subst e; exact h1
  · subst e; exact h2
  · subst e; exact h3
  · subst e; exact h4
  · subst e; exact h5
  · subst e; exact h6
  · subst e; exact h7
  · subst e; exact h8
  · subst e; exact h10
  · subst e; exact h11
  · subst e; exact h12
  · subst e; exact h13
theorem arN10 {f2 f : Nat → Nat → Nat} {j : Nat} (hj : j < 14) (hn : j ≠ 10) (h0 : f2 0 = f 0) (h1 : f2 1 = f 1) (h2 : f2 2 = f 2) (h3 : f2 3 = f 3) (h4 : f2 4 = f 4) (h5 : f2 5 = f 5) (h6 : f2 6 = f 6) (h7 : f2 7 = f 7) (h8 : f2 8 = f 8) (h9 : f2 9 = f 9) (h11 : f2 11 = f 11) (h12 : f2 12 = f 12) (h13 : f2 13 = f 13) : f2 j = f j := by
  rcases (show j = 0 ∨ j = 1 ∨ j = 2 ∨ j = 3 ∨ j = 4 ∨ j = 5 ∨ j = 6 ∨ j = 7 ∨ j = 8 ∨ j = 9 ∨ j = 11 ∨ j = 12 ∨ j = 13 by omega) with e | e | e | e | e | e | e | e | e | e | e | e | e
  · subst e; exact h0
  · subst e; exact h1
  · subst e; exact h2
  · subst e; exact h3
  · subst e; exact h4
  · subst e; exact h5
  · subst e; exact h6
  · subst e; exact h7
  · subst e; exact h8
  · subst e; exact h9
  · subst e; exact h11
  · subst e; exact h12
  · subst e; exact h13
theorem arN11 {f2 f : Nat → Nat → Nat} {j : Nat} (hj : j < 14) (hn : j ≠ 11) (h0 : f2 0 = f 0) (h1 : f2 1 = f 1) (h2 : f2 2 = f 2) (h3 : f2 3 = f 3) (h4 : f2 4 = f 4) (h5 : f2 5 = f 5) (h6 : f2 6 = f 6) (h7 : f2 7 = f 7) (h8 : f2 8 = f 8) (h9 : f2 9 = f 9) (h10 : f2 10 = f 10) (h12 : f2 12 = f 12) (h13 : f2 13 = f 13) : f2 j = f j := by
  rcases (show j = 0 ∨ j = 1 ∨ j = 2 ∨ j = 3 ∨ j = 4 ∨ j = 5 ∨ j = 6 ∨ j = 7 ∨ j = 8 ∨ j = 9 ∨ j = 10 ∨ j = 12 ∨ j = 13 by omega) with e | e | e | e | e | e | e | e | e | e | e | e | e
  · subst e; exact h0
  · subst e; exact h1
  · subst e; exact h2
  · subst e; exact h3
  · subst e; exact h4
  · subst e; exact h5
  · subst e; exact h6
  · subst e; exact h7
  · subst e; exact h8
  · subst e; exact h9
  · subst e; exact h10
  · subst e; exact h12
  · subst e; exact h13
theorem arN12 {f2 f : Nat → Nat → Nat} {j : Nat} (hj : j < 14) (hn : j ≠ 12) (h0 : f2 0 = f 0) (h1 : f2 1 = f 1) (h2 : f2 2 = f 2) (h3 : f2 3 = f 3) (h4 : f2 4 = f 4) (h5 : f2 5 = f 5) (h6 : f2 6 = f 6) (h7 : f2 7 = f 7) (h8 : f2 8 = f 8) (h9 : f2 9 = f 9) (h10 : f2 10 = f 10) (h11 : f2 11 = f 11) (h13 : f2 13 = f 13) : f2 j = f j := by
  rcases (show j = 0 ∨ j = 1 ∨ j = 2 ∨ j = 3 ∨ j = 4 ∨ j = 5 ∨ j = 6 ∨ j = 7 ∨ j = 8 ∨ j = 9 ∨ j = 10 ∨ j = 11 ∨ j = 13 by omega) with e | e | e | e | e | e | e | e | e | e | e | e | e
  · subst e; exact h0
  · subst e; exact h1
  · subst e; exact h2
  · subst e; exact h3
  · subst e; exact h4
  · subst e; exact h5
  · subst e; exact h6
  · subst e; exact h7
  · subst e; exact h8
  · subst e; exact h9
  · subst e; exact h10
  · subst e; exact h11
  · subst e; exact h13
theorem arN13 {f2 f : Nat → Nat → Nat} {j : Nat} (hj : j < 14) (hn : j ≠ 13) (h0 : f2 0 = f 0) (h1 : f2 1 = f 1) (h2 : f2 2 = f 2) (h3 : f2 3 = f 3) (h4 : f2 4 = f 4) (h5 : f2 5 = f 5) (h6 : f2 6 = f 6) (h7 : f2 7 = f 7) (h8 : f2 8 = f 8) (h9 : f2 9 = f 9) (h10 : f2 10 = f 10) (h11 : f2 11 = f 11) (h12 : f2 12 = f 12) : f2 j = f j := by
  rcases (show j = 0 ∨ j = 1 ∨ j = 2 ∨ j = 3 ∨ j = 4 ∨ j = 5 ∨ j = 6 ∨ j = 7 ∨ j = 8 ∨ j = 9 ∨ j = 10 ∨ j = 11 ∨ j = 12 by omega) with e | e | e | e | e | e | e | e | e | e | e | e | e
  · subst e; exact h0
  · subst e; exact h1
  · subst e; exact h2
  · subst e; exact h3
  · subst e; exact h4
  · subst e; exact h5
  · subst e; exact h6
  · subst e; exact h7
  · subst e; exact h8
  · subst e; exact h9
  · subst e; exact h10
  · subst e; exact h11
  · subst e; exact h12
/-- the text in the model -/
def Tx (t : Nat → Nat) (txt : List Nat) : Prop := ∀ i, i < txt.length → t i = txt.getD i 0
def cmpI (r : Int32) : Int := r.toInt
set_option maxHeartbeats 4000000 in
set_option maxRecDepth 100000 in
theorem c_Mo_none (l : Launch) {E : hE} (hE : EnvOk E) {H : Heap} (b : Int32) : Ct l E y_Mo_none b_Mo_none 1 (some .boolean) (rmA 0 0 0) [.int b] H (hQi (fun r H1 => r = bI (decide (¬ (b = 0 ∨ b = 1))) ∧ H1 = H)) := by
  refine hx_enter hE (by decide) (Nat.le_of_ble_eq_true rfl) ?_
  intro p e s m args below meth c ls cx hnm hl
  have hl : lv_has ls 1 [(0, .int b)] := hl
  have hlo : hLo (eB E) [] := hLo.nil
  generalize hQ : MQ below _ args s _ _ _ = Q
  refine lv_iload_n cx.x cx.b d_Mo_none_0 rfl (lv_at hl 0 rfl) ?_
  refine lv_if_eq (tgt := 13) cx.x cx.b d_Mo_none_1 (by decide) (fun c1 => ?_) (fun c1 => ?_)
  · rw [decide_eq_false (fun z => z (Or.inl c1))] at hQ
    refine lv_iconst (v := 0) cx.x cx.b d_Mo_none_13 (by decide) ?_
    rw [← hQ]
    exact hx_reti cx.x cx.b cx.r cx.k rfl hlo (fun _ h => h) (Nat.le_of_ble_eq_true rfl) (Nat.le_of_ble_eq_true rfl) d_Mo_none_14 (⟨rfl, rfl⟩)
  · refine lv_iload_n cx.x cx.b d_Mo_none_4 rfl (lv_at hl 0 rfl) ?_
    refine lv_iconst (v := 1) cx.x cx.b d_Mo_none_5 (by decide) ?_
    refine lv_icmp_eq (tgt := 13) cx.x cx.b d_Mo_none_6 (by decide) (fun c2 => ?_) (fun c2 => ?_)
    · rw [decide_eq_false (fun z => z (Or.inr c2))] at hQ
      refine lv_iconst (v := 0) cx.x cx.b d_Mo_none_13 (by decide) ?_
      rw [← hQ]
      exact hx_reti cx.x cx.b cx.r cx.k rfl hlo (fun _ h => h) (Nat.le_of_ble_eq_true rfl) (Nat.le_of_ble_eq_true rfl) d_Mo_none_14 (⟨rfl, rfl⟩)
    · rw [decide_eq_true (show ¬ (b = 0 ∨ b = 1) from fun z => by rcases z with z | z; exact c1 z; exact c2 z)] at hQ
      refine lv_iconst (v := 1) cx.x cx.b d_Mo_none_9 (by decide) ?_
      refine lv_goto (tgt := 14) cx.x cx.b d_Mo_none_10 (by decide) ?_
      rw [← hQ]
      exact hx_reti cx.x cx.b cx.r cx.k rfl hlo (fun _ h => h) (Nat.le_of_ble_eq_true rfl) (Nat.le_of_ble_eq_true rfl) d_Mo_none_14 (⟨rfl, rfl⟩)

set_option maxHeartbeats 4000000 in
set_option maxRecDepth 100000 in
theorem c_Mo_side (l : Launch) {E : hE} (hE : EnvOk E) {H : Heap} {a : Nat} {ad : Nat → Nat} {g : MS} (M : Mo E H a ad g) (hc : (g.2 2) = 0 ∨ (g.2 2) = 1) {b : Nat} (hb : b < 2) : Ct l E y_Mo_side b_Mo_side 2 (some .int) (rmA 0 0 0) [.ref a, .int (nI b)] H (hQi (fun r H1 => r = nI (if (g.2 2) = 0 then b else 1 - b) ∧ H1 = H)) := by
  refine hx_enter hE (by decide) (Nat.le_of_ble_eq_true rfl) ?_
  intro p e s m args below meth c ls cx hnm hl
  have hl : lv_has ls 2 [(0, .ref a), (1, .int (nI b))] := hl
  have hlo : hLo (eB E) [] := hLo.nil
  generalize hQ : MQ below _ args s _ _ _ = Q
  have M0 : Mw E H H a ad g := ⟨M, hCh.rf, rfl⟩
  refine lv_aload_n cx.x cx.b d_Mo_side_0 rfl (lv_at hl 0 rfl) ?_
  refine gf_Mo_58_Mo cx M0.1.1 rfl d_Mo_side_1 ?_
  refine lv_if_eq (tgt := 13) cx.x cx.b d_Mo_side_4 (by decide) (fun c1 => ?_) (fun c1 => ?_)
  · have c1 : (g.2 2) = 0 := (nI_eq (a := (g.2 2)) (b := 0) (by omega) (by omega)).mp c1
    rw [if_pos c1] at hQ
    refine lv_iload_n cx.x cx.b d_Mo_side_13 rfl (lv_at hl 1 rfl) ?_
    rw [← hQ]
    exact hx_reti cx.x cx.b cx.r cx.k rfl hlo (fun _ h => h) (Nat.le_of_ble_eq_true rfl) (Nat.le_of_ble_eq_true rfl) d_Mo_side_14 (⟨rfl, rfl⟩)
  · have c1 : (g.2 2) ≠ 0 := fun zz => c1 ((nI_eq (a := (g.2 2)) (b := 0) (by omega) (by omega)).mpr zz)
    rw [if_neg c1] at hQ
    refine lv_iconst (v := 1) cx.x cx.b d_Mo_side_7 (by decide) ?_
    refine lv_iload_n cx.x cx.b d_Mo_side_8 rfl (lv_at hl 1 rfl) ?_
    refine lv_isub cx.x cx.b d_Mo_side_9 ?_
    refine lv_topi (fun x1 e_x1 => ?_)
    refine lv_goto (tgt := 14) cx.x cx.b d_Mo_side_10 (by decide) ?_
    rw [← hQ]
    exact hx_reti cx.x cx.b cx.r cx.k rfl hlo (fun _ h => h) (Nat.le_of_ble_eq_true rfl) (Nat.le_of_ble_eq_true rfl) d_Mo_side_14 (⟨by rw [e_x1]; exact pk_sub (a := 1) (b := b) (by omega), rfl⟩)

set_option maxHeartbeats 4000000 in
set_option maxRecDepth 100000 in
theorem c_Mo_clear (l : Launch) {E : hE} (hE : EnvOk E) {H : Heap} {a : Nat} {ad : Nat → Nat} {g : MS} (M : Mo E H a ad g) : Ct l E y_Mo_clear b_Mo_clear 2 (some .int) (rmA 0 0 0) [.ref a] H (hQi (fun r H1 => r = nI (g.2 0) ∧ Mw E H H1 a ad (g.1, up g.2 0 0))) := by
  refine hx_enter hE (by decide) (Nat.le_of_ble_eq_true rfl) ?_
  intro p e s m args below meth c ls cx hnm hl
  have hl : lv_has ls 2 [(0, .ref a)] := hl
  have hlo : hLo (eB E) [] := hLo.nil
  generalize hQ : MQ below _ args s _ _ _ = Q
  have M0 : Mw E H H a ad g := ⟨M, hCh.rf, rfl⟩
  refine lv_aload_n cx.x cx.b d_Mo_clear_0 rfl (lv_at hl 0 rfl) ?_
  refine gf_Mo_52_Mo cx M0.1.1 rfl d_Mo_clear_1 ?_
  refine lv_istore_n (lv' := [(1, .int (nI (g.2 0))), (0, .ref a)]) cx.x cx.b d_Mo_clear_4 rfl hl (by decide) rfl (fun ls hl => ?_)
  refine lv_aload_n cx.x cx.b d_Mo_clear_5 rfl (lv_at hl 1 rfl) ?_
  refine lv_iconst (v := 0) cx.x cx.b d_Mo_clear_6 (by decide) ?_
  refine pf_Mo_52_Mo cx M0.1.1 hlo M0.1.2.2.1 (Nat.le_of_ble_eq_true rfl) d_Mo_clear_7 (fun H2 locs ho3 z_H2 o_H2 hlo => ?_)
  have ho3 : hOb (eD E) classes H2 a 10 [.ref (ad 0), .int 0, .ref (ad 1), .int (nI (g.2 1)), .int (nI (g.2 2)), .ref (ad 2), .ref (ad 3), .ref (ad 4), .ref (ad 5), .ref (ad 6), .ref (ad 7), .ref (ad 8), .ref (ad 9), .ref (ad 10), .int (nI (g.2 3)), .int (nI (g.2 4)), .int (nI (g.2 5)), .int (nI (g.2 6)), .int (nI (g.2 7)), .ref (ad 11), .int (nI (g.2 8)), .int (nI (g.2 9)), .int (nI (g.2 10)), .ref (ad 12), .int (nI (g.2 11)), .ref (ad 13)] := ho3
  have M4 : Mw E H H2 a ad (g.1, up g.2 0 0) := M0.sc (g.1, up g.2 0 0) ho3 z_H2 o_H2 rfl
  have oM5 : hOb (eD E) classes H2 a 10 [.ref (ad 0), .int (nI 0), .ref (ad 1), .int (nI (g.2 1)), .int (nI (g.2 2)), .ref (ad 2), .ref (ad 3), .ref (ad 4), .ref (ad 5), .ref (ad 6), .ref (ad 7), .ref (ad 8), .ref (ad 9), .ref (ad 10), .int (nI (g.2 3)), .int (nI (g.2 4)), .int (nI (g.2 5)), .int (nI (g.2 6)), .int (nI (g.2 7)), .ref (ad 11), .int (nI (g.2 8)), .int (nI (g.2 9)), .int (nI (g.2 10)), .ref (ad 12), .int (nI (g.2 11)), .ref (ad 13)] := M4.1.1
  refine lv_iload_n cx.x cx.b d_Mo_clear_10 rfl (lv_at hl 0 rfl) ?_
  rw [← hQ]
  exact hx_reti cx.x cx.b cx.r cx.k rfl hlo (fun _ h => h) (Nat.le_of_ble_eq_true rfl) (Nat.le_of_ble_eq_true rfl) d_Mo_clear_11 (⟨rfl, M4⟩)

set_option maxHeartbeats 4000000 in
set_option maxRecDepth 100000 in
theorem c_Mo_swap (l : Launch) {E : hE} (hE : EnvOk E) {H : Heap} {a : Nat} {ad : Nat → Nat} {g : MS} (M : Mo E H a ad g) (hc : (g.2 2) = 0 ∨ (g.2 2) = 1) : Ct l E y_Mo_swap b_Mo_swap 1 none (rmA 0 0 0) [.ref a] H (hQv (fun H1 => Mw E H H1 a ad (g.1, up g.2 2 (1 - (g.2 2))))) := by
  refine hx_enter hE (by decide) (Nat.le_of_ble_eq_true rfl) ?_
  intro p e s m args below meth c ls cx hnm hl
  have hl : lv_has ls 1 [(0, .ref a)] := hl
  have hlo : hLo (eB E) [] := hLo.nil
  generalize hQ : MQ below _ args s _ _ _ = Q
  have M0 : Mw E H H a ad g := ⟨M, hCh.rf, rfl⟩
  refine lv_aload_n cx.x cx.b d_Mo_swap_0 rfl (lv_at hl 0 rfl) ?_
  refine lv_aload_n cx.x cx.b d_Mo_swap_1 rfl (lv_at hl 0 rfl) ?_
  refine gf_Mo_58_Mo cx M0.1.1 rfl d_Mo_swap_2 ?_
  refine lv_if_ne (tgt := 12) cx.x cx.b d_Mo_swap_5 (by decide) (fun c1 => ?_) (fun c1 => ?_)
  · have c1 : (g.2 2) ≠ 0 := fun zz => c1 ((nI_eq (a := (g.2 2)) (b := 0) (by omega) (by omega)).mpr zz)
    refine lv_iconst (v := 0) cx.x cx.b d_Mo_swap_12 (by decide) ?_
    refine pf_Mo_58_Mo cx M0.1.1 hlo M0.1.2.2.1 (bI_z false) (Nat.le_of_ble_eq_true rfl) d_Mo_swap_13 (fun H6 locs ho7 z_H6 o_H6 hlo => ?_)
    have ho7 : hOb (eD E) classes H6 a 10 [.ref (ad 0), .int (nI (g.2 0)), .ref (ad 1), .int (nI (g.2 1)), .int (nI 0), .ref (ad 2), .ref (ad 3), .ref (ad 4), .ref (ad 5), .ref (ad 6), .ref (ad 7), .ref (ad 8), .ref (ad 9), .ref (ad 10), .int (nI (g.2 3)), .int (nI (g.2 4)), .int (nI (g.2 5)), .int (nI (g.2 6)), .int (nI (g.2 7)), .ref (ad 11), .int (nI (g.2 8)), .int (nI (g.2 9)), .int (nI (g.2 10)), .ref (ad 12), .int (nI (g.2 11)), .ref (ad 13)] := ho7
    have M8 : Mw E H H6 a ad (g.1, up g.2 2 0) := M0.sc (g.1, up g.2 2 0) ho7 z_H6 o_H6 rfl
    have oM9 : hOb (eD E) classes H6 a 10 [.ref (ad 0), .int (nI (g.2 0)), .ref (ad 1), .int (nI (g.2 1)), .int (nI 0), .ref (ad 2), .ref (ad 3), .ref (ad 4), .ref (ad 5), .ref (ad 6), .ref (ad 7), .ref (ad 8), .ref (ad 9), .ref (ad 10), .int (nI (g.2 3)), .int (nI (g.2 4)), .int (nI (g.2 5)), .int (nI (g.2 6)), .int (nI (g.2 7)), .ref (ad 11), .int (nI (g.2 8)), .int (nI (g.2 9)), .int (nI (g.2 10)), .ref (ad 12), .int (nI (g.2 11)), .ref (ad 13)] := M8.1.1
    rw [← hQ]
    exact hx_retv cx.x cx.b cx.r cx.k hlo (fun _ h => h) (Nat.le_of_ble_eq_true rfl) (Nat.le_of_ble_eq_true rfl) d_Mo_swap_16 (by rw [show 1 - g.2 2 = 0 by omega]; exact M8)
  · have c1 : (g.2 2) = 0 := (nI_eq (a := (g.2 2)) (b := 0) (by omega) (by omega)).mp c1
    refine lv_iconst (v := 1) cx.x cx.b d_Mo_swap_8 (by decide) ?_
    refine lv_goto (tgt := 13) cx.x cx.b d_Mo_swap_9 (by decide) ?_
    refine pf_Mo_58_Mo cx M0.1.1 hlo M0.1.2.2.1 (bI_z true) (Nat.le_of_ble_eq_true rfl) d_Mo_swap_13 (fun H10 locs ho11 z_H10 o_H10 hlo => ?_)
    have ho11 : hOb (eD E) classes H10 a 10 [.ref (ad 0), .int (nI (g.2 0)), .ref (ad 1), .int (nI (g.2 1)), .int (nI 1), .ref (ad 2), .ref (ad 3), .ref (ad 4), .ref (ad 5), .ref (ad 6), .ref (ad 7), .ref (ad 8), .ref (ad 9), .ref (ad 10), .int (nI (g.2 3)), .int (nI (g.2 4)), .int (nI (g.2 5)), .int (nI (g.2 6)), .int (nI (g.2 7)), .ref (ad 11), .int (nI (g.2 8)), .int (nI (g.2 9)), .int (nI (g.2 10)), .ref (ad 12), .int (nI (g.2 11)), .ref (ad 13)] := ho11
    have M12 : Mw E H H10 a ad (g.1, up g.2 2 1) := M0.sc (g.1, up g.2 2 1) ho11 z_H10 o_H10 rfl
    have oM13 : hOb (eD E) classes H10 a 10 [.ref (ad 0), .int (nI (g.2 0)), .ref (ad 1), .int (nI (g.2 1)), .int (nI 1), .ref (ad 2), .ref (ad 3), .ref (ad 4), .ref (ad 5), .ref (ad 6), .ref (ad 7), .ref (ad 8), .ref (ad 9), .ref (ad 10), .int (nI (g.2 3)), .int (nI (g.2 4)), .int (nI (g.2 5)), .int (nI (g.2 6)), .int (nI (g.2 7)), .ref (ad 11), .int (nI (g.2 8)), .int (nI (g.2 9)), .int (nI (g.2 10)), .ref (ad 12), .int (nI (g.2 11)), .ref (ad 13)] := M12.1.1
    rw [← hQ]
    exact hx_retv cx.x cx.b cx.r cx.k hlo (fun _ h => h) (Nat.le_of_ble_eq_true rfl) (Nat.le_of_ble_eq_true rfl) d_Mo_swap_16 (by rw [show 1 - g.2 2 = 1 by omega]; exact M12)

set_option maxHeartbeats 4000000 in
set_option maxRecDepth 100000 in
theorem c_Mo_text (l : Launch) {E : hE} (hE : EnvOk E) {H : Heap} {a : Nat} {ad : Nat → Nat} {g : MS} (M : Mo E H a ad g) {txt : List Nat} (hx : Tx (g.1 0) txt) (hs : (g.2 0) = txt.length) (hl9 : txt.length ≤ 480) (i : Int32) : Ct l E y_Mo_text b_Mo_text 2 (some .int) (rmA 0 0 0) [.ref a, .int i] H (hQi (fun r H1 => r = atI txt i ∧ H1 = H)) := by
  refine hx_enter hE (by decide) (Nat.le_of_ble_eq_true rfl) ?_
  intro p e s m args below meth c ls cx hnm hl
  have hl : lv_has ls 2 [(0, .ref a), (1, .int i)] := hl
  have hlo : hLo (eB E) [] := hLo.nil
  generalize hQ : MQ below _ args s _ _ _ = Q
  have M0 : Mw E H H a ad g := ⟨M, hCh.rf, rfl⟩
  unfold atI at hQ
  refine lv_iload_n cx.x cx.b d_Mo_text_0 rfl (lv_at hl 1 rfl) ?_
  refine lv_if_lt (tgt := 12) cx.x cx.b d_Mo_text_1 (by decide) (fun c1 => ?_) (fun c1 => ?_)
  · rw [if_pos c1] at hQ
    refine lv_iconst (v := (-1)) cx.x cx.b d_Mo_text_12 (by decide) ?_
    refine lv_goto (tgt := 22) cx.x cx.b d_Mo_text_13 (by decide) ?_
    rw [← hQ]
    exact hx_reti cx.x cx.b cx.r cx.k rfl hlo (fun _ h => h) (Nat.le_of_ble_eq_true rfl) (Nat.le_of_ble_eq_true rfl) d_Mo_text_22 (⟨rfl, rfl⟩)
  · rw [if_neg c1] at hQ
    refine lv_iload_n cx.x cx.b d_Mo_text_4 rfl (lv_at hl 1 rfl) ?_
    refine lv_aload_n cx.x cx.b d_Mo_text_5 rfl (lv_at hl 0 rfl) ?_
    refine gf_Mo_52_Mo cx M0.1.1 rfl d_Mo_text_6 ?_
    refine lv_icmp_lt (tgt := 16) cx.x cx.b d_Mo_text_9 (by decide) (fun c2 => ?_) (fun c2 => ?_)
    · rw [hs] at c2
      rw [if_neg (Int32.not_le.mpr c2)] at hQ
      rcases pk_ix i (n := txt.length) (by omega) with z | z | ⟨j, hj, z⟩
      · exact absurd z c1
      · exact absurd c2 (Int32.not_lt.mpr z)
      subst z
      rw [nI_clamp (by omega)] at hQ
      refine lv_aload_n cx.x cx.b d_Mo_text_16 rfl (lv_at hl 0 rfl) ?_
      refine gf_Mo_7_Mo cx M0.1.1 rfl d_Mo_text_17 ?_
      refine lv_iload_n cx.x cx.b d_Mo_text_20 rfl (lv_at hl 1 rfl) ?_
      refine hx_iald cx.x cx.b cx.K 0 (M0.1.2.1 0 (by decide)) rfl (show vp_in (nI j) 480 from vp_in_nI (show j < 480 by omega) (by decide)) d_Mo_text_21 ?_
      refine lv_topi (fun x14 e_x14 => ?_)
      have e_x14 : x14 = nI ((g.1 0) j) := e_x14.trans (congrArg (fun z9 => nI ((g.1 0) z9)) (nI_clamp (by omega)))
      subst e_x14
      rw [← hQ]
      exact hx_reti cx.x cx.b cx.r cx.k rfl hlo (fun _ h => h) (Nat.le_of_ble_eq_true rfl) (Nat.le_of_ble_eq_true rfl) d_Mo_text_22 (⟨by rw [hx j hj], rfl⟩)
    · rw [hs] at c2
      rw [if_pos (Int32.not_lt.mp c2)] at hQ
      refine lv_iconst (v := (-1)) cx.x cx.b d_Mo_text_12 (by decide) ?_
      refine lv_goto (tgt := 22) cx.x cx.b d_Mo_text_13 (by decide) ?_
      rw [← hQ]
      exact hx_reti cx.x cx.b cx.r cx.k rfl hlo (fun _ h => h) (Nat.le_of_ble_eq_true rfl) (Nat.le_of_ble_eq_true rfl) d_Mo_text_22 (⟨rfl, rfl⟩)

set_option maxHeartbeats 4000000 in
set_option maxRecDepth 100000 in
theorem c_Mo_types (l : Launch) {E : hE} (hE : EnvOk E) {H : Heap} {a : Nat} {ad : Nat → Nat} {g : MS} (M : Mo E H a ad g) (hc : (g.2 2) = 0 ∨ (g.2 2) = 1) {b : Nat} (hb : b < 2) : Ct l E y_Mo_types b_Mo_types 2 (some .int) (rmA 1 0 0) [.ref a, .int (nI b)] H (hQi (fun r H1 => r = nI ((g.1 2) (if (g.2 2) = 0 then b else 1 - b)) ∧ H1 = H)) := by
  refine hx_enter hE (by decide) (Nat.le_of_ble_eq_true rfl) ?_
  intro p e s m args below meth c ls cx hnm hl
  have hl : lv_has ls 2 [(0, .ref a), (1, .int (nI b))] := hl
  have hlo : hLo (eB E) [] := hLo.nil
  generalize hQ : MQ below _ args s _ _ _ = Q
  have M0 : Mw E H H a ad g := ⟨M, hCh.rf, rfl⟩
  refine lv_iload_n cx.x cx.b d_Mo_types_0 rfl (lv_at hl 1 rfl) ?_
  refine hx_calli (iv_Mo_173 cx (c_Mo_none l hE (H := H) (nI b)) rfl hl.1 rfl (Nat.le_of_ble_eq_true rfl) d_Mo_types_1 ⟨Nat.le_of_ble_eq_true rfl, Nat.le_of_ble_eq_true rfl⟩ ⟨Nat.le_of_ble_eq_true rfl, Nat.le_of_ble_eq_true rfl⟩) hlo (fun _ h => h) (fun r17 H16 locs hp15 hlo => ?_)
  obtain ⟨hp15, hH9⟩ := hp15
  have hH9 := hH9.symm
  subst hH9
  rw [show decide (¬ (nI b = 0 ∨ nI b = 1)) = false from decide_eq_false (fun z => z (by rcases (show b = 0 ∨ b = 1 by omega) with e | e; rw [e]; exact Or.inl rfl; rw [e]; exact Or.inr rfl))] at hp15
  subst hp15
  refine lv_if_eq (tgt := 11) cx.x cx.b d_Mo_types_4 (by decide) (fun _ => ?_) (fun c => absurd (by decide) c)
  refine lv_aload_n cx.x cx.b d_Mo_types_11 rfl (lv_at hl 0 rfl) ?_
  refine gf_Mo_16_Mo cx M0.1.1 rfl d_Mo_types_12 ?_
  refine lv_aload_n cx.x cx.b d_Mo_types_15 rfl (lv_at hl 0 rfl) ?_
  refine lv_iload_n cx.x cx.b d_Mo_types_16 rfl (lv_at hl 1 rfl) ?_
  refine hx_calli (iv_Mo_176_Mo cx (c_Mo_side l hE M hc hb) M0.1.1 rfl hl.1 rfl (Nat.le_of_ble_eq_true rfl) d_Mo_types_17 ⟨Nat.le_of_ble_eq_true rfl, Nat.le_of_ble_eq_true rfl⟩ ⟨Nat.le_of_ble_eq_true rfl, Nat.le_of_ble_eq_true rfl⟩) hlo (fun _ h => h) (fun r20 H19 locs hp18 hlo => ?_)
  obtain ⟨hp18, hH9⟩ := hp18
  have hH9 := hH9.symm
  subst hH9
  have hsl : (if (g.2 2) = 0 then b else 1 - b) < 2 := by by_cases c : (g.2 2) = 0; rw [if_pos c]; exact hb; rw [if_neg c]; omega
  generalize (if (g.2 2) = 0 then b else 1 - b) = sd at *
  subst hp18
  refine hx_iald cx.x cx.b cx.K 0 (M0.1.2.1 2 (by decide)) rfl (show vp_in (nI sd) 2 from vp_in_nI (show sd < 2 by omega) (by decide)) d_Mo_types_20 ?_
  refine lv_topi (fun x21 e_x21 => ?_)
  have e_x21 : x21 = nI ((g.1 2) sd) := e_x21.trans (congrArg (fun z9 => nI ((g.1 2) z9)) (nI_clamp (by omega)))
  subst e_x21
  rw [← hQ]
  exact hx_reti cx.x cx.b cx.r cx.k rfl hlo (fun _ h => h) (Nat.le_of_ble_eq_true rfl) (Nat.le_of_ble_eq_true rfl) d_Mo_types_21 (⟨rfl, rfl⟩)

set_option maxHeartbeats 4000000 in
set_option maxRecDepth 100000 in
theorem c_Mo_typesN (l : Launch) {E : hE} (hE : EnvOk E) {H : Heap} {a : Nat} {ad : Nat → Nat} {g : MS} (M : Mo E H a ad g) {b : Int32} (hb : ¬ (b = 0 ∨ b = 1)) : Ct l E y_Mo_types b_Mo_types 2 (some .int) (rmA 1 0 0) [.ref a, .int b] H (hQi (fun r H1 => r = -1 ∧ H1 = H)) := by
  refine hx_enter hE (by decide) (Nat.le_of_ble_eq_true rfl) ?_
  intro p e s m args below meth c ls cx hnm hl
  have hl : lv_has ls 2 [(0, .ref a), (1, .int b)] := hl
  have hlo : hLo (eB E) [] := hLo.nil
  generalize hQ : MQ below _ args s _ _ _ = Q
  have M0 : Mw E H H a ad g := ⟨M, hCh.rf, rfl⟩
  refine lv_iload_n cx.x cx.b d_Mo_types_0 rfl (lv_at hl 1 rfl) ?_
  refine hx_calli (iv_Mo_173 cx (c_Mo_none l hE (H := H) b) rfl hl.1 rfl (Nat.le_of_ble_eq_true rfl) d_Mo_types_1 ⟨Nat.le_of_ble_eq_true rfl, Nat.le_of_ble_eq_true rfl⟩ ⟨Nat.le_of_ble_eq_true rfl, Nat.le_of_ble_eq_true rfl⟩) hlo (fun _ h => h) (fun r24 H23 locs hp22 hlo => ?_)
  obtain ⟨hp22, hH9⟩ := hp22
  have hH9 := hH9.symm
  subst hH9
  rw [decide_eq_true hb] at hp22
  subst hp22
  refine lv_if_eq (tgt := 11) cx.x cx.b d_Mo_types_4 (by decide) (fun c => absurd c (by decide)) (fun _ => ?_)
  refine lv_iconst (v := (-1)) cx.x cx.b d_Mo_types_7 (by decide) ?_
  refine lv_goto (tgt := 21) cx.x cx.b d_Mo_types_8 (by decide) ?_
  rw [← hQ]
  exact hx_reti cx.x cx.b cx.r cx.k rfl hlo (fun _ h => h) (Nat.le_of_ble_eq_true rfl) (Nat.le_of_ble_eq_true rfl) d_Mo_types_21 (⟨rfl, rfl⟩)

set_option maxHeartbeats 4000000 in
set_option maxRecDepth 100000 in
theorem c_Mo_readN (l : Launch) {E : hE} (hE : EnvOk E) {H : Heap} {a : Nat} {ad : Nat → Nat} {g : MS} (M : Mo E H a ad g) {b : Int32} (hb : ¬ (b = 0 ∨ b = 1)) : Ct l E y_Mo_read b_Mo_read 9 (some .int) (rmA 7 0 0) [.ref a, .int b] H (hQi (fun r H1 => r = -1 ∧ H1 = H)) := by
  refine hx_enter hE (by decide) (Nat.le_of_ble_eq_true rfl) ?_
  intro p e s m args below meth c ls cx hnm hl
  have hl : lv_has ls 9 [(0, .ref a), (1, .int b)] := hl
  have hlo : hLo (eB E) [] := hLo.nil
  generalize hQ : MQ below _ args s _ _ _ = Q
  have M0 : Mw E H H a ad g := ⟨M, hCh.rf, rfl⟩
  refine lv_iload_n cx.x cx.b d_Mo_read_0 rfl (lv_at hl 1 rfl) ?_
  refine hx_calli (iv_Mo_173 cx (c_Mo_none l hE (H := H) b) rfl hl.1 rfl (Nat.le_of_ble_eq_true rfl) d_Mo_read_1 ⟨Nat.le_of_ble_eq_true rfl, Nat.le_of_ble_eq_true rfl⟩ ⟨Nat.le_of_ble_eq_true rfl, Nat.le_of_ble_eq_true rfl⟩) hlo (fun _ h => h) (fun r27 H26 locs hp25 hlo => ?_)
  obtain ⟨hp25, hH9⟩ := hp25
  have hH9 := hH9.symm
  subst hH9
  rw [decide_eq_true hb] at hp25
  subst hp25
  refine lv_if_eq (tgt := 9) cx.x cx.b d_Mo_read_4 (by decide) (fun c => absurd c (by decide)) (fun _ => ?_)
  refine lv_iconst (v := (-1)) cx.x cx.b d_Mo_read_7 (by decide) ?_
  rw [← hQ]
  exact hx_reti cx.x cx.b cx.r cx.k rfl hlo (fun _ h => h) (Nat.le_of_ble_eq_true rfl) (Nat.le_of_ble_eq_true rfl) d_Mo_read_8 (⟨rfl, rfl⟩)

set_option maxHeartbeats 4000000 in
set_option maxRecDepth 100000 in
theorem c_Mo_writeN (l : Launch) {E : hE} (hE : EnvOk E) {H : Heap} {a : Nat} {ad : Nat → Nat} {g : MS} (M : Mo E H a ad g) {b : Int32} (hb : ¬ (b = 0 ∨ b = 1)) : Ct l E y_Mo_write b_Mo_write 6 (some .int) (rmA 4 0 0) [.ref a, .int b] H (hQi (fun r H1 => r = -1 ∧ H1 = H)) := by
  refine hx_enter hE (by decide) (Nat.le_of_ble_eq_true rfl) ?_
  intro p e s m args below meth c ls cx hnm hl
  have hl : lv_has ls 6 [(0, .ref a), (1, .int b)] := hl
  have hlo : hLo (eB E) [] := hLo.nil
  generalize hQ : MQ below _ args s _ _ _ = Q
  have M0 : Mw E H H a ad g := ⟨M, hCh.rf, rfl⟩
  refine lv_iload_n cx.x cx.b d_Mo_write_0 rfl (lv_at hl 1 rfl) ?_
  refine hx_calli (iv_Mo_173 cx (c_Mo_none l hE (H := H) b) rfl hl.1 rfl (Nat.le_of_ble_eq_true rfl) d_Mo_write_1 ⟨Nat.le_of_ble_eq_true rfl, Nat.le_of_ble_eq_true rfl⟩ ⟨Nat.le_of_ble_eq_true rfl, Nat.le_of_ble_eq_true rfl⟩) hlo (fun _ h => h) (fun r30 H29 locs hp28 hlo => ?_)
  obtain ⟨hp28, hH9⟩ := hp28
  have hH9 := hH9.symm
  subst hH9
  rw [decide_eq_true hb] at hp28
  subst hp28
  refine lv_if_eq (tgt := 9) cx.x cx.b d_Mo_write_4 (by decide) (fun c => absurd c (by decide)) (fun _ => ?_)
  refine lv_iconst (v := (-1)) cx.x cx.b d_Mo_write_7 (by decide) ?_
  rw [← hQ]
  exact hx_reti cx.x cx.b cx.r cx.k rfl hlo (fun _ h => h) (Nat.le_of_ble_eq_true rfl) (Nat.le_of_ble_eq_true rfl) d_Mo_write_8 (⟨rfl, rfl⟩)

set_option maxHeartbeats 4000000 in
set_option maxRecDepth 100000 in
theorem c_Mo_lostN (l : Launch) {E : hE} (hE : EnvOk E) {H : Heap} {a : Nat} {ad : Nat → Nat} {g : MS} (M : Mo E H a ad g) {b : Int32} (hb : ¬ (b = 0 ∨ b = 1)) : Ct l E y_Mo_lost b_Mo_lost 8 (some .int) (rmA 4 0 0) [.ref a, .int b] H (hQi (fun r H1 => r = -1 ∧ H1 = H)) := by
  refine hx_enter hE (by decide) (Nat.le_of_ble_eq_true rfl) ?_
  intro p e s m args below meth c ls cx hnm hl
  have hl : lv_has ls 8 [(0, .ref a), (1, .int b)] := hl
  have hlo : hLo (eB E) [] := hLo.nil
  generalize hQ : MQ below _ args s _ _ _ = Q
  have M0 : Mw E H H a ad g := ⟨M, hCh.rf, rfl⟩
  refine lv_iload_n cx.x cx.b d_Mo_lost_0 rfl (lv_at hl 1 rfl) ?_
  refine hx_calli (iv_Mo_173 cx (c_Mo_none l hE (H := H) b) rfl hl.1 rfl (Nat.le_of_ble_eq_true rfl) d_Mo_lost_1 ⟨Nat.le_of_ble_eq_true rfl, Nat.le_of_ble_eq_true rfl⟩ ⟨Nat.le_of_ble_eq_true rfl, Nat.le_of_ble_eq_true rfl⟩) hlo (fun _ h => h) (fun r33 H32 locs hp31 hlo => ?_)
  obtain ⟨hp31, hH9⟩ := hp31
  have hH9 := hH9.symm
  subst hH9
  rw [decide_eq_true hb] at hp31
  subst hp31
  refine lv_if_eq (tgt := 9) cx.x cx.b d_Mo_lost_4 (by decide) (fun c => absurd c (by decide)) (fun _ => ?_)
  refine lv_iconst (v := (-1)) cx.x cx.b d_Mo_lost_7 (by decide) ?_
  rw [← hQ]
  exact hx_reti cx.x cx.b cx.r cx.k rfl hlo (fun _ h => h) (Nat.le_of_ble_eq_true rfl) (Nat.le_of_ble_eq_true rfl) d_Mo_lost_8 (⟨rfl, rfl⟩)

set_option maxHeartbeats 4000000 in
set_option maxRecDepth 100000 in
theorem c_Mo_begins (l : Launch) {E : hE} (hE : EnvOk E) {H : Heap} {x : Nat} (hx : x < 1000) : Ct l E y_Mo_begins b_Mo_begins 1 (some .boolean) (rmA 0 0 0) [.int (nI x)] H (hQi (fun r H1 => r = bI (isLt x) ∧ H1 = H)) := by
  refine hx_enter hE (by decide) (Nat.le_of_ble_eq_true rfl) ?_
  intro p e s m args below meth c ls cx hnm hl
  have hl : lv_has ls 1 [(0, .int (nI x))] := hl
  have hlo : hLo (eB E) [] := hLo.nil
  generalize hQ : MQ below _ args s _ _ _ = Q
  unfold isLt at hQ
  refine lv_iload_n cx.x cx.b d_Mo_begins_0 rfl (lv_at hl 0 rfl) ?_
  refine lv_bipush (v := 65) cx.x cx.b d_Mo_begins_1 (by decide) ?_
  refine lv_icmp_lt (tgt := 12) cx.x cx.b d_Mo_begins_3 (by decide) (fun c1 => ?_) (fun c1 => ?_)
  · have c1 : x < 65 := (nI_ltI (a := x) (b := 65) (by omega) (by omega)).mp c1
    refine lv_iload_n cx.x cx.b d_Mo_begins_12 rfl (lv_at hl 0 rfl) ?_
    refine lv_bipush (v := 97) cx.x cx.b d_Mo_begins_13 (by decide) ?_
    refine lv_icmp_lt (tgt := 24) cx.x cx.b d_Mo_begins_15 (by decide) (fun c2 => ?_) (fun c2 => ?_)
    · have c2 : x < 97 := (nI_ltI (a := x) (b := 97) (by omega) (by omega)).mp c2
      refine lv_iload_n cx.x cx.b d_Mo_begins_24 rfl (lv_at hl 0 rfl) ?_
      refine lv_bipush (v := 36) cx.x cx.b d_Mo_begins_25 (by decide) ?_
      refine lv_icmp_eq (tgt := 36) cx.x cx.b d_Mo_begins_27 (by decide) (fun c3 => ?_) (fun c3 => ?_)
      · have c3 : x = 36 := (nI_eq (a := x) (b := 36) (by omega) (by omega)).mp c3
        refine lv_iconst (v := 1) cx.x cx.b d_Mo_begins_36 (by decide) ?_
        refine lv_goto (tgt := 41) cx.x cx.b d_Mo_begins_37 (by decide) ?_
        skip
        rw [← hQ]
        exact hx_reti cx.x cx.b cx.r cx.k rfl hlo (fun _ h => h) (Nat.le_of_ble_eq_true rfl) (Nat.le_of_ble_eq_true rfl) d_Mo_begins_41 (⟨by rw [show (decide ((97 ≤ x ∧ x ≤ 122) ∨ (65 ≤ x ∧ x ≤ 90) ∨ x = 36 ∨ x = 95) : Bool) = true by simp; omega]; rfl, rfl⟩)
      · have c3 : x ≠ 36 := fun zz => c3 ((nI_eq (a := x) (b := 36) (by omega) (by omega)).mpr zz)
        refine lv_iload_n cx.x cx.b d_Mo_begins_30 rfl (lv_at hl 0 rfl) ?_
        refine lv_bipush (v := 95) cx.x cx.b d_Mo_begins_31 (by decide) ?_
        refine lv_icmp_ne (tgt := 40) cx.x cx.b d_Mo_begins_33 (by decide) (fun c4 => ?_) (fun c4 => ?_)
        · have c4 : x ≠ 95 := fun zz => c4 ((nI_eq (a := x) (b := 95) (by omega) (by omega)).mpr zz)
          refine lv_iconst (v := 0) cx.x cx.b d_Mo_begins_40 (by decide) ?_
          skip
          rw [← hQ]
          exact hx_reti cx.x cx.b cx.r cx.k rfl hlo (fun _ h => h) (Nat.le_of_ble_eq_true rfl) (Nat.le_of_ble_eq_true rfl) d_Mo_begins_41 (⟨by rw [show (decide ((97 ≤ x ∧ x ≤ 122) ∨ (65 ≤ x ∧ x ≤ 90) ∨ x = 36 ∨ x = 95) : Bool) = false by simp; omega]; rfl, rfl⟩)
        · have c4 : x = 95 := (nI_eq (a := x) (b := 95) (by omega) (by omega)).mp c4
          refine lv_iconst (v := 1) cx.x cx.b d_Mo_begins_36 (by decide) ?_
          refine lv_goto (tgt := 41) cx.x cx.b d_Mo_begins_37 (by decide) ?_
          skip
          rw [← hQ]
          exact hx_reti cx.x cx.b cx.r cx.k rfl hlo (fun _ h => h) (Nat.le_of_ble_eq_true rfl) (Nat.le_of_ble_eq_true rfl) d_Mo_begins_41 (⟨by rw [show (decide ((97 ≤ x ∧ x ≤ 122) ∨ (65 ≤ x ∧ x ≤ 90) ∨ x = 36 ∨ x = 95) : Bool) = true by simp; omega]; rfl, rfl⟩)
    · have c2 : 97 ≤ x := Nat.not_lt.mp (fun zz => c2 ((nI_ltI (a := x) (b := 97) (by omega) (by omega)).mpr zz))
      refine lv_iload_n cx.x cx.b d_Mo_begins_18 rfl (lv_at hl 0 rfl) ?_
      refine lv_bipush (v := 122) cx.x cx.b d_Mo_begins_19 (by decide) ?_
      refine lv_icmp_le (tgt := 36) cx.x cx.b d_Mo_begins_21 (by decide) (fun c3 => ?_) (fun c3 => ?_)
      · have c3 : x ≤ 122 := (nI_leI (a := x) (b := 122) (by omega) (by omega)).mp c3
        refine lv_iconst (v := 1) cx.x cx.b d_Mo_begins_36 (by decide) ?_
        refine lv_goto (tgt := 41) cx.x cx.b d_Mo_begins_37 (by decide) ?_
        skip
        rw [← hQ]
        exact hx_reti cx.x cx.b cx.r cx.k rfl hlo (fun _ h => h) (Nat.le_of_ble_eq_true rfl) (Nat.le_of_ble_eq_true rfl) d_Mo_begins_41 (⟨by rw [show (decide ((97 ≤ x ∧ x ≤ 122) ∨ (65 ≤ x ∧ x ≤ 90) ∨ x = 36 ∨ x = 95) : Bool) = true by simp; omega]; rfl, rfl⟩)
      · have c3 : 122 < x := Nat.not_le.mp (fun zz => c3 ((nI_leI (a := x) (b := 122) (by omega) (by omega)).mpr zz))
        refine lv_iload_n cx.x cx.b d_Mo_begins_24 rfl (lv_at hl 0 rfl) ?_
        refine lv_bipush (v := 36) cx.x cx.b d_Mo_begins_25 (by decide) ?_
        refine lv_icmp_eq (tgt := 36) cx.x cx.b d_Mo_begins_27 (by decide) (fun c4 => ?_) (fun c4 => ?_)
        · have c4 : x = 36 := (nI_eq (a := x) (b := 36) (by omega) (by omega)).mp c4
          refine lv_iconst (v := 1) cx.x cx.b d_Mo_begins_36 (by decide) ?_
          refine lv_goto (tgt := 41) cx.x cx.b d_Mo_begins_37 (by decide) ?_
          skip
          rw [← hQ]
          exact hx_reti cx.x cx.b cx.r cx.k rfl hlo (fun _ h => h) (Nat.le_of_ble_eq_true rfl) (Nat.le_of_ble_eq_true rfl) d_Mo_begins_41 (⟨by rw [show (decide ((97 ≤ x ∧ x ≤ 122) ∨ (65 ≤ x ∧ x ≤ 90) ∨ x = 36 ∨ x = 95) : Bool) = true by simp; omega]; rfl, rfl⟩)
        · have c4 : x ≠ 36 := fun zz => c4 ((nI_eq (a := x) (b := 36) (by omega) (by omega)).mpr zz)
          refine lv_iload_n cx.x cx.b d_Mo_begins_30 rfl (lv_at hl 0 rfl) ?_
          refine lv_bipush (v := 95) cx.x cx.b d_Mo_begins_31 (by decide) ?_
          refine lv_icmp_ne (tgt := 40) cx.x cx.b d_Mo_begins_33 (by decide) (fun c5 => ?_) (fun c5 => ?_)
          · have c5 : x ≠ 95 := fun zz => c5 ((nI_eq (a := x) (b := 95) (by omega) (by omega)).mpr zz)
            refine lv_iconst (v := 0) cx.x cx.b d_Mo_begins_40 (by decide) ?_
            skip
            rw [← hQ]
            exact hx_reti cx.x cx.b cx.r cx.k rfl hlo (fun _ h => h) (Nat.le_of_ble_eq_true rfl) (Nat.le_of_ble_eq_true rfl) d_Mo_begins_41 (⟨by rw [show (decide ((97 ≤ x ∧ x ≤ 122) ∨ (65 ≤ x ∧ x ≤ 90) ∨ x = 36 ∨ x = 95) : Bool) = false by simp; omega]; rfl, rfl⟩)
          · have c5 : x = 95 := (nI_eq (a := x) (b := 95) (by omega) (by omega)).mp c5
            refine lv_iconst (v := 1) cx.x cx.b d_Mo_begins_36 (by decide) ?_
            refine lv_goto (tgt := 41) cx.x cx.b d_Mo_begins_37 (by decide) ?_
            skip
            rw [← hQ]
            exact hx_reti cx.x cx.b cx.r cx.k rfl hlo (fun _ h => h) (Nat.le_of_ble_eq_true rfl) (Nat.le_of_ble_eq_true rfl) d_Mo_begins_41 (⟨by rw [show (decide ((97 ≤ x ∧ x ≤ 122) ∨ (65 ≤ x ∧ x ≤ 90) ∨ x = 36 ∨ x = 95) : Bool) = true by simp; omega]; rfl, rfl⟩)
  · have c1 : 65 ≤ x := Nat.not_lt.mp (fun zz => c1 ((nI_ltI (a := x) (b := 65) (by omega) (by omega)).mpr zz))
    refine lv_iload_n cx.x cx.b d_Mo_begins_6 rfl (lv_at hl 0 rfl) ?_
    refine lv_bipush (v := 90) cx.x cx.b d_Mo_begins_7 (by decide) ?_
    refine lv_icmp_le (tgt := 36) cx.x cx.b d_Mo_begins_9 (by decide) (fun c2 => ?_) (fun c2 => ?_)
    · have c2 : x ≤ 90 := (nI_leI (a := x) (b := 90) (by omega) (by omega)).mp c2
      refine lv_iconst (v := 1) cx.x cx.b d_Mo_begins_36 (by decide) ?_
      refine lv_goto (tgt := 41) cx.x cx.b d_Mo_begins_37 (by decide) ?_
      skip
      rw [← hQ]
      exact hx_reti cx.x cx.b cx.r cx.k rfl hlo (fun _ h => h) (Nat.le_of_ble_eq_true rfl) (Nat.le_of_ble_eq_true rfl) d_Mo_begins_41 (⟨by rw [show (decide ((97 ≤ x ∧ x ≤ 122) ∨ (65 ≤ x ∧ x ≤ 90) ∨ x = 36 ∨ x = 95) : Bool) = true by simp; omega]; rfl, rfl⟩)
    · have c2 : 90 < x := Nat.not_le.mp (fun zz => c2 ((nI_leI (a := x) (b := 90) (by omega) (by omega)).mpr zz))
      refine lv_iload_n cx.x cx.b d_Mo_begins_12 rfl (lv_at hl 0 rfl) ?_
      refine lv_bipush (v := 97) cx.x cx.b d_Mo_begins_13 (by decide) ?_
      refine lv_icmp_lt (tgt := 24) cx.x cx.b d_Mo_begins_15 (by decide) (fun c3 => ?_) (fun c3 => ?_)
      · have c3 : x < 97 := (nI_ltI (a := x) (b := 97) (by omega) (by omega)).mp c3
        refine lv_iload_n cx.x cx.b d_Mo_begins_24 rfl (lv_at hl 0 rfl) ?_
        refine lv_bipush (v := 36) cx.x cx.b d_Mo_begins_25 (by decide) ?_
        refine lv_icmp_eq (tgt := 36) cx.x cx.b d_Mo_begins_27 (by decide) (fun c4 => ?_) (fun c4 => ?_)
        · have c4 : x = 36 := (nI_eq (a := x) (b := 36) (by omega) (by omega)).mp c4
          refine lv_iconst (v := 1) cx.x cx.b d_Mo_begins_36 (by decide) ?_
          refine lv_goto (tgt := 41) cx.x cx.b d_Mo_begins_37 (by decide) ?_
          skip
          rw [← hQ]
          exact hx_reti cx.x cx.b cx.r cx.k rfl hlo (fun _ h => h) (Nat.le_of_ble_eq_true rfl) (Nat.le_of_ble_eq_true rfl) d_Mo_begins_41 (⟨by rw [show (decide ((97 ≤ x ∧ x ≤ 122) ∨ (65 ≤ x ∧ x ≤ 90) ∨ x = 36 ∨ x = 95) : Bool) = true by simp; omega]; rfl, rfl⟩)
        · have c4 : x ≠ 36 := fun zz => c4 ((nI_eq (a := x) (b := 36) (by omega) (by omega)).mpr zz)
          refine lv_iload_n cx.x cx.b d_Mo_begins_30 rfl (lv_at hl 0 rfl) ?_
          refine lv_bipush (v := 95) cx.x cx.b d_Mo_begins_31 (by decide) ?_
          refine lv_icmp_ne (tgt := 40) cx.x cx.b d_Mo_begins_33 (by decide) (fun c5 => ?_) (fun c5 => ?_)
          · have c5 : x ≠ 95 := fun zz => c5 ((nI_eq (a := x) (b := 95) (by omega) (by omega)).mpr zz)
            refine lv_iconst (v := 0) cx.x cx.b d_Mo_begins_40 (by decide) ?_
            skip
            rw [← hQ]
            exact hx_reti cx.x cx.b cx.r cx.k rfl hlo (fun _ h => h) (Nat.le_of_ble_eq_true rfl) (Nat.le_of_ble_eq_true rfl) d_Mo_begins_41 (⟨by rw [show (decide ((97 ≤ x ∧ x ≤ 122) ∨ (65 ≤ x ∧ x ≤ 90) ∨ x = 36 ∨ x = 95) : Bool) = false by simp; omega]; rfl, rfl⟩)
          · have c5 : x = 95 := (nI_eq (a := x) (b := 95) (by omega) (by omega)).mp c5
            refine lv_iconst (v := 1) cx.x cx.b d_Mo_begins_36 (by decide) ?_
            refine lv_goto (tgt := 41) cx.x cx.b d_Mo_begins_37 (by decide) ?_
            skip
            rw [← hQ]
            exact hx_reti cx.x cx.b cx.r cx.k rfl hlo (fun _ h => h) (Nat.le_of_ble_eq_true rfl) (Nat.le_of_ble_eq_true rfl) d_Mo_begins_41 (⟨by rw [show (decide ((97 ≤ x ∧ x ≤ 122) ∨ (65 ≤ x ∧ x ≤ 90) ∨ x = 36 ∨ x = 95) : Bool) = true by simp; omega]; rfl, rfl⟩)
      · have c3 : 97 ≤ x := Nat.not_lt.mp (fun zz => c3 ((nI_ltI (a := x) (b := 97) (by omega) (by omega)).mpr zz))
        refine lv_iload_n cx.x cx.b d_Mo_begins_18 rfl (lv_at hl 0 rfl) ?_
        refine lv_bipush (v := 122) cx.x cx.b d_Mo_begins_19 (by decide) ?_
        refine lv_icmp_le (tgt := 36) cx.x cx.b d_Mo_begins_21 (by decide) (fun c4 => ?_) (fun c4 => ?_)
        · have c4 : x ≤ 122 := (nI_leI (a := x) (b := 122) (by omega) (by omega)).mp c4
          refine lv_iconst (v := 1) cx.x cx.b d_Mo_begins_36 (by decide) ?_
          refine lv_goto (tgt := 41) cx.x cx.b d_Mo_begins_37 (by decide) ?_
          skip
          rw [← hQ]
          exact hx_reti cx.x cx.b cx.r cx.k rfl hlo (fun _ h => h) (Nat.le_of_ble_eq_true rfl) (Nat.le_of_ble_eq_true rfl) d_Mo_begins_41 (⟨by rw [show (decide ((97 ≤ x ∧ x ≤ 122) ∨ (65 ≤ x ∧ x ≤ 90) ∨ x = 36 ∨ x = 95) : Bool) = true by simp; omega]; rfl, rfl⟩)
        · have c4 : 122 < x := Nat.not_le.mp (fun zz => c4 ((nI_leI (a := x) (b := 122) (by omega) (by omega)).mpr zz))
          refine lv_iload_n cx.x cx.b d_Mo_begins_24 rfl (lv_at hl 0 rfl) ?_
          refine lv_bipush (v := 36) cx.x cx.b d_Mo_begins_25 (by decide) ?_
          refine lv_icmp_eq (tgt := 36) cx.x cx.b d_Mo_begins_27 (by decide) (fun c5 => ?_) (fun c5 => ?_)
          · have c5 : x = 36 := (nI_eq (a := x) (b := 36) (by omega) (by omega)).mp c5
            refine lv_iconst (v := 1) cx.x cx.b d_Mo_begins_36 (by decide) ?_
            refine lv_goto (tgt := 41) cx.x cx.b d_Mo_begins_37 (by decide) ?_
            skip
            rw [← hQ]
            exact hx_reti cx.x cx.b cx.r cx.k rfl hlo (fun _ h => h) (Nat.le_of_ble_eq_true rfl) (Nat.le_of_ble_eq_true rfl) d_Mo_begins_41 (⟨by rw [show (decide ((97 ≤ x ∧ x ≤ 122) ∨ (65 ≤ x ∧ x ≤ 90) ∨ x = 36 ∨ x = 95) : Bool) = true by simp; omega]; rfl, rfl⟩)
          · have c5 : x ≠ 36 := fun zz => c5 ((nI_eq (a := x) (b := 36) (by omega) (by omega)).mpr zz)
            refine lv_iload_n cx.x cx.b d_Mo_begins_30 rfl (lv_at hl 0 rfl) ?_
            refine lv_bipush (v := 95) cx.x cx.b d_Mo_begins_31 (by decide) ?_
            refine lv_icmp_ne (tgt := 40) cx.x cx.b d_Mo_begins_33 (by decide) (fun c6 => ?_) (fun c6 => ?_)
            · have c6 : x ≠ 95 := fun zz => c6 ((nI_eq (a := x) (b := 95) (by omega) (by omega)).mpr zz)
              refine lv_iconst (v := 0) cx.x cx.b d_Mo_begins_40 (by decide) ?_
              skip
              rw [← hQ]
              exact hx_reti cx.x cx.b cx.r cx.k rfl hlo (fun _ h => h) (Nat.le_of_ble_eq_true rfl) (Nat.le_of_ble_eq_true rfl) d_Mo_begins_41 (⟨by rw [show (decide ((97 ≤ x ∧ x ≤ 122) ∨ (65 ≤ x ∧ x ≤ 90) ∨ x = 36 ∨ x = 95) : Bool) = false by simp; omega]; rfl, rfl⟩)
            · have c6 : x = 95 := (nI_eq (a := x) (b := 95) (by omega) (by omega)).mp c6
              refine lv_iconst (v := 1) cx.x cx.b d_Mo_begins_36 (by decide) ?_
              refine lv_goto (tgt := 41) cx.x cx.b d_Mo_begins_37 (by decide) ?_
              skip
              rw [← hQ]
              exact hx_reti cx.x cx.b cx.r cx.k rfl hlo (fun _ h => h) (Nat.le_of_ble_eq_true rfl) (Nat.le_of_ble_eq_true rfl) d_Mo_begins_41 (⟨by rw [show (decide ((97 ≤ x ∧ x ≤ 122) ∨ (65 ≤ x ∧ x ≤ 90) ∨ x = 36 ∨ x = 95) : Bool) = true by simp; omega]; rfl, rfl⟩)

set_option maxHeartbeats 4000000 in
set_option maxRecDepth 100000 in
theorem c_Mo_put (l : Launch) {E : hE} (hE : EnvOk E) {H : Heap} {a : Nat} {ad : Nat → Nat} {g : MS} (M : Mo E H a ad g) {x : Nat} (hw : (g.2 11) < 300) : Ct l E y_Mo_put b_Mo_put 2 none (rmA 0 0 0) [.ref a, .int (nI x)] H (hQv (fun H1 => Mw E H H1 a ad (up g.1 12 (updN (g.1 12) (g.2 11) x), up g.2 11 ((g.2 11) + 1)))) := by
  refine hx_enter hE (by decide) (Nat.le_of_ble_eq_true rfl) ?_
  intro p e s m args below meth c ls cx hnm hl
  have hl : lv_has ls 2 [(0, .ref a), (1, .int (nI x))] := hl
  have hlo : hLo (eB E) [] := hLo.nil
  generalize hQ : MQ below _ args s _ _ _ = Q
  have M0 : Mw E H H a ad g := ⟨M, hCh.rf, rfl⟩
  refine lv_aload_n cx.x cx.b d_Mo_put_0 rfl (lv_at hl 0 rfl) ?_
  refine gf_Mo_46_Mo cx M0.1.1 rfl d_Mo_put_1 ?_
  refine lv_aload_n cx.x cx.b d_Mo_put_4 rfl (lv_at hl 0 rfl) ?_
  refine gf_Mo_195_Mo cx M0.1.1 rfl d_Mo_put_5 ?_
  refine lv_iload_n cx.x cx.b d_Mo_put_8 rfl (lv_at hl 1 rfl) ?_
  refine hx_iast cx.x cx.b cx.K 0 (M0.1.2.1 12 (by decide)) hlo (M0.1.2.2.2.1 12 (by decide)).1 rfl (show vp_in (nI (g.2 11)) 300 from vp_in_nI (show (g.2 11) < 300 by omega) (by decide)) d_Mo_put_9 (fun H34 locs ha35 z_H34 o_H34 hlo => ?_)
  have M36 : Mw E H H34 a ad (up g.1 12 (updN (g.1 12) (g.2 11) x), g.2) := M0.ar (up g.1 12 (updN (g.1 12) (g.2 11) x), g.2) 12 (by decide) (by have h9 := ha35; rw [nI_clamp (by omega)] at h9; exact (upd_nI (g.1 12) (g.2 11) x) ▸ h9) z_H34 o_H34 rfl (fun j hj hn => arN12 hj hn rfl rfl rfl rfl rfl rfl rfl rfl rfl rfl rfl rfl rfl)
  have oM37 : hOb (eD E) classes H34 a 10 [.ref (ad 0), .int (nI (g.2 0)), .ref (ad 1), .int (nI (g.2 1)), .int (nI (g.2 2)), .ref (ad 2), .ref (ad 3), .ref (ad 4), .ref (ad 5), .ref (ad 6), .ref (ad 7), .ref (ad 8), .ref (ad 9), .ref (ad 10), .int (nI (g.2 3)), .int (nI (g.2 4)), .int (nI (g.2 5)), .int (nI (g.2 6)), .int (nI (g.2 7)), .ref (ad 11), .int (nI (g.2 8)), .int (nI (g.2 9)), .int (nI (g.2 10)), .ref (ad 12), .int (nI (g.2 11)), .ref (ad 13)] := M36.1.1
  refine lv_aload_n cx.x cx.b d_Mo_put_10 rfl (lv_at hl 0 rfl) ?_
  refine lv_dup cx.x cx.b d_Mo_put_11 rfl ?_
  refine gf_Mo_195_Mo cx oM37 rfl d_Mo_put_12 ?_
  refine lv_iconst (v := 1) cx.x cx.b d_Mo_put_15 (by decide) ?_
  refine lv_iadd cx.x cx.b d_Mo_put_16 ?_
  refine lv_topi (fun x38 e_x38 => ?_)
  have e_x38 : x38 = nI ((g.2 11) + 1) := e_x38.trans (nI_add (g.2 11) 1)
  subst e_x38
  refine pf_Mo_195_Mo cx oM37 hlo M36.1.2.2.1 (Nat.le_of_ble_eq_true rfl) d_Mo_put_17 (fun H39 locs ho40 z_H39 o_H39 hlo => ?_)
  have ho40 : hOb (eD E) classes H39 a 10 [.ref (ad 0), .int (nI (g.2 0)), .ref (ad 1), .int (nI (g.2 1)), .int (nI (g.2 2)), .ref (ad 2), .ref (ad 3), .ref (ad 4), .ref (ad 5), .ref (ad 6), .ref (ad 7), .ref (ad 8), .ref (ad 9), .ref (ad 10), .int (nI (g.2 3)), .int (nI (g.2 4)), .int (nI (g.2 5)), .int (nI (g.2 6)), .int (nI (g.2 7)), .ref (ad 11), .int (nI (g.2 8)), .int (nI (g.2 9)), .int (nI (g.2 10)), .ref (ad 12), .int (nI ((g.2 11) + 1)), .ref (ad 13)] := ho40
  have M41 : Mw E H H39 a ad (up g.1 12 (updN (g.1 12) (g.2 11) x), up g.2 11 ((g.2 11) + 1)) := M36.sc (up g.1 12 (updN (g.1 12) (g.2 11) x), up g.2 11 ((g.2 11) + 1)) ho40 z_H39 o_H39 rfl
  have oM42 : hOb (eD E) classes H39 a 10 [.ref (ad 0), .int (nI (g.2 0)), .ref (ad 1), .int (nI (g.2 1)), .int (nI (g.2 2)), .ref (ad 2), .ref (ad 3), .ref (ad 4), .ref (ad 5), .ref (ad 6), .ref (ad 7), .ref (ad 8), .ref (ad 9), .ref (ad 10), .int (nI (g.2 3)), .int (nI (g.2 4)), .int (nI (g.2 5)), .int (nI (g.2 6)), .int (nI (g.2 7)), .ref (ad 11), .int (nI (g.2 8)), .int (nI (g.2 9)), .int (nI (g.2 10)), .ref (ad 12), .int (nI ((g.2 11) + 1)), .ref (ad 13)] := M41.1.1
  rw [← hQ]
  exact hx_retv cx.x cx.b cx.r cx.k hlo (fun _ h => h) (Nat.le_of_ble_eq_true rfl) (Nat.le_of_ble_eq_true rfl) d_Mo_put_20 (M41)

set_option maxHeartbeats 4000000 in
set_option maxRecDepth 100000 in
theorem c_Mo_fail (l : Launch) {E : hE} (hE : EnvOk E) {H : Heap} {a : Nat} {ad : Nat → Nat} {g : MS} (M : Mo E H a ad g) {x : Nat} (h1 : (g.2 3) ≤ (g.2 4)) (h2 : (g.2 3) ≤ (g.2 5)) (h3 : (g.2 4) < 1000) (h4 : (g.2 5) < 1000) : Ct l E y_Mo_fail b_Mo_fail 2 (some .boolean) (rmA 0 0 0) [.ref a, .int (nI x)] H (hQi (fun r H1 => r = 0 ∧ Mw E H H1 a ad (g.1, up (up g.2 9 x) 10 ((if (g.2 4) ≤ (g.2 5) then (g.2 4) else (g.2 5)) - (g.2 3) + 1)))) := by
  refine hx_enter hE (by decide) (Nat.le_of_ble_eq_true rfl) ?_
  intro p e s m args below meth c ls cx hnm hl
  have hl : lv_has ls 2 [(0, .ref a), (1, .int (nI x))] := hl
  have hlo : hLo (eB E) [] := hLo.nil
  generalize hQ : MQ below _ args s _ _ _ = Q
  have M0 : Mw E H H a ad g := ⟨M, hCh.rf, rfl⟩
  refine lv_aload_n cx.x cx.b d_Mo_fail_0 rfl (lv_at hl 0 rfl) ?_
  refine lv_iload_n cx.x cx.b d_Mo_fail_1 rfl (lv_at hl 1 rfl) ?_
  refine pf_Mo_116_Mo cx M0.1.1 hlo M0.1.2.2.1 (Nat.le_of_ble_eq_true rfl) d_Mo_fail_2 (fun H43 locs ho44 z_H43 o_H43 hlo => ?_)
  have ho44 : hOb (eD E) classes H43 a 10 [.ref (ad 0), .int (nI (g.2 0)), .ref (ad 1), .int (nI (g.2 1)), .int (nI (g.2 2)), .ref (ad 2), .ref (ad 3), .ref (ad 4), .ref (ad 5), .ref (ad 6), .ref (ad 7), .ref (ad 8), .ref (ad 9), .ref (ad 10), .int (nI (g.2 3)), .int (nI (g.2 4)), .int (nI (g.2 5)), .int (nI (g.2 6)), .int (nI (g.2 7)), .ref (ad 11), .int (nI (g.2 8)), .int (nI x), .int (nI (g.2 10)), .ref (ad 12), .int (nI (g.2 11)), .ref (ad 13)] := ho44
  have M45 : Mw E H H43 a ad (g.1, up g.2 9 x) := M0.sc (g.1, up g.2 9 x) ho44 z_H43 o_H43 rfl
  have oM46 : hOb (eD E) classes H43 a 10 [.ref (ad 0), .int (nI (g.2 0)), .ref (ad 1), .int (nI (g.2 1)), .int (nI (g.2 2)), .ref (ad 2), .ref (ad 3), .ref (ad 4), .ref (ad 5), .ref (ad 6), .ref (ad 7), .ref (ad 8), .ref (ad 9), .ref (ad 10), .int (nI (g.2 3)), .int (nI (g.2 4)), .int (nI (g.2 5)), .int (nI (g.2 6)), .int (nI (g.2 7)), .ref (ad 11), .int (nI (g.2 8)), .int (nI x), .int (nI (g.2 10)), .ref (ad 12), .int (nI (g.2 11)), .ref (ad 13)] := M45.1.1
  refine lv_aload_n cx.x cx.b d_Mo_fail_5 rfl (lv_at hl 0 rfl) ?_
  refine lv_aload_n cx.x cx.b d_Mo_fail_6 rfl (lv_at hl 0 rfl) ?_
  refine gf_Mo_68_Mo cx oM46 rfl d_Mo_fail_7 ?_
  refine lv_aload_n cx.x cx.b d_Mo_fail_10 rfl (lv_at hl 0 rfl) ?_
  refine gf_Mo_65_Mo cx oM46 rfl d_Mo_fail_11 ?_
  refine lv_icmp_lt (tgt := 24) cx.x cx.b d_Mo_fail_14 (by decide) (fun c1 => ?_) (fun c1 => ?_)
  · have c1 : (g.2 5) < (g.2 4) := (nI_ltI (a := (g.2 5)) (b := (g.2 4)) (by omega) (by omega)).mp c1
    rw [if_neg (by omega)] at hQ
    refine lv_aload_n cx.x cx.b d_Mo_fail_24 rfl (lv_at hl 0 rfl) ?_
    refine gf_Mo_68_Mo cx oM46 rfl d_Mo_fail_25 ?_
    refine lv_aload_n cx.x cx.b d_Mo_fail_28 rfl (lv_at hl 0 rfl) ?_
    refine gf_Mo_119_Mo cx oM46 rfl d_Mo_fail_29 ?_
    refine lv_isub cx.x cx.b d_Mo_fail_32 ?_
    refine lv_topi (fun x47 e_x47 => ?_)
    have e_x47 : x47 = nI ((g.2 5) - (g.2 3)) := e_x47.trans (pk_sub (a := (g.2 5)) (b := g.2 3) (by omega))
    subst e_x47
    refine lv_iconst (v := 1) cx.x cx.b d_Mo_fail_33 (by decide) ?_
    refine lv_iadd cx.x cx.b d_Mo_fail_34 ?_
    refine lv_topi (fun x48 e_x48 => ?_)
    have e_x48 : x48 = nI (((g.2 5) - (g.2 3)) + 1) := e_x48.trans (nI_add ((g.2 5) - (g.2 3)) 1)
    subst e_x48
    refine pf_Mo_122_Mo cx oM46 hlo M45.1.2.2.1 (Nat.le_of_ble_eq_true rfl) d_Mo_fail_35 (fun H49 locs ho50 z_H49 o_H49 hlo => ?_)
    have ho50 : hOb (eD E) classes H49 a 10 [.ref (ad 0), .int (nI (g.2 0)), .ref (ad 1), .int (nI (g.2 1)), .int (nI (g.2 2)), .ref (ad 2), .ref (ad 3), .ref (ad 4), .ref (ad 5), .ref (ad 6), .ref (ad 7), .ref (ad 8), .ref (ad 9), .ref (ad 10), .int (nI (g.2 3)), .int (nI (g.2 4)), .int (nI (g.2 5)), .int (nI (g.2 6)), .int (nI (g.2 7)), .ref (ad 11), .int (nI (g.2 8)), .int (nI x), .int (nI (((g.2 5) - (g.2 3)) + 1)), .ref (ad 12), .int (nI (g.2 11)), .ref (ad 13)] := ho50
    have M51 : Mw E H H49 a ad (g.1, up (up g.2 9 x) 10 (((g.2 5) - (g.2 3)) + 1)) := M45.sc (g.1, up (up g.2 9 x) 10 (((g.2 5) - (g.2 3)) + 1)) ho50 z_H49 o_H49 rfl
    have oM52 : hOb (eD E) classes H49 a 10 [.ref (ad 0), .int (nI (g.2 0)), .ref (ad 1), .int (nI (g.2 1)), .int (nI (g.2 2)), .ref (ad 2), .ref (ad 3), .ref (ad 4), .ref (ad 5), .ref (ad 6), .ref (ad 7), .ref (ad 8), .ref (ad 9), .ref (ad 10), .int (nI (g.2 3)), .int (nI (g.2 4)), .int (nI (g.2 5)), .int (nI (g.2 6)), .int (nI (g.2 7)), .ref (ad 11), .int (nI (g.2 8)), .int (nI x), .int (nI (((g.2 5) - (g.2 3)) + 1)), .ref (ad 12), .int (nI (g.2 11)), .ref (ad 13)] := M51.1.1
    refine lv_iconst (v := 0) cx.x cx.b d_Mo_fail_38 (by decide) ?_
    rw [← hQ]
    exact hx_reti cx.x cx.b cx.r cx.k rfl hlo (fun _ h => h) (Nat.le_of_ble_eq_true rfl) (Nat.le_of_ble_eq_true rfl) d_Mo_fail_39 (⟨rfl, M51⟩)
  · have c1 : (g.2 4) ≤ (g.2 5) := Nat.not_lt.mp (fun zz => c1 ((nI_ltI (a := (g.2 5)) (b := (g.2 4)) (by omega) (by omega)).mpr zz))
    rw [if_pos c1] at hQ
    refine lv_aload_n cx.x cx.b d_Mo_fail_17 rfl (lv_at hl 0 rfl) ?_
    refine gf_Mo_65_Mo cx oM46 rfl d_Mo_fail_18 ?_
    refine lv_goto (tgt := 28) cx.x cx.b d_Mo_fail_21 (by decide) ?_
    refine lv_aload_n cx.x cx.b d_Mo_fail_28 rfl (lv_at hl 0 rfl) ?_
    refine gf_Mo_119_Mo cx oM46 rfl d_Mo_fail_29 ?_
    refine lv_isub cx.x cx.b d_Mo_fail_32 ?_
    refine lv_topi (fun x53 e_x53 => ?_)
    have e_x53 : x53 = nI ((g.2 4) - (g.2 3)) := e_x53.trans (pk_sub (a := (g.2 4)) (b := g.2 3) (by omega))
    subst e_x53
    refine lv_iconst (v := 1) cx.x cx.b d_Mo_fail_33 (by decide) ?_
    refine lv_iadd cx.x cx.b d_Mo_fail_34 ?_
    refine lv_topi (fun x54 e_x54 => ?_)
    have e_x54 : x54 = nI (((g.2 4) - (g.2 3)) + 1) := e_x54.trans (nI_add ((g.2 4) - (g.2 3)) 1)
    subst e_x54
    refine pf_Mo_122_Mo cx oM46 hlo M45.1.2.2.1 (Nat.le_of_ble_eq_true rfl) d_Mo_fail_35 (fun H55 locs ho56 z_H55 o_H55 hlo => ?_)
    have ho56 : hOb (eD E) classes H55 a 10 [.ref (ad 0), .int (nI (g.2 0)), .ref (ad 1), .int (nI (g.2 1)), .int (nI (g.2 2)), .ref (ad 2), .ref (ad 3), .ref (ad 4), .ref (ad 5), .ref (ad 6), .ref (ad 7), .ref (ad 8), .ref (ad 9), .ref (ad 10), .int (nI (g.2 3)), .int (nI (g.2 4)), .int (nI (g.2 5)), .int (nI (g.2 6)), .int (nI (g.2 7)), .ref (ad 11), .int (nI (g.2 8)), .int (nI x), .int (nI (((g.2 4) - (g.2 3)) + 1)), .ref (ad 12), .int (nI (g.2 11)), .ref (ad 13)] := ho56
    have M57 : Mw E H H55 a ad (g.1, up (up g.2 9 x) 10 (((g.2 4) - (g.2 3)) + 1)) := M45.sc (g.1, up (up g.2 9 x) 10 (((g.2 4) - (g.2 3)) + 1)) ho56 z_H55 o_H55 rfl
    have oM58 : hOb (eD E) classes H55 a 10 [.ref (ad 0), .int (nI (g.2 0)), .ref (ad 1), .int (nI (g.2 1)), .int (nI (g.2 2)), .ref (ad 2), .ref (ad 3), .ref (ad 4), .ref (ad 5), .ref (ad 6), .ref (ad 7), .ref (ad 8), .ref (ad 9), .ref (ad 10), .int (nI (g.2 3)), .int (nI (g.2 4)), .int (nI (g.2 5)), .int (nI (g.2 6)), .int (nI (g.2 7)), .ref (ad 11), .int (nI (g.2 8)), .int (nI x), .int (nI (((g.2 4) - (g.2 3)) + 1)), .ref (ad 12), .int (nI (g.2 11)), .ref (ad 13)] := M57.1.1
    refine lv_iconst (v := 0) cx.x cx.b d_Mo_fail_38 (by decide) ?_
    rw [← hQ]
    exact hx_reti cx.x cx.b cx.r cx.k rfl hlo (fun _ h => h) (Nat.le_of_ble_eq_true rfl) (Nat.le_of_ble_eq_true rfl) d_Mo_fail_39 (⟨rfl, M57⟩)

set_option maxHeartbeats 4000000 in
set_option maxRecDepth 100000 in
theorem c_Mo_tell (l : Launch) {E : hE} (hE : EnvOk E) {H : Heap} {a : Nat} {ad : Nat → Nat} {g : MS} (M : Mo E H a ad g) {x y z : Nat} (h1 : (g.2 1) < 1000) : Ct l E y_Mo_tell b_Mo_tell 4 none (rmA 0 0 0) [.ref a, .int (nI x), .int (nI y), .int (nI z)] H (hQv (fun H1 => Mw E H H1 a ad (up g.1 1 (if (g.2 1) < 20 then updN (updN (updN (g.1 1) (3 * (g.2 1)) x) (3 * (g.2 1) + 1) y) (3 * (g.2 1) + 2) z else (g.1 1)), up g.2 1 ((g.2 1) + 1)))) := by
  refine hx_enter hE (by decide) (Nat.le_of_ble_eq_true rfl) ?_
  intro p e s m args below meth c ls cx hnm hl
  have hl : lv_has ls 4 [(0, .ref a), (1, .int (nI x)), (2, .int (nI y)), (3, .int (nI z))] := hl
  have hlo : hLo (eB E) [] := hLo.nil
  generalize hQ : MQ below _ args s _ _ _ = Q
  have M0 : Mw E H H a ad g := ⟨M, hCh.rf, rfl⟩
  refine lv_aload_n cx.x cx.b d_Mo_tell_0 rfl (lv_at hl 0 rfl) ?_
  refine gf_Mo_113_Mo cx M0.1.1 rfl d_Mo_tell_1 ?_
  refine lv_bipush (v := 20) cx.x cx.b d_Mo_tell_4 (by decide) ?_
  refine lv_icmp_ge (tgt := 49) cx.x cx.b d_Mo_tell_6 (by decide) (fun c1 => ?_) (fun c1 => ?_)
  · have c1 : 20 ≤ (g.2 1) := (nI_leI (a := 20) (b := (g.2 1)) (by omega) (by omega)).mp c1
    rw [if_neg (by omega), up_id] at hQ
    refine lv_aload_n cx.x cx.b d_Mo_tell_49 rfl (lv_at hl 0 rfl) ?_
    refine lv_dup cx.x cx.b d_Mo_tell_50 rfl ?_
    refine gf_Mo_113_Mo cx M0.1.1 rfl d_Mo_tell_51 ?_
    refine lv_iconst (v := 1) cx.x cx.b d_Mo_tell_54 (by decide) ?_
    refine lv_iadd cx.x cx.b d_Mo_tell_55 ?_
    refine lv_topi (fun x59 e_x59 => ?_)
    have e_x59 : x59 = nI ((g.2 1) + 1) := e_x59.trans (nI_add (g.2 1) 1)
    subst e_x59
    refine pf_Mo_113_Mo cx M0.1.1 hlo M0.1.2.2.1 (Nat.le_of_ble_eq_true rfl) d_Mo_tell_56 (fun H60 locs ho61 z_H60 o_H60 hlo => ?_)
    have ho61 : hOb (eD E) classes H60 a 10 [.ref (ad 0), .int (nI (g.2 0)), .ref (ad 1), .int (nI ((g.2 1) + 1)), .int (nI (g.2 2)), .ref (ad 2), .ref (ad 3), .ref (ad 4), .ref (ad 5), .ref (ad 6), .ref (ad 7), .ref (ad 8), .ref (ad 9), .ref (ad 10), .int (nI (g.2 3)), .int (nI (g.2 4)), .int (nI (g.2 5)), .int (nI (g.2 6)), .int (nI (g.2 7)), .ref (ad 11), .int (nI (g.2 8)), .int (nI (g.2 9)), .int (nI (g.2 10)), .ref (ad 12), .int (nI (g.2 11)), .ref (ad 13)] := ho61
    have M62 : Mw E H H60 a ad (g.1, up g.2 1 ((g.2 1) + 1)) := M0.sc (g.1, up g.2 1 ((g.2 1) + 1)) ho61 z_H60 o_H60 rfl
    have oM63 : hOb (eD E) classes H60 a 10 [.ref (ad 0), .int (nI (g.2 0)), .ref (ad 1), .int (nI ((g.2 1) + 1)), .int (nI (g.2 2)), .ref (ad 2), .ref (ad 3), .ref (ad 4), .ref (ad 5), .ref (ad 6), .ref (ad 7), .ref (ad 8), .ref (ad 9), .ref (ad 10), .int (nI (g.2 3)), .int (nI (g.2 4)), .int (nI (g.2 5)), .int (nI (g.2 6)), .int (nI (g.2 7)), .ref (ad 11), .int (nI (g.2 8)), .int (nI (g.2 9)), .int (nI (g.2 10)), .ref (ad 12), .int (nI (g.2 11)), .ref (ad 13)] := M62.1.1
    rw [← hQ]
    exact hx_retv cx.x cx.b cx.r cx.k hlo (fun _ h => h) (Nat.le_of_ble_eq_true rfl) (Nat.le_of_ble_eq_true rfl) d_Mo_tell_59 (M62)
  · have c1 : (g.2 1) < 20 := Nat.not_le.mp (fun zz => c1 ((nI_leI (a := 20) (b := (g.2 1)) (by omega) (by omega)).mpr zz))
    rw [if_pos c1] at hQ
    refine lv_aload_n cx.x cx.b d_Mo_tell_9 rfl (lv_at hl 0 rfl) ?_
    refine gf_Mo_13_Mo cx M0.1.1 rfl d_Mo_tell_10 ?_
    refine lv_iconst (v := 3) cx.x cx.b d_Mo_tell_13 (by decide) ?_
    refine lv_aload_n cx.x cx.b d_Mo_tell_14 rfl (lv_at hl 0 rfl) ?_
    refine gf_Mo_113_Mo cx M0.1.1 rfl d_Mo_tell_15 ?_
    refine lv_imul cx.x cx.b d_Mo_tell_18 ?_
    refine lv_topi (fun x64 e_x64 => ?_)
    have e_x64 : x64 = nI (3 * (g.2 1)) := e_x64.trans (pk_mul 3 (g.2 1))
    subst e_x64
    refine lv_iload_n cx.x cx.b d_Mo_tell_19 rfl (lv_at hl 1 rfl) ?_
    refine hx_iast cx.x cx.b cx.K 0 (M0.1.2.1 1 (by decide)) hlo (M0.1.2.2.2.1 1 (by decide)).1 rfl (show vp_in (nI (3 * (g.2 1))) 60 from vp_in_nI (show (3 * (g.2 1)) < 60 by omega) (by decide)) d_Mo_tell_20 (fun H65 locs ha66 z_H65 o_H65 hlo => ?_)
    have M67 : Mw E H H65 a ad (up g.1 1 (updN (g.1 1) (3 * (g.2 1)) x), g.2) := M0.ar (up g.1 1 (updN (g.1 1) (3 * (g.2 1)) x), g.2) 1 (by decide) (by have h9 := ha66; rw [nI_clamp (by omega)] at h9; exact (upd_nI (g.1 1) (3 * (g.2 1)) x) ▸ h9) z_H65 o_H65 rfl (fun j hj hn => arN1 hj hn rfl rfl rfl rfl rfl rfl rfl rfl rfl rfl rfl rfl rfl)
    have oM68 : hOb (eD E) classes H65 a 10 [.ref (ad 0), .int (nI (g.2 0)), .ref (ad 1), .int (nI (g.2 1)), .int (nI (g.2 2)), .ref (ad 2), .ref (ad 3), .ref (ad 4), .ref (ad 5), .ref (ad 6), .ref (ad 7), .ref (ad 8), .ref (ad 9), .ref (ad 10), .int (nI (g.2 3)), .int (nI (g.2 4)), .int (nI (g.2 5)), .int (nI (g.2 6)), .int (nI (g.2 7)), .ref (ad 11), .int (nI (g.2 8)), .int (nI (g.2 9)), .int (nI (g.2 10)), .ref (ad 12), .int (nI (g.2 11)), .ref (ad 13)] := M67.1.1
    refine lv_aload_n cx.x cx.b d_Mo_tell_21 rfl (lv_at hl 0 rfl) ?_
    refine gf_Mo_13_Mo cx oM68 rfl d_Mo_tell_22 ?_
    refine lv_iconst (v := 3) cx.x cx.b d_Mo_tell_25 (by decide) ?_
    refine lv_aload_n cx.x cx.b d_Mo_tell_26 rfl (lv_at hl 0 rfl) ?_
    refine gf_Mo_113_Mo cx oM68 rfl d_Mo_tell_27 ?_
    refine lv_imul cx.x cx.b d_Mo_tell_30 ?_
    refine lv_topi (fun x69 e_x69 => ?_)
    have e_x69 : x69 = nI (3 * (g.2 1)) := e_x69.trans (pk_mul 3 (g.2 1))
    subst e_x69
    refine lv_iconst (v := 1) cx.x cx.b d_Mo_tell_31 (by decide) ?_
    refine lv_iadd cx.x cx.b d_Mo_tell_32 ?_
    refine lv_topi (fun x70 e_x70 => ?_)
    have e_x70 : x70 = nI ((3 * (g.2 1)) + 1) := e_x70.trans (nI_add (3 * (g.2 1)) 1)
    subst e_x70
    refine lv_iload_n cx.x cx.b d_Mo_tell_33 rfl (lv_at hl 2 rfl) ?_
    refine hx_iast cx.x cx.b cx.K 0 (M67.1.2.1 1 (by decide)) hlo (M67.1.2.2.2.1 1 (by decide)).1 rfl (show vp_in (nI ((3 * (g.2 1)) + 1)) 60 from vp_in_nI (show ((3 * (g.2 1)) + 1) < 60 by omega) (by decide)) d_Mo_tell_34 (fun H71 locs ha72 z_H71 o_H71 hlo => ?_)
    have M73 : Mw E H H71 a ad (up g.1 1 (updN (updN (g.1 1) (3 * (g.2 1)) x) ((3 * (g.2 1)) + 1) y), g.2) := M67.ar (up g.1 1 (updN (updN (g.1 1) (3 * (g.2 1)) x) ((3 * (g.2 1)) + 1) y), g.2) 1 (by decide) (by have h9 := ha72; rw [nI_clamp (by omega)] at h9; exact (upd_nI (updN (g.1 1) (3 * (g.2 1)) x) ((3 * (g.2 1)) + 1) y) ▸ h9) z_H71 o_H71 rfl (fun j hj hn => arN1 hj hn rfl rfl rfl rfl rfl rfl rfl rfl rfl rfl rfl rfl rfl)
    have oM74 : hOb (eD E) classes H71 a 10 [.ref (ad 0), .int (nI (g.2 0)), .ref (ad 1), .int (nI (g.2 1)), .int (nI (g.2 2)), .ref (ad 2), .ref (ad 3), .ref (ad 4), .ref (ad 5), .ref (ad 6), .ref (ad 7), .ref (ad 8), .ref (ad 9), .ref (ad 10), .int (nI (g.2 3)), .int (nI (g.2 4)), .int (nI (g.2 5)), .int (nI (g.2 6)), .int (nI (g.2 7)), .ref (ad 11), .int (nI (g.2 8)), .int (nI (g.2 9)), .int (nI (g.2 10)), .ref (ad 12), .int (nI (g.2 11)), .ref (ad 13)] := M73.1.1
    refine lv_aload_n cx.x cx.b d_Mo_tell_35 rfl (lv_at hl 0 rfl) ?_
    refine gf_Mo_13_Mo cx oM74 rfl d_Mo_tell_36 ?_
    refine lv_iconst (v := 3) cx.x cx.b d_Mo_tell_39 (by decide) ?_
    refine lv_aload_n cx.x cx.b d_Mo_tell_40 rfl (lv_at hl 0 rfl) ?_
    refine gf_Mo_113_Mo cx oM74 rfl d_Mo_tell_41 ?_
    refine lv_imul cx.x cx.b d_Mo_tell_44 ?_
    refine lv_topi (fun x75 e_x75 => ?_)
    have e_x75 : x75 = nI (3 * (g.2 1)) := e_x75.trans (pk_mul 3 (g.2 1))
    subst e_x75
    refine lv_iconst (v := 2) cx.x cx.b d_Mo_tell_45 (by decide) ?_
    refine lv_iadd cx.x cx.b d_Mo_tell_46 ?_
    refine lv_topi (fun x76 e_x76 => ?_)
    have e_x76 : x76 = nI ((3 * (g.2 1)) + 2) := e_x76.trans (nI_add (3 * (g.2 1)) 2)
    subst e_x76
    refine lv_iload_n cx.x cx.b d_Mo_tell_47 rfl (lv_at hl 3 rfl) ?_
    refine hx_iast cx.x cx.b cx.K 0 (M73.1.2.1 1 (by decide)) hlo (M73.1.2.2.2.1 1 (by decide)).1 rfl (show vp_in (nI ((3 * (g.2 1)) + 2)) 60 from vp_in_nI (show ((3 * (g.2 1)) + 2) < 60 by omega) (by decide)) d_Mo_tell_48 (fun H77 locs ha78 z_H77 o_H77 hlo => ?_)
    have M79 : Mw E H H77 a ad (up g.1 1 (updN (updN (updN (g.1 1) (3 * (g.2 1)) x) ((3 * (g.2 1)) + 1) y) ((3 * (g.2 1)) + 2) z), g.2) := M73.ar (up g.1 1 (updN (updN (updN (g.1 1) (3 * (g.2 1)) x) ((3 * (g.2 1)) + 1) y) ((3 * (g.2 1)) + 2) z), g.2) 1 (by decide) (by have h9 := ha78; rw [nI_clamp (by omega)] at h9; exact (upd_nI (updN (updN (g.1 1) (3 * (g.2 1)) x) ((3 * (g.2 1)) + 1) y) ((3 * (g.2 1)) + 2) z) ▸ h9) z_H77 o_H77 rfl (fun j hj hn => arN1 hj hn rfl rfl rfl rfl rfl rfl rfl rfl rfl rfl rfl rfl rfl)
    have oM80 : hOb (eD E) classes H77 a 10 [.ref (ad 0), .int (nI (g.2 0)), .ref (ad 1), .int (nI (g.2 1)), .int (nI (g.2 2)), .ref (ad 2), .ref (ad 3), .ref (ad 4), .ref (ad 5), .ref (ad 6), .ref (ad 7), .ref (ad 8), .ref (ad 9), .ref (ad 10), .int (nI (g.2 3)), .int (nI (g.2 4)), .int (nI (g.2 5)), .int (nI (g.2 6)), .int (nI (g.2 7)), .ref (ad 11), .int (nI (g.2 8)), .int (nI (g.2 9)), .int (nI (g.2 10)), .ref (ad 12), .int (nI (g.2 11)), .ref (ad 13)] := M79.1.1
    refine lv_aload_n cx.x cx.b d_Mo_tell_49 rfl (lv_at hl 0 rfl) ?_
    refine lv_dup cx.x cx.b d_Mo_tell_50 rfl ?_
    refine gf_Mo_113_Mo cx oM80 rfl d_Mo_tell_51 ?_
    refine lv_iconst (v := 1) cx.x cx.b d_Mo_tell_54 (by decide) ?_
    refine lv_iadd cx.x cx.b d_Mo_tell_55 ?_
    refine lv_topi (fun x81 e_x81 => ?_)
    have e_x81 : x81 = nI ((g.2 1) + 1) := e_x81.trans (nI_add (g.2 1) 1)
    subst e_x81
    refine pf_Mo_113_Mo cx oM80 hlo M79.1.2.2.1 (Nat.le_of_ble_eq_true rfl) d_Mo_tell_56 (fun H82 locs ho83 z_H82 o_H82 hlo => ?_)
    have ho83 : hOb (eD E) classes H82 a 10 [.ref (ad 0), .int (nI (g.2 0)), .ref (ad 1), .int (nI ((g.2 1) + 1)), .int (nI (g.2 2)), .ref (ad 2), .ref (ad 3), .ref (ad 4), .ref (ad 5), .ref (ad 6), .ref (ad 7), .ref (ad 8), .ref (ad 9), .ref (ad 10), .int (nI (g.2 3)), .int (nI (g.2 4)), .int (nI (g.2 5)), .int (nI (g.2 6)), .int (nI (g.2 7)), .ref (ad 11), .int (nI (g.2 8)), .int (nI (g.2 9)), .int (nI (g.2 10)), .ref (ad 12), .int (nI (g.2 11)), .ref (ad 13)] := ho83
    have M84 : Mw E H H82 a ad (up g.1 1 (updN (updN (updN (g.1 1) (3 * (g.2 1)) x) ((3 * (g.2 1)) + 1) y) ((3 * (g.2 1)) + 2) z), up g.2 1 ((g.2 1) + 1)) := M79.sc (up g.1 1 (updN (updN (updN (g.1 1) (3 * (g.2 1)) x) ((3 * (g.2 1)) + 1) y) ((3 * (g.2 1)) + 2) z), up g.2 1 ((g.2 1) + 1)) ho83 z_H82 o_H82 rfl
    have oM85 : hOb (eD E) classes H82 a 10 [.ref (ad 0), .int (nI (g.2 0)), .ref (ad 1), .int (nI ((g.2 1) + 1)), .int (nI (g.2 2)), .ref (ad 2), .ref (ad 3), .ref (ad 4), .ref (ad 5), .ref (ad 6), .ref (ad 7), .ref (ad 8), .ref (ad 9), .ref (ad 10), .int (nI (g.2 3)), .int (nI (g.2 4)), .int (nI (g.2 5)), .int (nI (g.2 6)), .int (nI (g.2 7)), .ref (ad 11), .int (nI (g.2 8)), .int (nI (g.2 9)), .int (nI (g.2 10)), .ref (ad 12), .int (nI (g.2 11)), .ref (ad 13)] := M84.1.1
    rw [← hQ]
    exact hx_retv cx.x cx.b cx.r cx.k hlo (fun _ h => h) (Nat.le_of_ble_eq_true rfl) (Nat.le_of_ble_eq_true rfl) d_Mo_tell_59 (M84)

set_option maxHeartbeats 4000000 in
set_option maxRecDepth 100000 in
theorem c_Mo_count (l : Launch) {E : hE} (hE : EnvOk E) {H : Heap} {a : Nat} {ad : Nat → Nat} {g : MS} (M : Mo E H a ad g) {b t : Nat} (hb : b < 2) (ht : t < 12) : Ct l E y_Mo_count b_Mo_count 2 (some .int) (rmA 0 0 0) [.ref a, .int (nI (108 * b + t))] H (hQi (fun r H1 => r = nI ((g.1 10) (12 * b + t)) ∧ H1 = H)) := by
  refine hx_enter hE (by decide) (Nat.le_of_ble_eq_true rfl) ?_
  intro p e s m args below meth c ls cx hnm hl
  have hl : lv_has ls 2 [(0, .ref a), (1, .int (nI (108 * b + t)))] := hl
  have hlo : hLo (eB E) [] := hLo.nil
  generalize hQ : MQ below _ args s _ _ _ = Q
  have M0 : Mw E H H a ad g := ⟨M, hCh.rf, rfl⟩
  refine lv_iload_n cx.x cx.b d_Mo_count_0 rfl (lv_at hl 1 rfl) ?_
  refine lv_if_ge (tgt := 8) cx.x cx.b d_Mo_count_1 (by decide) (fun _ => ?_) (fun c => absurd (Int32.not_lt.mp (nI_pos (by omega))) c)
  refine lv_aload_n cx.x cx.b d_Mo_count_8 rfl (lv_at hl 0 rfl) ?_
  refine gf_Mo_40_Mo cx M0.1.1 rfl d_Mo_count_9 ?_
  refine lv_iload_n cx.x cx.b d_Mo_count_12 rfl (lv_at hl 1 rfl) ?_
  refine lv_bipush (v := 108) cx.x cx.b d_Mo_count_13 (by decide) ?_
  refine lv_idiv cx.x cx.b d_Mo_count_15 (by decide) ?_
  refine lv_topi (fun x86 e_x86 => ?_)
  have e_x86 : x86 = nI b := e_x86.trans ((pk_div (a := 108 * b + t) (d := 108) (by omega) (by omega) (by omega)).trans (congrArg nI (by omega)))
  subst e_x86
  refine lv_bipush (v := 12) cx.x cx.b d_Mo_count_16 (by decide) ?_
  refine lv_imul cx.x cx.b d_Mo_count_18 ?_
  refine lv_topi (fun x87 e_x87 => ?_)
  have e_x87 : x87 = nI (b * 12) := e_x87.trans (pk_mul b 12)
  subst e_x87
  refine lv_iload_n cx.x cx.b d_Mo_count_19 rfl (lv_at hl 1 rfl) ?_
  refine lv_bipush (v := 108) cx.x cx.b d_Mo_count_20 (by decide) ?_
  refine lv_irem cx.x cx.b d_Mo_count_22 (by decide) ?_
  refine lv_topi (fun x88 e_x88 => ?_)
  have e_x88 : x88 = nI t := e_x88.trans ((pk_rem (a := 108 * b + t) (d := 108) (by omega) (by omega) (by omega)).trans (congrArg nI (by omega)))
  subst e_x88
  refine lv_iadd cx.x cx.b d_Mo_count_23 ?_
  refine lv_topi (fun x89 e_x89 => ?_)
  have e_x89 : x89 = nI ((b * 12) + t) := e_x89.trans (nI_add (b * 12) t)
  subst e_x89
  refine hx_iald cx.x cx.b cx.K 0 (M0.1.2.1 10 (by decide)) rfl (show vp_in (nI ((b * 12) + t)) 24 from vp_in_nI (show ((b * 12) + t) < 24 by omega) (by decide)) d_Mo_count_24 ?_
  refine lv_topi (fun x90 e_x90 => ?_)
  have e_x90 : x90 = nI ((g.1 10) ((b * 12) + t)) := e_x90.trans (congrArg (fun z9 => nI ((g.1 10) z9)) (nI_clamp (by omega)))
  subst e_x90
  rw [← hQ]
  exact hx_reti cx.x cx.b cx.r cx.k rfl hlo (fun _ h => h) (Nat.le_of_ble_eq_true rfl) (Nat.le_of_ble_eq_true rfl) d_Mo_count_25 (⟨by rw [Nat.mul_comm b 12], rfl⟩)

set_option maxHeartbeats 4000000 in
set_option maxRecDepth 100000 in
theorem c_Mo_countN (l : Launch) {E : hE} (hE : EnvOk E) {H : Heap} {a : Nat} {ad : Nat → Nat} {g : MS} (M : Mo E H a ad g) : Ct l E y_Mo_count b_Mo_count 2 (some .int) (rmA 0 0 0) [.ref a, .int (-1)] H (hQi (fun r H1 => r = 0 ∧ H1 = H)) := by
  refine hx_enter hE (by decide) (Nat.le_of_ble_eq_true rfl) ?_
  intro p e s m args below meth c ls cx hnm hl
  have hl : lv_has ls 2 [(0, .ref a), (1, .int (-1))] := hl
  have hlo : hLo (eB E) [] := hLo.nil
  generalize hQ : MQ below _ args s _ _ _ = Q
  have M0 : Mw E H H a ad g := ⟨M, hCh.rf, rfl⟩
  refine lv_iload_n cx.x cx.b d_Mo_count_0 rfl (lv_at hl 1 rfl) ?_
  refine lv_if_ge (tgt := 8) cx.x cx.b d_Mo_count_1 (by decide) (fun c => absurd c (by decide)) (fun _ => ?_)
  refine lv_iconst (v := 0) cx.x cx.b d_Mo_count_4 (by decide) ?_
  refine lv_goto (tgt := 25) cx.x cx.b d_Mo_count_5 (by decide) ?_
  rw [← hQ]
  exact hx_reti cx.x cx.b cx.r cx.k rfl hlo (fun _ h => h) (Nat.le_of_ble_eq_true rfl) (Nat.le_of_ble_eq_true rfl) d_Mo_count_25 (⟨rfl, rfl⟩)
