def rmA (k c n : Nat) : Room := { frames := k, cells := c, slots := n, locals := 36 * k }
def bI (b : Bool) : Int32 := if b then 1 else 0
theorem bI_z (b : Bool) : narrow .boolean (.int (bI b)) = .int (bI b) ∧ fits .boolean (.int (bI b)) = true := by cases b <;> exact ⟨rfl, rfl⟩
theorem z0 : narrow .boolean (.int 0) = .int 0 ∧ fits .boolean (.int 0) = true := ⟨rfl, rfl⟩
theorem z1 : narrow .boolean (.int 1) = .int 1 ∧ fits .boolean (.int 1) = true := ⟨rfl, rfl⟩
theorem ix_ex {x : Int32} {n : Nat} (h0 : ¬ x < 0) (h : ¬ nI n ≤ x) (hn : n < 2 ^ 31) : ∃ j : Nat, j < n ∧ x = nI j := by
  rcases pk_ix x hn with q | q | q
  · exact absurd q h0
  · exact absurd q h
  · exact q
theorem ix_lt {x : Int32} {n : Nat} (h0 : ¬ x < 0) (h : ¬ nI n ≤ x) (hn : n < 2 ^ 31) : x.toNatClampNeg < n := by
  obtain ⟨j, hj, rfl⟩ := ix_ex h0 h hn
  rw [nI_clamp (by omega)]; exact hj
theorem ix_in {x : Int32} {n N : Nat} (h0 : ¬ x < 0) (h : ¬ nI n ≤ x) (hN : n ≤ N) (hn : N < 2 ^ 31) : vp_in x N := by
  obtain ⟨j, hj, rfl⟩ := ix_ex h0 h (by omega)
  exact vp_in_nI (by omega) hn
theorem nlt_of {a b : Nat} (h : ¬ nI b ≤ nI a) (hb : b < 2 ^ 31) (ha : a < 2 ^ 31) : a < b := by
  rcases Nat.lt_or_ge a b with q | q
  · exact q
  · exact absurd (nI_le q ha) h
theorem nle_of {a b : Nat} (h : nI b ≤ nI a) (hb : b < 2 ^ 31) (ha : a < 2 ^ 31) : b ≤ a := by
  rcases Nat.lt_or_ge a b with q | q
  · exact absurd h (nI_ge q hb)
  · exact q
/-- A ROW of characters: the object, its array, its room, what it holds, whether it has overflowed -/
def RwC (f : Nat → Int32) (xs : List Nat) : Prop := ∀ i, i < xs.length → f i = nI (xs.getD i 0)
def Rw (E : hE) (H : Heap) (a arr cap : Nat) (xs : List Nat) (o : Bool) : Prop := hOb (eD E) classes H a 0 [.ref arr, .int (nI xs.length), .int (bI o)] ∧ (∃ f : Nat → Int32, hAi H arr (eA E 1) cap f ∧ RwC f xs) ∧ xs.length ≤ cap ∧ cap ≤ 480 ∧ (eB E ≤ a ∧ eB E ≤ arr ∧ a ≠ arr) ∧ ∀ x ∈ xs, x < 128
/-- the cells of a row -/
def rS (a arr : Nat) : Nat → Prop := fun q => q = a ∨ q = arr
theorem Rw.ch {E : hE} {H H1 : Heap} {a arr cap : Nat} {xs : List Nat} {o : Bool} {S : Nat → Prop} (h : Rw E H a arr cap xs o) (k : hCh S H H1) (h1 : ¬ S a) (h2 : ¬ S arr) : Rw E H1 a arr cap xs o := by
  obtain ⟨ho, ⟨f, hf, hc⟩, r⟩ := h
  exact ⟨ho.ch k h1, ⟨f, hf.ch k h2, hc⟩, r⟩
theorem Rw.le {E : hE} {H : Heap} {a arr cap : Nat} {xs : List Nat} {o : Bool} (h : Rw E H a arr cap xs o) : xs.length ≤ 480 := Nat.le_trans h.2.2.1 h.2.2.2.1
theorem rS.lo {E : hE} {H : Heap} {a arr cap : Nat} {xs : List Nat} {o : Bool} (h : Rw E H a arr cap xs o) : ∀ q, rS a arr q → eB E ≤ q := fun q hq => by
  rcases hq with e | e
  · rw [e]; exact h.2.2.2.2.1.1
  · rw [e]; exact h.2.2.2.2.1.2.1
def atI (xs : List Nat) (i : Int32) : Int32 := if i < 0 then -1 else if nI xs.length ≤ i then -1 else nI (xs.getD i.toNatClampNeg 0)
theorem atI_n {xs : List Nat} {i : Nat} (h : i < xs.length) (hl : xs.length < 2 ^ 31) : atI xs (nI i) = nI (xs.getD i 0) := by
  unfold atI
  rw [if_neg (nI_pos (by omega)), if_neg (nI_ge h hl), nI_clamp (by omega)]
theorem atI_out {xs : List Nat} {i : Nat} (h : xs.length ≤ i) (hl : i < 2 ^ 31) : atI xs (nI i) = -1 := by
  unfold atI
  rw [if_neg (nI_pos (by omega)), if_pos (nI_le h hl)]
def addR (cap : Nat) (r : List Nat × Bool) (x : Nat) : List Nat × Bool := if r.1.length < cap then (r.1 ++ [x], r.2) else (r.1, true)
/-- the order of texts: the first difference, or that of the lengths -/
def cmpL : List Nat → List Nat → Int
  | [], ys => -(ys.length : Int)
  | xs, [] => (xs.length : Int)
  | x :: xs, y :: ys => if x = y then cmpL xs ys else (x : Int) - y
theorem vp_narC {x : Nat} (h : x < 128) : vp_nar .char ((nI x).toUInt32 % 65536).toInt32 = nI x := by
  rw [pk_char, pk_tn (by omega), Nat.mod_eq_of_lt (by omega)]
  have := pk_charN (q := x) (by omega)
  unfold vp_nar
  rw [this.1]
theorem RwC.add {f : Nat → Int32} {xs : List Nat} (h : RwC f xs) (x : Nat) : RwC (upd f xs.length (nI x)) (xs ++ [x]) := by
  intro i hi
  rw [List.length_append, List.length_singleton] at hi
  by_cases e : i = xs.length
  · subst e
    rw [pk_us]
    simp
  · rw [pk_un e, h i (by omega)]
    rw [List.getD_eq_getElem?_getD, List.getD_eq_getElem?_getD, List.getElem?_append_left (by omega)]
theorem drop_cons {xs : List Nat} {i : Nat} (h : i < xs.length) : xs.drop i = xs.getD i 0 :: xs.drop (i + 1) := by
  rw [List.drop_eq_getElem_cons h, List.getD_eq_getElem?_getD, List.getElem?_eq_getElem h]; rfl
theorem getD_mem {xs : List Nat} {i : Nat} (h : i < xs.length) : xs.getD i 0 ∈ xs := by
  rw [List.getD_eq_getElem?_getD, List.getElem?_eq_getElem h]; exact List.getElem_mem h
theorem mem_getD {xs : List Nat} {y : Nat} (h : y ∈ xs) : ∃ i, i < xs.length ∧ xs.getD i 0 = y := by
  obtain ⟨i, hi, e⟩ := List.getElem_of_mem h
  exact ⟨i, hi, by rw [List.getD_eq_getElem?_getD, List.getElem?_eq_getElem hi]; exact e⟩
theorem cmpL_nil (ys : List Nat) : cmpL [] ys = -(ys.length : Int) := by cases ys <;> rfl
theorem cmpL_nil2 (xs : List Nat) : cmpL xs [] = (xs.length : Int) := by cases xs <;> rfl
theorem cmpL_end {xs ys : List Nat} {i : Nat} (hi : i ≤ xs.length) (hj : i ≤ ys.length) (h : xs.length ≤ i ∨ ys.length ≤ i) : cmpL (xs.drop i) (ys.drop i) = (xs.length : Int) - ys.length := by
  rcases h with h | h
  · rw [List.drop_eq_nil_of_le h, cmpL_nil, List.length_drop]; omega
  · rw [List.drop_eq_nil_of_le h, cmpL_nil2, List.length_drop]; omega
theorem cmpL_step {xs ys : List Nat} {i : Nat} (hi : i < xs.length) (hj : i < ys.length) : cmpL (xs.drop i) (ys.drop i) = if xs.getD i 0 = ys.getD i 0 then cmpL (xs.drop (i + 1)) (ys.drop (i + 1)) else (xs.getD i 0 : Int) - ys.getD i 0 := by
  rw [drop_cons hi, drop_cons hj]; rfl
theorem addR_len {cap : Nat} {r : List Nat × Bool} {x : Nat} (h : r.1.length ≤ cap) : (addR cap r x).1.length ≤ cap := by
  unfold addR
  by_cases q : r.1.length < cap
  · rw [if_pos q]; show (r.1 ++ [x]).length ≤ cap; rw [List.length_append, List.length_singleton]; omega
  · rw [if_neg q]; exact h
theorem foldl_drop {α : Type} (g : α → Nat → α) (r : α) {xs : List Nat} {i : Nat} (h : i < xs.length) : (xs.drop i).foldl g r = (xs.drop (i + 1)).foldl g (g r (xs.getD i 0)) := by
  rw [drop_cons h]; rfl
theorem addR_all (cap : Nat) : ∀ (ys xs : List Nat), xs.length + ys.length ≤ cap → ys.foldl (addR cap) (xs, false) = (xs ++ ys, false)
  | [], xs, _ => by rw [List.append_nil]; rfl
  | y :: ys, xs, h => by
    rw [List.length_cons] at h
    have e : addR cap (xs, false) y = (xs ++ [y], false) := by unfold addR; rw [if_pos (show xs.length < cap by omega)]
    show ys.foldl (addR cap) (addR cap (xs, false) y) = _
    rw [e, addR_all cap ys (xs ++ [y]) (by rw [List.length_append, List.length_singleton]; omega), List.append_assoc]; rfl
/-- a name as it is written: in format 1 every dollar has a % before it -/
def addN (fm : Nat) (x : Nat) : List Nat := if fm = 1 ∧ x = 36 then [37, 36] else [x]
def escN (fm : Nat) (xs : List Nat) : List Nat := xs.flatMap (addN fm)
