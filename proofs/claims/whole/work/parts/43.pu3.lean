theorem cnt_take {α : Type} {xs : List α} {j : Nat} {d : α} (p : α → Bool) (h : j < xs.length) : (xs.take (j + 1)).countP p = (xs.take j).countP p + (if p (xs.getD j d) = true then 1 else 0) := by
  rw [List.take_add_one, List.countP_append, List.getElem?_eq_getElem h, List.getD_eq_getElem?_getD, List.getElem?_eq_getElem h]
  show _ + List.countP p [xs[j]] = _
  rw [List.countP_singleton]; rfl
def tyC (C : List TU) (t : Int) : Option TU := if 0 ≤ t ∧ t < C.length then some (C.getD t.toNat default) else none
def mbC (S : List DV) (m : Int) : Option DV := if 0 ≤ m ∧ m < S.length then some (S.getD m.toNat default) else none
theorem tyC_some {C U : List TU} (h : Srt C U) {k : Nat} (hk : k < U.length) : tyC C (rnkT U k) = some (srU (U.getD k default)) := by
  have := rnkT_lt h hk
  unfold tyC
  rw [if_pos ⟨by omega, by omega⟩, ← this.2]; rfl
theorem tyC_none {C U : List TU} (h : Srt C U) {t : Int} (hn : ∀ k, k < U.length → (rnkT U k : Int) ≠ t) : tyC C t = none := by
  unfold tyC
  by_cases c : 0 ≤ t ∧ t < C.length
  · exfalso
    obtain ⟨k, hk, e⟩ := rnkT_ex h (t := t.toNat) (by omega)
    exact hn k hk (by omega)
  · rw [if_neg c]
theorem mbC_some {ms : List DV} (h : ms.Pairwise (fun a b => cmpD a b ≠ 0)) {k : Nat} (hk : k < ms.length) : mbC (srtM ms) (rnkM ms k) = some (ms.getD k default) := by
  have := rnkM_lt h hk
  have hl := (srtM_perm ms).length_eq
  unfold mbC
  rw [if_pos ⟨by omega, by omega⟩, ← this.2]; rfl
theorem mbC_none {ms : List DV} (h : ms.Pairwise (fun a b => cmpD a b ≠ 0)) {t : Int} (hn : ∀ k, k < ms.length → (rnkM ms k : Int) ≠ t) : mbC (srtM ms) t = none := by
  have hl := (srtM_perm ms).length_eq
  unfold mbC
  by_cases c : 0 ≤ t ∧ t < (srtM ms).length
  · exfalso
    obtain ⟨k, hk, e⟩ := rnkM_ex h (t := t.toNat) (by omega)
    exact hn k hk (by omega)
  · rw [if_neg c]
theorem cnt_le {α : Type} (p : α → Bool) (xs : List α) : xs.countP p ≤ xs.length := List.countP_le_length
/-- numbers of texts -/
theorem wr_app : ∀ (x y : List Nat), wr (x ++ y) = wr x + 128 ^ x.length * wr y
  | [], y => by simp [wr]
  | c :: x, y => by
    show c + 128 * wr (x ++ y) = c + 128 * wr x + 128 ^ (x.length + 1) * wr y
    rw [wr_app x y, Nat.pow_succ, Nat.mul_add, Nat.mul_comm (128 ^ x.length) 128, Nat.mul_assoc]; omega
theorem wnum_app (x y : List Nat) : wnum (x ++ y) = wnum x * 128 ^ y.length + wnum y := by
  unfold wnum
  rw [List.reverse_append, wr_app, List.length_reverse, Nat.mul_comm]; omega
theorem wnum_pow {x : List Nat} (h : ∀ c ∈ x, c < 128) : wnum x < 128 ^ x.length := by
  have h1 := wr_lt x.reverse (fun z hz => h z (List.mem_reverse.mp hz))
  rw [List.length_reverse] at h1
  exact h1
/-- the digit at the place i -/
theorem wnum_dig {x : List Nat} (h : ∀ c ∈ x, c < 128) {i : Nat} (hi : i < x.length) : wnum x / 128 ^ (x.length - 1 - i) % 128 = x.getD i 0 := by
  have e : x = (x.take i ++ [x.getD i 0]) ++ x.drop (i + 1) := by
    rw [List.append_assoc, List.singleton_append, ← drop_cons hi, List.take_append_drop]
  have hl : (x.drop (i + 1)).length = x.length - 1 - i := by rw [List.length_drop]; omega
  have h2 := wnum_pow (x := x.drop (i + 1)) (fun c hc => h c (List.mem_of_mem_drop hc))
  have h3 : wnum x = wnum (x.take i ++ [x.getD i 0]) * 128 ^ (x.length - 1 - i) + wnum (x.drop (i + 1)) := by
    have := wnum_app (x.take i ++ [x.getD i 0]) (x.drop (i + 1))
    rw [hl, ← e] at this
    exact this
  rw [hl] at h2
  rw [h3, Nat.mul_comm, Nat.mul_add_div (by omega), Nat.div_eq_of_lt h2, Nat.add_zero, wnum_snoc, Nat.mul_add_mod_self_right, Nat.mod_eq_of_lt (h _ (getD_mem hi))]
theorem wnum_ge {x : List Nat} (h : okW x) (hx : x ≠ []) : 128 ^ (x.length - 1) ≤ wnum x := by
  cases x with
  | nil => exact absurd rfl hx
  | cons c r =>
    have h1 := wnum_app [c] r
    have h2 := (h c List.mem_cons_self).1
    have h3 : wnum [c] = c := by show c + 128 * 0 = c; omega
    rw [h3] at h1
    have h1 : wnum (c :: r) = c * 128 ^ r.length + wnum r := h1
    rw [h1, List.length_cons, Nat.add_sub_cancel]
    have : 1 * 128 ^ r.length ≤ c * 128 ^ r.length := Nat.mul_le_mul_right _ h2
    omega
