/-- a word as a number -/
def wr : List Nat → Nat
  | [] => 0
  | c :: r => c + 128 * wr r
def wnum (x : List Nat) : Nat := wr x.reverse
def okW (x : List Nat) : Prop := ∀ c ∈ x, 0 < c ∧ c < 128
theorem wr_inj : ∀ (x y : List Nat), okW x → okW y → wr x = wr y → x = y
  | [], [], _, _, _ => rfl
  | [], d :: s, _, h2, h => by have := h2 d List.mem_cons_self; have h : 0 = d + 128 * wr s := h; omega
  | c :: r, [], h1, _, h => by have := h1 c List.mem_cons_self; have h : c + 128 * wr r = 0 := h; omega
  | c :: r, d :: s, h1, h2, h => by
    have a1 := h1 c List.mem_cons_self
    have a2 := h2 d List.mem_cons_self
    have h : c + 128 * wr r = d + 128 * wr s := h
    have e : c = d := by omega
    rw [e, wr_inj r s (fun z hz => h1 z (List.mem_cons_of_mem _ hz)) (fun z hz => h2 z (List.mem_cons_of_mem _ hz)) (by omega)]
theorem wnum_inj {x y : List Nat} (h1 : okW x) (h2 : okW y) (h : wnum x = wnum y) : x = y := by
  have := wr_inj x.reverse y.reverse (fun z hz => h1 z (List.mem_reverse.mp hz)) (fun z hz => h2 z (List.mem_reverse.mp hz)) h
  have := congrArg List.reverse this
  rw [List.reverse_reverse, List.reverse_reverse] at this
  exact this
theorem wr_lt : ∀ (x : List Nat), (∀ c ∈ x, c < 128) → wr x < 128 ^ x.length
  | [], _ => by decide
  | c :: r, h => by
    have := wr_lt r (fun z hz => h z (List.mem_cons_of_mem _ hz))
    have a := h c List.mem_cons_self
    rw [List.length_cons, Nat.pow_succ]
    show c + 128 * wr r < _
    omega
theorem wnum_snoc (x : List Nat) (c : Nat) : wnum (x ++ [c]) = wnum x * 128 + c := by
  unfold wnum
  rw [List.reverse_append]
  show c + 128 * wr x.reverse = _
  omega
theorem wnum_lt {x : List Nat} (h : ∀ c ∈ x, c < 128) (hl : x.length ≤ 9) : wnum x < 2 ^ 63 := by
  have h1 := wr_lt x.reverse (fun z hz => h z (List.mem_reverse.mp hz))
  rw [List.length_reverse] at h1
  have h2 : 128 ^ x.length ≤ 128 ^ 9 := Nat.pow_le_pow_right (by decide) hl
  have h3 : (128 : Nat) ^ 9 = 2 ^ 63 := by decide
  unfold wnum
  omega
def wrd (x : List Nat) : Nat := if 9 < x.length then 0 else wnum x
theorem wrd_lt {x : List Nat} (h : ∀ c ∈ x, c < 128) : wrd x < 2 ^ 63 := by
  unfold wrd
  by_cases c : 9 < x.length
  · rw [if_pos c]; decide
  · rw [if_neg c]; exact wnum_lt h (by omega)
theorem strL_w : ∀ i, i < 14 → okW (strL i) ∧ (strL i).length ≤ 9 ∧ 0 < wnum (strL i) := by unfold okW; decide
theorem wrd_eq {x : List Nat} (hx : okW x) (i : Nat) (hi : i < 14) : wrd x = wnum (strL i) ↔ x = strL i := by
  obtain ⟨h1, h2, h3⟩ := strL_w i hi
  unfold wrd
  constructor
  · intro h
    by_cases c : 9 < x.length
    · rw [if_pos c] at h; omega
    · rw [if_neg c] at h; exact wnum_inj hx h1 h
  · intro h
    rw [h, if_neg (by omega)]
theorem wrd_is {x : List Nat} (hx : okW x) (i K : Nat) (hi : i < 14) (hK : K = wnum (strL i)) : wrd x = K ↔ x = strL i := by rw [hK]; exact wrd_eq hx i hi
theorem mkH_f {x : List Nat} : mkH false x = if x = strL 3 then 1 else if x = strL 6 then 4 else if x = strL 7 then 2 else 0 := by
  show (if x = strL 3 then 1 else if x = strL 7 then 2 else if x = strL 6 then 4 else 0) = _
  by_cases c : x = strL 3
  · rw [if_pos c, if_pos c]
  · rw [if_neg c, if_neg c]
    by_cases c2 : x = strL 7
    · rw [if_pos c2, if_neg (by rw [c2]; decide), if_pos c2]
    · rw [if_neg c2, if_neg c2]
theorem mkH_t {x : List Nat} : mkH true x = if x = strL 3 then 1 else if x = strL 6 then 8 else if x = strL 7 then 16 else if x = strL 4 then 2 else if x = strL 5 then 4 else 0 := by
  show (if x = strL 3 then 1 else if x = strL 4 then 2 else if x = strL 5 then 4 else if x = strL 6 then 8 else if x = strL 7 then 16 else 0) = _
  by_cases c : x = strL 3
  · rw [if_pos c, if_pos c]
  · rw [if_neg c, if_neg c]
    by_cases c2 : x = strL 4
    · rw [if_pos c2, if_neg (by rw [c2]; decide), if_neg (by rw [c2]; decide), if_pos c2]
    · rw [if_neg c2, if_neg c2]
      by_cases c3 : x = strL 5
      · rw [if_pos c3, if_neg (by rw [c3]; decide), if_neg (by rw [c3]; decide), if_pos c3]
      · rw [if_neg c3, if_neg c3]
theorem kdH_t {x : List Nat} : kdH true x = if x = strL 9 then some 0 else if x = strL 8 then some 1 else none := rfl
theorem kdH_f {x : List Nat} : kdH false x = if x = strL 10 then some 0 else if x = strL 11 then some 1 else if x = strL 12 then some 2 else if x = strL 13 then some 3 else none := rfl
/-- take: a word decoded -/
def tkw (fm : Nat) : List Nat → Option (List Nat)
  | [] => some []
  | [c] => if fm = 1 ∧ (c = 36 ∨ c = 37) then none else some [c]
  | c :: d :: r => if fm = 1 ∧ c = 36 then none else if fm = 1 ∧ c = 37 then (if d = 36 then (tkw fm r).map (36 :: ·) else none) else (tkw fm (d :: r)).map (c :: ·)
theorem tkw_cnF {fm : Nat} {txt : List Nat} (hfm : fm = 1 ∨ fm = 2) : ∀ (n i : Nat), i + n ≤ txt.length → (0 < i → txt.getD (i - 1) 0 ≠ 37) → txt.getD (i + n) 0 ≠ 36 → (∀ L, tkw fm (wdO txt i (i + n)) = some L → cnF fm txt n i = L) ∧ (tkw fm (wdO txt i (i + n)) = none → 37 ∈ cnF fm txt n i) := by
  intro n
  induction n using Nat.strongRecOn with
  | _ n ih =>
    intro i hl h1 h2
    have wd : ∀ j k, j < k → k ≤ txt.length → wdO txt j k = txt.getD j 0 :: wdO txt (j + 1) k := by
      intro j k hjk hk
      unfold wdO
      rw [drop_cons (by rw [len_take hk]; exact hjk), getD_take hjk]
    have wd0 : ∀ j, wdO txt j j = [] := fun j => by unfold wdO; rw [List.drop_eq_nil_of_le (by rw [List.length_take]; omega)]
    match n with
    | 0 =>
      rw [Nat.add_zero, wd0]
      exact ⟨fun L h => by cases h; rfl, fun h => by cases h⟩
    | 1 =>
      rw [wd i (i + 1) (by omega) hl, wd0]
      unfold tkw
      have nx : txt.getD (i + 1) 0 ≠ 36 := h2
      by_cases c : fm = 1 ∧ (txt.getD i 0 = 36 ∨ txt.getD i 0 = 37)
      · rw [if_pos c]
        refine ⟨fun L h => (by cases h), fun _ => ?_⟩
        rcases c.2 with e | e
        · have : cn fm txt i = some 37 := by unfold cn; rw [if_neg (fun z => by rw [e] at z; exact absurd z.2.1 (by decide)), if_pos ⟨c.1, e, fun z => h1 z.1 z.2⟩]
          rw [cnF_some this]; exact List.mem_cons_self
        · have : cn fm txt i = some (txt.getD i 0) := by unfold cn; rw [if_neg (fun z => nx z.2.2), if_neg (fun z => by rw [e] at z; exact absurd z.2.1 (by decide))]
          rw [cnF_some this, e]; exact List.mem_cons_self
      · rw [if_neg c]
        refine ⟨fun L h => ?_, fun h => (by cases h)⟩
        cases h
        have : cn fm txt i = some (txt.getD i 0) := by unfold cn; rw [if_neg (fun z => c ⟨z.1, Or.inr z.2.1⟩), if_neg (fun z => c ⟨z.1, Or.inl z.2.1⟩)]
        rw [cnF_some this]; rfl
    | n + 2 =>
      rw [wd i (i + (n + 2)) (by omega) hl, wd (i + 1) (i + (n + 2)) (by omega) hl]
      unfold tkw
      by_cases c1 : fm = 1 ∧ txt.getD i 0 = 36
      · rw [if_pos c1]
        refine ⟨fun L h => (by cases h), fun _ => ?_⟩
        have : cn fm txt i = some 37 := by unfold cn; rw [if_neg (fun z => by rw [c1.2] at z; exact absurd z.2.1 (by decide)), if_pos ⟨c1.1, c1.2, fun z => h1 z.1 z.2⟩]
        rw [cnF_some this]; exact List.mem_cons_self
      · rw [if_neg c1]
        by_cases c2 : fm = 1 ∧ txt.getD i 0 = 37
        · rw [if_pos c2]
          by_cases c3 : txt.getD (i + 1) 0 = 36
          · rw [if_pos c3]
            have e1 : cn fm txt i = none := by unfold cn; rw [if_pos ⟨c2.1, c2.2, c3⟩]
            have e2 : cn fm txt (i + 1) = some 36 := by
              unfold cn
              rw [if_neg (fun z => by rw [c3] at z; exact absurd z.2.1 (by decide)), if_neg (fun z => z.2.2 ⟨by omega, by rw [Nat.add_sub_cancel]; exact c2.2⟩), c3]
            have ih2 := ih n (by omega) (i + 2) (by omega) (fun _ => by show txt.getD (i + 1) 0 ≠ 37; rw [c3]; decide) (by rw [show i + 2 + n = i + (n + 2) by omega]; exact h2)
            rw [show i + 2 + n = i + (n + 2) by omega] at ih2
            rw [show cnF fm txt (n + 2) i = 36 :: cnF fm txt n (i + 2) by rw [cnF_none e1, cnF_some e2]]
            show (∀ L, (tkw fm (wdO txt (i + 2) (i + (n + 2)))).map (36 :: ·) = some L → _) ∧ _
            cases ht : tkw fm (wdO txt (i + 2) (i + (n + 2))) with
            | none => refine ⟨fun L h => (by cases h), fun _ => List.mem_cons_of_mem _ (ih2.2 ht)⟩
            | some M => refine ⟨fun L h => ?_, fun h => ?_⟩
                        · cases h; rw [ih2.1 M ht]
                        · cases h
          · rw [if_neg c3]
            refine ⟨fun L h => (by cases h), fun _ => ?_⟩
            have : cn fm txt i = some (txt.getD i 0) := by unfold cn; rw [if_neg (fun z => c3 z.2.2), if_neg (fun z => c1 ⟨z.1, z.2.1⟩)]
            rw [cnF_some this, c2.2]; exact List.mem_cons_self
        · rw [if_neg c2]
          have e1 : cn fm txt i = some (txt.getD i 0) := by unfold cn; rw [if_neg (fun z => c2 ⟨z.1, z.2.1⟩), if_neg (fun z => c1 ⟨z.1, z.2.1⟩)]
          by_cases hf : fm = 1
          · have ih2 := ih (n + 1) (by omega) (i + 1) (by omega) (fun _ z => c2 ⟨hf, z⟩) (by rw [show i + 1 + (n + 1) = i + (n + 2) by omega]; exact h2)
            rw [show i + 1 + (n + 1) = i + (n + 2) by omega, wd (i + 1) (i + (n + 2)) (by omega) hl] at ih2
            rw [cnF_some e1]
            cases ht : tkw fm (txt.getD (i + 1) 0 :: wdO txt (i + 1 + 1) (i + (n + 2))) with
            | none => exact ⟨fun L h => (by cases h), fun _ => List.mem_cons_of_mem _ (ih2.2 ht)⟩
            | some M => exact ⟨fun L h => by cases h; rw [ih2.1 M ht], fun h => (by cases h)⟩
          · have all : ∀ (w : List Nat), tkw fm w = some w := by
              intro w
              induction w with
              | nil => rfl
              | cons c r ihr =>
                cases r with
                | nil => unfold tkw; rw [if_neg (fun z => hf z.1)]
                | cons d r => unfold tkw; rw [if_neg (fun z => hf z.1), if_neg (fun z => hf z.1), ihr]; rfl
            have al2 : ∀ (k j : Nat), j + k ≤ txt.length → cnF fm txt k j = wdO txt j (j + k) := by
              intro k
              induction k with
              | zero => intro j _; rw [Nat.add_zero, wd0]; rfl
              | succ k ihk =>
                intro j hj
                have : cn fm txt j = some (txt.getD j 0) := by unfold cn; rw [if_neg (fun z => hf z.1), if_neg (fun z => hf z.1)]
                rw [cnF_some this, wd j (j + (k + 1)) (by omega) hj, ihk (j + 1) (by omega), show j + 1 + k = j + (k + 1) by omega]
            rw [all]
            refine ⟨fun L h => ?_, fun h => (by cases h)⟩
            cases h
            rw [cnF_some e1, al2 (n + 1) (i + 1) (by omega), show i + 1 + (n + 1) = i + (n + 2) by omega, wd (i + 1) (i + (n + 2)) (by omega) hl]
/-- dotted: parts between separators -/
def dtF (sep : Nat) : List Nat → Bool → Bool
  | [], fr => !fr
  | c :: r, fr => if c = sep ∧ fr = false then dtF sep r true else if (isLt c || (!fr && isDg c)) = true then dtF sep r false else false
def sepOk (sep : Nat) : Prop := isLt sep = false ∧ isDg sep = false
theorem dt_nm {sep : Nat} (hs : sepOk sep) : ∀ (r : List Nat) (i : Nat) (pb : Bool), nmE sep r i pb = some (i + r.length) ↔ dtF sep r pb = true
  | [], i, pb => by
    unfold nmE dtF
    cases pb <;> simp
  | x :: r, i, pb => by
    unfold nmE dtF
    rw [List.length_cons, show i + (r.length + 1) = i + 1 + r.length by omega]
    by_cases c1 : (isLt x || (!pb && isDg x)) = true
    · rw [if_pos c1, if_neg (fun z => by rw [z.1, hs.1, hs.2] at c1; simp at c1), if_pos c1]
      exact dt_nm hs r (i + 1) false
    · rw [if_neg c1]
      by_cases c2 : x = sep ∧ pb = false
      · rw [if_pos (by rw [c2.1, c2.2]; simp), if_pos c2]
        exact dt_nm hs r (i + 1) true
      · rw [if_neg (fun z => c2 (by simp at z; exact ⟨z.2, z.1⟩)), if_neg c2, if_neg c1]
        constructor
        · intro h
          cases pb with
          | true => simp at h
          | false => simp at h; omega
        · intro h; cases h
/-- the place of the first ; -/
def fx : List Nat → Nat → Nat
  | [], i => i
  | x :: r, i => if x = 59 then i else fx r (i + 1)
theorem fx_le : ∀ (r : List Nat) (i : Nat), i ≤ fx r i ∧ fx r i ≤ i + r.length
  | [], i => ⟨Nat.le_refl _, Nat.le_refl _⟩
  | x :: r, i => by
    unfold fx
    by_cases c : x = 59
    · rw [if_pos c, List.length_cons]; omega
    · rw [if_neg c, List.length_cons]; have := fx_le r (i + 1); omega
theorem fx_nm : ∀ (r : List Nat) (i : Nat) (pb : Bool), (∀ q, nmE 47 r i pb = some q → q < i + r.length → r.getD (q - i) 0 = 59 → q = fx r i ∧ fx r i < i + r.length ∧ dtF 47 (r.take (fx r i - i)) pb = true) ∧ (fx r i < i + r.length → dtF 47 (r.take (fx r i - i)) pb = true → nmE 47 r i pb = some (fx r i) ∧ r.getD (fx r i - i) 0 = 59)
  | [], i, pb => by
    refine ⟨fun q _ _ h3 => absurd (show (0 : Nat) = 59 from h3) (by decide), fun h _ => ?_⟩
    · unfold fx at h; simp at h
  | x :: r, i, pb => by
    have hfx := fx_le r (i + 1)
    by_cases c : x = 59
    · subst c
      have e : fx (59 :: r) i = i := by unfold fx; rw [if_pos rfl]
      rw [e, Nat.sub_self, List.take_zero]
      unfold nmE dtF
      have n1 : isLt 59 = false := by decide
      have n2 : isDg 59 = false := by decide
      rw [if_neg (by rw [n1, n2]; simp), if_neg (by simp), List.length_cons]
      cases pb with
      | true => simp
      | false =>
        refine ⟨fun q h1 h2 h3 => ?_, fun _ _ => ?_⟩
        · simp at h1; exact ⟨h1.symm, by omega, rfl⟩
        · exact ⟨by simp, by simp⟩
    · have e : fx (x :: r) i = fx r (i + 1) := by
        show (if x = 59 then i else fx r (i + 1)) = _
        rw [if_neg c]
      have e2 : fx r (i + 1) - i = (fx r (i + 1) - (i + 1)) + 1 := by omega
      rw [e, e2, List.take_succ_cons, List.length_cons, show i + (r.length + 1) = i + 1 + r.length by omega]
      have gd : ∀ q, i + 1 ≤ q → (x :: r).getD (q - i) 0 = r.getD (q - (i + 1)) 0 := fun q hq => by
        rw [show q - i = (q - (i + 1)) + 1 by omega]; rfl
      have gd2 : (x :: r).getD (fx r (i + 1) - (i + 1) + 1) 0 = r.getD (fx r (i + 1) - (i + 1)) 0 := rfl
      rw [gd2]
      unfold nmE dtF
      have lo : ∀ (rr : List Nat) (j : Nat) (pb : Bool) (q : Nat), nmE 47 rr j pb = some q → j ≤ q := by
        intro rr
        induction rr with
        | nil => intro j pb q hh; unfold nmE at hh; cases pb <;> simp at hh; omega
        | cons x rr ih =>
          intro j pb q hh
          unfold nmE at hh
          by_cases d1 : (isLt x || (!pb && isDg x)) = true
          · rw [if_pos d1] at hh; have := ih _ _ _ hh; omega
          · rw [if_neg d1] at hh
            by_cases d2 : (!pb && decide (x = 47)) = true
            · rw [if_pos d2] at hh; have := ih _ _ _ hh; omega
            · rw [if_neg d2] at hh
              cases pb <;> simp at hh; omega
      by_cases c1 : (isLt x || (!pb && isDg x)) = true
      · rw [if_pos c1]
        have hne : ¬ (x = 47 ∧ pb = false) := fun z => by rw [z.1, show isLt 47 = false from rfl, show isDg 47 = false from rfl] at c1; simp at c1
        rw [if_neg hne, if_pos c1]
        have ih := fx_nm r (i + 1) false
        exact ⟨fun q h1 h2 h3 => ih.1 q h1 h2 (by rw [← gd q (lo _ _ _ _ h1)]; exact h3), ih.2⟩
      · rw [if_neg c1]
        by_cases c2 : x = 47 ∧ pb = false
        · rw [if_pos (by rw [c2.1, c2.2]; rfl), if_pos c2]
          have ih := fx_nm r (i + 1) true
          exact ⟨fun q h1 h2 h3 => ih.1 q h1 h2 (by rw [← gd q (lo _ _ _ _ h1)]; exact h3), ih.2⟩
        · rw [if_neg (fun z => c2 (by simp at z; exact ⟨z.2, z.1⟩)), if_neg c2, if_neg c1]
          refine ⟨fun q h1 h2 h3 => ?_, fun _ h => (by cases h)⟩
          exfalso
          cases pb with
          | true => simp at h1
          | false => simp at h1; subst h1; rw [Nat.sub_self] at h3; exact c h3
theorem take_drop_fx (xs : List Nat) (j q : Nat) : (xs.drop j).take (q - j) = (xs.take q).drop j := by rw [List.drop_take]
theorem getD_drop {xs : List Nat} {j k : Nat} : (xs.drop j).getD k 0 = xs.getD (j + k) 0 := by
  rw [List.getD_eq_getElem?_getD, List.getElem?_drop, ← List.getD_eq_getElem?_getD]
/-- the model's way to a field's end -/
def fieldM (xs : List Nat) (k : Nat) : Option Nat :=
  if xs.length ≤ skipB xs k then none
  else if isBs (xs.getD (skipB xs k) 0) = true then some (skipB xs k + 1)
  else if xs.getD (skipB xs k) 0 ≠ 76 then none
  else if fx (xs.drop (skipB xs k + 1)) (skipB xs k + 1) < xs.length ∧ dtF 47 ((xs.take (fx (xs.drop (skipB xs k + 1)) (skipB xs k + 1))).drop (skipB xs k + 1)) true = true then some (fx (xs.drop (skipB xs k + 1)) (skipB xs k + 1) + 1) else none
theorem fieldM_eq (xs : List Nat) (k : Nat) : fieldM xs k = fieldE xs k := by
  unfold fieldM fieldE
  simp only
  by_cases c1 : xs.length ≤ skipB xs k
  · rw [if_pos c1, if_pos c1]
  · rw [if_neg c1, if_neg c1]
    by_cases c2 : isBs (xs.getD (skipB xs k) 0) = true
    · rw [if_pos c2, if_pos c2]
    · rw [if_neg c2, if_neg c2]
      by_cases c3 : xs.getD (skipB xs k) 0 ≠ 76
      · rw [if_pos c3, if_pos c3]
      · rw [if_neg c3, if_neg c3]
        generalize skipB xs k + 1 = j at *
        have hj : j ≤ xs.length ∨ xs.length < j := by omega
        have h := fx_nm (xs.drop j) j true
        rw [List.length_drop, take_drop_fx] at h
        unfold nameE
        by_cases c4 : fx (xs.drop j) j < xs.length ∧ dtF 47 ((xs.take (fx (xs.drop j) j)).drop j) true = true
        · rw [if_pos c4]
          have hl := fx_le (xs.drop j) j
          obtain ⟨a1, a2⟩ := h.2 (by omega) c4.2
          rw [a1]
          simp only
          rw [getD_drop, show j + (fx (xs.drop j) j - j) = fx (xs.drop j) j by omega] at a2
          rw [if_pos ⟨c4.1, a2⟩]
        · rw [if_neg c4]
          cases hn : nmE 47 (xs.drop j) j true with
          | none => rfl
          | some q =>
            simp only
            by_cases c5 : q < xs.length ∧ xs.getD q 0 = 59
            · exfalso
              have hq := nmE_le 47 _ _ _ _ hn
              have lo : j ≤ q := by
                rcases Nat.lt_or_ge q j with z | z
                · exfalso
                  have : ∀ (rr : List Nat) (j : Nat) (pb : Bool) (q : Nat), nmE 47 rr j pb = some q → j ≤ q := by
                    intro rr
                    induction rr with
                    | nil => intro j pb q hh; unfold nmE at hh; cases pb <;> simp at hh; omega
                    | cons x rr ih =>
                      intro j pb q hh
                      unfold nmE at hh
                      by_cases d1 : (isLt x || (!pb && isDg x)) = true
                      · rw [if_pos d1] at hh; have := ih _ _ _ hh; omega
                      · rw [if_neg d1] at hh
                        by_cases d2 : (!pb && decide (x = 47)) = true
                        · rw [if_pos d2] at hh; have := ih _ _ _ hh; omega
                        · rw [if_neg d2] at hh
                          cases pb <;> simp at hh; omega
                  have := this _ _ _ _ hn
                  omega
                · exact z
              have h3 := h.1 q hn (by omega) (by rw [getD_drop, show j + (q - j) = q by omega]; exact c5.2)
              exact c4 ⟨by omega, h3.2.2⟩
            · rw [if_neg c5]
theorem fieldE_end {xs : List Nat} {k : Nat} (h : xs.length ≤ k) : fieldE xs k = none := by
  unfold fieldE skipB
  rw [List.drop_eq_nil_of_le h]
  show (if xs.length ≤ k then none else _) = none
  rw [if_pos h]
theorem mdL_none (xs : List Nat) : ∀ n, mdL xs n none = none
  | 0 => rfl
  | _ + 1 => rfl
/-- the model's end of a method's descriptor -/
theorem mdR_eq {xs : List Nat} {q : Nat} (hq : q < xs.length) (h41 : xs.getD q 0 = 41) : mdR xs (some q) = (decide (q + 1 < xs.length) && (decide (xs.getD (q + 1) 0 = 86 ∧ q + 2 = xs.length) || decide (fieldE xs (q + 1) = some xs.length))) := by
  unfold mdR
  simp only
  rw [if_pos ⟨hq, h41⟩]
  by_cases c : q + 1 < xs.length
  · rw [decide_eq_true c, Bool.true_and]
    by_cases c2 : xs.getD (q + 1) 0 = 86
    · rw [if_pos ⟨c, c2⟩]
      have hf : fieldE xs (q + 1) = none := by
        unfold fieldE skipB
        rw [drop_cons c, c2]
        have : skB (86 :: xs.drop (q + 1 + 1)) (q + 1) = q + 1 := by unfold skB; rw [if_neg (by decide)]
        rw [this]
        simp only
        rw [if_neg (by omega), c2, if_neg (by decide), if_pos (by decide)]
      rw [hf]
      by_cases c3 : q + 2 = xs.length
      · rw [decide_eq_true c3, decide_eq_true ⟨c2, c3⟩]; rfl
      · rw [decide_eq_false c3, decide_eq_false (fun z => c3 z.2)]; rfl
    · rw [if_neg (fun z => c2 z.2), decide_eq_false (show ¬ (xs.getD (q + 1) 0 = 86 ∧ q + 2 = xs.length) from fun z => c2 z.1), Bool.false_or]
  · rw [decide_eq_false c, Bool.false_and, if_neg (fun z => c z.1), fieldE_end (by omega)]; rfl
/-- characters of names and descriptors -/
def vch (c : Nat) : Bool := isLt c || isDg c || decide (c = 0 ∨ c = 40 ∨ c = 41 ∨ c = 46 ∨ c = 47 ∨ c = 59 ∨ c = 60 ∨ c = 62 ∨ c = 91)
theorem vch_no {c : Nat} (h : vch c = true) : c ≠ 10 ∧ c ≠ 32 ∧ c ≠ 37 := by
  refine ⟨?_, ?_, ?_⟩ <;> (intro e; rw [e] at h; revert h; decide)
theorem nm_vch {sep : Nat} (hs : vch sep = true) : ∀ (r : List Nat) (i : Nat) (pb : Bool) (q : Nat), nmE sep r i pb = some q → i ≤ q ∧ ∀ j, j < q - i → vch (r.getD j 0) = true
  | [], i, pb, q, h => by
    unfold nmE at h
    cases pb with
    | true => simp at h
    | false => simp at h; exact ⟨by omega, fun j hj => by omega⟩
  | x :: r, i, pb, q, h => by
    unfold nmE at h
    by_cases c1 : (isLt x || (!pb && isDg x)) = true
    · rw [if_pos c1] at h
      have := nm_vch hs r (i + 1) false q h
      refine ⟨by omega, fun j hj => ?_⟩
      cases j with
      | zero =>
        show vch x = true
        unfold vch
        simp only [Bool.or_eq_true, Bool.and_eq_true] at c1 ⊢
        rcases c1 with e | e
        · exact Or.inl (Or.inl e)
        · exact Or.inl (Or.inr e.2)
      | succ j => exact this.2 j (by omega)
    · rw [if_neg c1] at h
      by_cases c2 : (!pb && decide (x = sep)) = true
      · rw [if_pos c2] at h
        have := nm_vch hs r (i + 1) true q h
        refine ⟨by omega, fun j hj => ?_⟩
        cases j with
        | zero => simp at c2; show vch x = true; rw [c2.2]; exact hs
        | succ j => exact this.2 j (by omega)
      · rw [if_neg c2] at h
        cases pb with
        | true => simp at h
        | false => simp at h; exact ⟨by omega, fun j hj => by omega⟩
theorem skB_91 : ∀ (r : List Nat) (i j : Nat), j < skB r i - i → r.getD j 0 = 91
  | [], i, j, h => by unfold skB at h; omega
  | x :: r, i, j, h => by
    unfold skB at h
    by_cases c : x = 91
    · rw [if_pos c] at h
      cases j with
      | zero => exact c
      | succ j => exact skB_91 r (i + 1) j (by omega)
    · rw [if_neg c] at h; omega
theorem fieldE_vch {xs : List Nat} {i q : Nat} (hi : i ≤ xs.length) (h : fieldE xs i = some q) : ∀ j, i ≤ j → j < q → vch (xs.getD j 0) = true := by
  have hs := skipB_le hi
  have h91 := skB_91 (xs.drop i) i
  have b91 : ∀ j, i ≤ j → j < skipB xs i → vch (xs.getD j 0) = true := fun j h1 h2 => by
    have := h91 (j - i) (by show j - i < skipB xs i - i; omega)
    rw [getD_drop, show i + (j - i) = j by omega] at this
    rw [this]; rfl
  unfold fieldE at h
  simp only at h
  by_cases c1 : xs.length ≤ skipB xs i
  · rw [if_pos c1] at h; cases h
  · rw [if_neg c1] at h
    by_cases c2 : isBs (xs.getD (skipB xs i) 0) = true
    · rw [if_pos c2] at h; cases h
      intro j h1 h2
      rcases Nat.lt_or_ge j (skipB xs i) with z | z
      · exact b91 j h1 z
      · rw [show j = skipB xs i by omega]
        unfold isBs at c2
        rw [decide_eq_true_eq] at c2
        unfold vch isLt
        simp only [Bool.or_eq_true, decide_eq_true_eq]
        omega
    · rw [if_neg c2] at h
      by_cases c3 : xs.getD (skipB xs i) 0 ≠ 76
      · rw [if_pos c3] at h; cases h
      · rw [if_neg c3] at h
        cases hn : nameE 47 xs (skipB xs i + 1) with
        | none => rw [hn] at h; cases h
        | some r =>
          rw [hn] at h
          simp only at h
          by_cases c4 : r < xs.length ∧ xs.getD r 0 = 59
          · rw [if_pos c4] at h; cases h
            have hv := nm_vch (sep := 47) rfl _ _ _ _ hn
            intro j h1 h2
            rcases Nat.lt_or_ge j (skipB xs i) with z | z
            · exact b91 j h1 z
            · by_cases e1 : j = skipB xs i
              · rw [e1, Decidable.not_not.mp c3]; rfl
              · by_cases e2 : j = r
                · rw [e2, c4.2]; rfl
                · have := hv.2 (j - (skipB xs i + 1)) (by omega)
                  rw [getD_drop, show skipB xs i + 1 + (j - (skipB xs i + 1)) = j by omega] at this
                  exact this
          · rw [if_neg c4] at h; cases h
theorem mdL_vch {xs : List Nat} : ∀ (n q r : Nat), q ≤ xs.length → (∀ j, j < q → vch (xs.getD j 0) = true) → mdL xs n (some q) = some r → ∀ j, j < r → vch (xs.getD j 0) = true
  | 0, q, r, _, h2, h => by cases h; exact h2
  | n + 1, q, r, h1, h2, h => by
    unfold mdL at h
    by_cases c : q < xs.length ∧ xs.getD q 0 = 41
    · rw [if_pos c] at h; cases h; exact h2
    · rw [if_neg c] at h
      cases hf : fieldE xs q with
      | none => rw [hf, mdL_none] at h; cases h
      | some z =>
        rw [hf] at h
        have := fieldE_le h1 hf
        exact mdL_vch n z r this.2 (fun j hj => by
          rcases Nat.lt_or_ge j q with e | e
          · exact h2 j e
          · exact fieldE_vch h1 hf j e hj) h
theorem all_getD {xs : List Nat} {P : Nat → Prop} (h : ∀ j, j < xs.length → P (xs.getD j 0)) : ∀ c ∈ xs, P c := fun c hc => by
  obtain ⟨i, hi, e⟩ := mem_getD hc
  rw [← e]; exact h i hi
theorem isFD_vch {xs : List Nat} (h : isFD xs = true) : ∀ c ∈ xs, vch c = true := by
  unfold isFD at h
  rw [decide_eq_true_eq] at h
  exact all_getD (fun j hj => fieldE_vch (Nat.zero_le _) h j (Nat.zero_le _) hj)
theorem isMD_vch {xs : List Nat} (h : isMD xs = true) : ∀ c ∈ xs, vch c = true := by
  unfold isMD at h
  rw [Bool.and_eq_true, decide_eq_true_eq] at h
  obtain ⟨⟨h0, h1⟩, h2⟩ := h
  cases hm : mdL xs 20 (some 1) with
  | none => rw [hm] at h2; cases h2
  | some q =>
    rw [hm] at h2
    have hv := mdL_vch 20 1 q (by omega) (fun j hj => by rw [show j = 0 by omega, h1]; rfl) hm
    have hq : q < xs.length ∧ xs.getD q 0 = 41 := by
      unfold mdR at h2
      simp only at h2
      by_cases c : q < xs.length ∧ xs.getD q 0 = 41
      · exact c
      · rw [if_neg c] at h2; cases h2
    rw [mdR_eq hq.1 hq.2, Bool.and_eq_true, Bool.or_eq_true, decide_eq_true_eq, decide_eq_true_eq, decide_eq_true_eq] at h2
    refine all_getD (fun j hj => ?_)
    rcases Nat.lt_or_ge j q with e | e
    · exact hv j e
    · by_cases e2 : j = q
      · rw [e2, hq.2]; rfl
      · rcases h2.2 with z | z
        · rw [show j = q + 1 by omega, z.1]; rfl
        · exact fieldE_vch (by omega) z j (by omega) hj
theorem isNm_vch {mem : Bool} {k : Nat} {xs : List Nat} (h : isNm mem k xs = true) : ∀ c ∈ xs, vch c = true := by
  unfold isNm at h
  rw [Bool.or_eq_true, Bool.and_eq_true, decide_eq_true_eq, decide_eq_true_eq] at h
  rcases h with h | h
  · rw [h.2]; decide
  · have := nm_vch (by cases mem <;> rfl) _ _ _ _ h
    refine all_getD (fun j hj => ?_)
    have := this.2 j (by omega)
    rw [getD_drop, Nat.zero_add] at this
    exact this
theorem isNm_dt (mem : Bool) (k : Nat) (xs : List Nat) : isNm mem k xs = (dtF (if mem then 0 else 46) xs true || (mem && decide (k = 1) && decide (xs = strL 14))) := by
  unfold isNm
  have e : decide (nameE (if mem then 0 else 46) xs 0 = some xs.length) = dtF (if mem then 0 else 46) xs true := by
    have := dt_nm (sep := if mem then 0 else 46) (by cases mem <;> exact ⟨rfl, rfl⟩) xs 0 true
    rw [Nat.zero_add] at this
    cases h : dtF (if mem then 0 else 46) xs true with
    | true => exact decide_eq_true (this.mpr h)
    | false => exact decide_eq_false (fun z => by rw [this.mp z] at h; cases h)
  rw [e, Bool.or_comm]
/-- take, with room for 20 -/
def tkL (fm : Nat) (w : List Nat) : Option (List Nat) := (tkw fm w).bind (fun L => if L.length ≤ 20 then some L else none)
theorem tk_cnR {fm : Nat} {txt : List Nat} {ws we : Nat} (hfm : fm = 1 ∨ fm = 2) (h1 : ws ≤ we) (h2 : we ≤ txt.length) (hb : 0 < ws → txt.getD (ws - 1) 0 ≠ 37) (ha : txt.getD we 0 ≠ 36) : (∀ L, tkL fm (wdO txt ws we) = some L → cnR fm txt ws we = (L, false)) ∧ (tkL fm (wdO txt ws we) = none → (cnR fm txt ws we).2 = true ∨ 37 ∈ (cnR fm txt ws we).1) := by
  have h := tkw_cnF hfm (we - ws) ws (by omega) hb (by rw [show ws + (we - ws) = we by omega]; exact ha)
  rw [show ws + (we - ws) = we by omega] at h
  have fit : ∀ (ys : List Nat), ys.length ≤ 20 → ys.foldl (addR 20) ([], false) = (ys, false) := fun ys hy => addR_all 20 ys [] (by simpa using hy)
  have over : ∀ (ys : List Nat), 20 < ys.length → (ys.foldl (addR 20) ([], false)).2 = true := fun ys hy => addR_over ys [] false (by simp) (by simpa using hy)
  unfold tkL cnR
  cases ht : tkw fm (wdO txt ws we) with
  | none =>
    refine ⟨fun L hL => (by cases hL), fun _ => ?_⟩
    have hm := h.2 ht
    generalize cnF fm txt (we - ws) ws = ys at *
    rcases Nat.lt_or_ge 20 ys.length with z | z
    · exact Or.inl (over ys z)
    · rw [fit ys z]; exact Or.inr hm
  | some L =>
    have hm := h.1 L ht
    rw [hm]
    show (∀ M, (if L.length ≤ 20 then some L else none) = some M → _) ∧ _
    by_cases c : L.length ≤ 20
    · rw [if_pos c]
      refine ⟨fun M hM => (by cases hM; exact fit L c), fun hM => ?_⟩
      have hM : (if L.length ≤ 20 then some L else none) = none := hM
      rw [if_pos c] at hM; cases hM
    · rw [if_neg c]
      exact ⟨fun M hM => (by cases hM), fun _ => Or.inl (over L (by omega))⟩
def tkN (mem : Bool) (k fm : Nat) (w : List Nat) : Bool := match tkL fm w with
  | none => false
  | some L => dtF (if mem then 0 else 46) L true || (mem && decide (k = 1) && decide (L = strL 14))
def tkD (k fm : Nat) (w : List Nat) : Bool := match tkL fm w with
  | none => false
  | some L => if k = 1 then isMD L else isFD L
theorem no37 {xs : List Nat} (h : ∀ c ∈ xs, vch c = true) : 37 ∉ xs := fun z => (vch_no (h 37 z)).2.2 rfl
theorem tkN_eq {mem : Bool} {k fm : Nat} {txt : List Nat} {ws we : Nat} (hfm : fm = 1 ∨ fm = 2) (h1 : ws ≤ we) (h2 : we ≤ txt.length) (hb : 0 < ws → txt.getD (ws - 1) 0 ≠ 37) (ha : txt.getD we 0 ≠ 36) : okN mem k (cnR fm txt ws we) = tkN mem k fm (wdO txt ws we) := by
  have h := tk_cnR hfm h1 h2 hb ha
  unfold tkN
  cases ht : tkL fm (wdO txt ws we) with
  | some L =>
    rw [h.1 L ht]
    simp only
    unfold okN
    rw [isNm_dt]
    simp only [Bool.not_false, Bool.and_true]
    cases dtF (if mem then 0 else 46) L true <;> cases (mem && decide (k = 1) && decide (L = strL 14)) <;> rfl
  | none =>
    simp only
    cases ho : okN mem k (cnR fm txt ws we) with
    | false => rfl
    | true =>
      exfalso
      have hf := okN_fits ho
      rcases h.2 ht with z | z
      · rw [hf] at z; cases z
      · unfold okN at ho
        rw [Bool.or_eq_true, Bool.and_eq_true, Bool.and_eq_true, decide_eq_true_eq] at ho
        rcases ho with e | e
        · exact no37 (isNm_vch e.1) z
        · rw [e.2] at z; revert z; decide
theorem tkD_eq {k fm : Nat} {txt : List Nat} {ws we : Nat} (hfm : fm = 1 ∨ fm = 2) (h1 : ws ≤ we) (h2 : we ≤ txt.length) (hb : 0 < ws → txt.getD (ws - 1) 0 ≠ 37) (ha : txt.getD we 0 ≠ 36) : okD k (cnR fm txt ws we) = tkD k fm (wdO txt ws we) := by
  have h := tk_cnR hfm h1 h2 hb ha
  unfold tkD
  cases ht : tkL fm (wdO txt ws we) with
  | some L =>
    rw [h.1 L ht]
    rfl
  | none =>
    simp only
    cases ho : okD k (cnR fm txt ws we) with
    | false => rfl
    | true =>
      exfalso
      have hf := okD_fits ho
      rcases h.2 ht with z | z
      · rw [hf] at z; cases z
      · unfold okD at ho
        rw [Bool.and_eq_true] at ho
        by_cases c : k = 1
        · rw [if_pos c] at ho; exact no37 (isMD_vch ho.2) z
        · rw [if_neg c] at ho; exact no37 (isFD_vch ho.2) z
/-- a strictly sorted list: as many are less as stand before -/
theorem cnt_sorted {α : Type} {lt : α → α → Bool} (irr : ∀ x, lt x x = false) (asy : ∀ x y, lt x y = true → lt y x = false) : ∀ {L : List α}, L.Pairwise (fun a b => lt a b = true) → ∀ (n : Nat) (x : α), L[n]? = some x → L.countP (fun y => lt y x) = n
  | [], _, n, x, h => by simp at h
  | y :: L, hp, 0, x, h => by
    rw [List.pairwise_cons] at hp
    have e : y = x := by simpa using h
    subst e
    rw [List.countP_cons, irr y, if_neg (by simp), List.countP_eq_zero.mpr (fun z hz => by rw [asy _ _ (hp.1 z hz)]; simp)]
  | y :: L, hp, n + 1, x, h => by
    rw [List.pairwise_cons] at hp
    have h : L[n]? = some x := by simpa using h
    rw [List.countP_cons, if_pos (hp.1 x (List.mem_of_getElem? h)), cnt_sorted irr asy hp.2 n x h]
theorem cnt_rank {α : Type} {lt : α → α → Bool} (irr : ∀ x, lt x x = false) (asy : ∀ x y, lt x y = true → lt y x = false) {L V : List α} (hp : L.Perm V) (hs : L.Pairwise (fun a b => lt a b = true)) {k : Nat} {x : α} (hk : V[k]? = some x) : V.countP (fun y => lt y x) < L.length ∧ L[V.countP (fun y => lt y x)]? = some x := by
  have hm : x ∈ L := hp.mem_iff.mpr (List.mem_of_getElem? hk)
  obtain ⟨n, hn, e⟩ := List.getElem_of_mem hm
  have hn2 : L[n]? = some x := by rw [List.getElem?_eq_getElem hn, e]
  have := cnt_sorted irr asy hs n x hn2
  rw [← hp.countP_eq, this]
  exact ⟨hn, hn2⟩
theorem cnt_ex {α : Type} {lt : α → α → Bool} (irr : ∀ x, lt x x = false) (asy : ∀ x y, lt x y = true → lt y x = false) {L V : List α} (hp : L.Perm V) (hs : L.Pairwise (fun a b => lt a b = true)) {t : Nat} (ht : t < L.length) : ∃ (k : Nat) (x : α), V[k]? = some x ∧ V.countP (fun y => lt y x) = t := by
  have hm : L[t] ∈ V := hp.mem_iff.mp (List.getElem_mem ht)
  obtain ⟨k, hk, e⟩ := List.getElem_of_mem hm
  refine ⟨k, L[t], by rw [List.getElem?_eq_getElem hk, e], ?_⟩
  rw [← hp.countP_eq]
  exact cnt_sorted irr asy hs t _ (List.getElem?_eq_getElem ht)
def ltN (a b : List Nat) : Bool := decide (cmpL a b < 0)
def ltM (a b : DV) : Bool := decide (cmpD a b < 0)
theorem ltN_irr (x : List Nat) : ltN x x = false := by unfold ltN; rw [cmpL_zero.mpr rfl]; rfl
theorem ltN_asy (x y : List Nat) (h : ltN x y = true) : ltN y x = false := by
  unfold ltN at *
  rw [decide_eq_true_eq] at h
  rw [decide_eq_false_iff_not, cmpL_swap]
  omega
theorem ltM_irr (x : DV) : ltM x x = false := by unfold ltM; rw [cmpD_zero.mpr ⟨rfl, rfl, rfl⟩]; rfl
theorem ltM_asy (x y : DV) (h : ltM x y = true) : ltM y x = false := by
  unfold ltM at *
  rw [decide_eq_true_eq] at h
  rw [decide_eq_false_iff_not, cmpD_swap]
  omega
/-- C is the class's list, U the list in the order of reading -/
def srU (u : TU) : TU := (u.1, srtM u.2)
def Srt (C U : List TU) : Prop := C.Perm (U.map srU) ∧ C.Pairwise (fun a b => cmpL a.1.1 b.1.1 < 0)
def rnkT (U : List TU) (k : Nat) : Nat := U.countP (fun u => ltN u.1.1 (U.getD k default).1.1)
def rnkM (ms : List DV) (k : Nat) : Nat := ms.countP (fun d => ltM d (ms.getD k default))
theorem getD_some {α : Type} {xs : List α} {k : Nat} {d : α} (h : k < xs.length) : xs[k]? = some (xs.getD k d) := by
  rw [List.getD_eq_getElem?_getD, List.getElem?_eq_getElem h]; rfl
theorem countP_map2 {α β : Type} (f : α → β) (p : β → Bool) (xs : List α) : (xs.map f).countP p = xs.countP (fun x => p (f x)) := by rw [List.countP_map]; rfl
theorem rnkT_lt {C U : List TU} (h : Srt C U) {k : Nat} (hk : k < U.length) : rnkT U k < C.length ∧ C.getD (rnkT U k) default = srU (U.getD k default) := by
  have := cnt_rank (lt := fun a b : TU => ltN a.1.1 b.1.1) (fun x => ltN_irr _) (fun x y => ltN_asy _ _) h.1 (h.2.imp (fun {a b} z => decide_eq_true z)) (k := k) (x := srU (U.getD k default)) (by rw [List.getElem?_map, getD_some hk]; rfl)
  rw [countP_map2] at this
  refine ⟨this.1, ?_⟩
  rw [List.getD_eq_getElem?_getD, show C[rnkT U k]? = _ from this.2]; rfl
theorem rnkT_ex {C U : List TU} (h : Srt C U) {t : Nat} (ht : t < C.length) : ∃ k, k < U.length ∧ rnkT U k = t := by
  obtain ⟨k, x, h1, h2⟩ := cnt_ex (lt := fun a b : TU => ltN a.1.1 b.1.1) (fun x => ltN_irr _) (fun x y => ltN_asy _ _) h.1 (h.2.imp (fun {a b} z => decide_eq_true z)) ht
  have hk : k < U.length := by
    have := (List.getElem?_eq_some_iff.mp h1).1
    rwa [List.length_map] at this
  refine ⟨k, hk, ?_⟩
  rw [List.getElem?_map, getD_some (d := default) hk] at h1
  have e : srU (U.getD k default) = x := by simpa using h1
  rw [countP_map2, ← e] at h2
  exact h2
theorem Srt.len {C U : List TU} (h : Srt C U) : C.length = U.length := by have := h.1.length_eq; rwa [List.length_map] at this
theorem rnkM_lt {ms : List DV} (h : ms.Pairwise (fun a b => cmpD a b ≠ 0)) {k : Nat} (hk : k < ms.length) : rnkM ms k < ms.length ∧ (srtM ms).getD (rnkM ms k) default = ms.getD k default := by
  have := cnt_rank (lt := ltM) ltM_irr ltM_asy (srtM_perm ms) ((srtM_srt h).imp (fun {a b} z => decide_eq_true z)) (k := k) (x := ms.getD k default) (getD_some hk)
  rw [(srtM_perm ms).length_eq] at this
  refine ⟨this.1, ?_⟩
  rw [List.getD_eq_getElem?_getD, show (srtM ms)[rnkM ms k]? = _ from this.2]; rfl
theorem rnkM_ex {ms : List DV} (h : ms.Pairwise (fun a b => cmpD a b ≠ 0)) {t : Nat} (ht : t < ms.length) : ∃ k, k < ms.length ∧ rnkM ms k = t := by
  obtain ⟨k, x, h1, h2⟩ := cnt_ex (lt := ltM) ltM_irr ltM_asy (srtM_perm ms) ((srtM_srt h).imp (fun {a b} z => decide_eq_true z)) (t := t) (by rw [(srtM_perm ms).length_eq]; exact ht)
  have hk : k < ms.length := (List.getElem?_eq_some_iff.mp h1).1
  refine ⟨k, hk, ?_⟩
  rw [getD_some (d := default) hk] at h1
  have e : ms.getD k default = x := by simpa using h1
  rw [← e] at h2
  exact h2
theorem RelT.srt {us : List TV} {U : List TU} (h : RelT us U) (hd : U.Pairwise (fun a b => cmpL a.1.1 b.1.1 ≠ 0)) : Srt (us.map vwT) U := by
  refine ⟨h.1, ?_⟩
  have hd2 : (us.map vwT).Pairwise (fun a b => cmpL a.1.1 b.1.1 ≠ 0) := by
    refine h.1.symm.pairwise (List.pairwise_map.mpr hd) (fun {a b} z e => z ?_)
    rw [cmpL_swap]; omega
  have hs := h.2
  rw [List.pairwise_map] at hs hd2 ⊢
  refine (hs.and hd2).imp (fun {a b} z => ?_)
  have e : cmpL (vwT a).1.1 (vwT b).1.1 = cmpL a.1.2.2.1 b.1.2.2.1 := rfl
  rw [e] at z ⊢
  rw [cmpD_name z.2] at z
  exact z.1
