/-- the lines of a baseline -/
def dcl (C : List TU) : List (Bool × DV) := C.flatMap (fun c => (false, c.1) :: c.2.map (fun d => (true, d)))
def lnT (fm : Nat) (x : Bool × DV) : List Nat := (if x.1 then [32, 32] else []) ++ (mkW x.1 x.2.2.2.2 (nMarks x.1) ++ (strL (kindS x.1 x.2.2.2.1) ++ (32 :: (escN fm x.2.1 ++ (if x.1 then 32 :: escN fm x.2.2.1 else [])))))
def lns (fm : Nat) (C : List TU) : List (List Nat) := (strL 15 ++ [48 + fm]) :: (dcl C).map (lnT fm)
theorem lineD_lnT (mem : Bool) (fm : Nat) (x : DV) : lineD mem fm x = lnT fm (mem, x) ++ [10] := by
  unfold lineD lnT
  simp only [List.append_assoc, List.cons_append]
theorem formL_lns (fm : Nat) (us : List TV) : formL fm us = (lns fm (us.map vwT)).flatMap (· ++ [10]) := by
  unfold formL lns
  rw [List.flatMap_cons, List.append_assoc, List.append_assoc]
  congr 1
  show (48 + fm) :: 10 :: typL fm us = (48 + fm) :: 10 :: _
  refine congrArg (fun z => (48 + fm) :: 10 :: z) ?_
  show typL fm us = ((dcl (us.map vwT)).map (lnT fm)).flatMap (· ++ [10])
  unfold typL dcl
  induction us with
  | nil => rfl
  | cons t r ih =>
    rw [List.flatMap_cons, ih, List.map_cons, List.flatMap_cons, List.map_append, List.flatMap_append]
    congr 1
    rw [List.map_cons, List.flatMap_cons, ← lineD_lnT]
    show _ = lineD false fm t.1.2.2 ++ _
    congr 1
    unfold memL vwT
    simp only
    induction t.2.2.1 with
    | nil => rfl
    | cons d ds ihd =>
      rw [List.flatMap_cons, ihd, List.map_cons, List.map_cons, List.map_cons, List.flatMap_cons, ← lineD_lnT]
def OkD (m : Bool) (x : DV) : Prop := (∀ c ∈ x.1, vch c = true) ∧ (∀ c ∈ x.2.1, vch c = true) ∧ x.1.length ≤ 20 ∧ x.2.1.length ≤ 20 ∧ x.2.2.1 < nKinds m ∧ x.2.2.2 < 2 ^ nMarks m ∧ (m = false → x.2.1 = [])
theorem split32 : ∀ {w w' s s' : List Nat}, 32 ∉ w → 32 ∉ w' → w ++ 32 :: s = w' ++ 32 :: s' → w = w' ∧ s = s'
  | [], [], s, s', _, _, h => ⟨rfl, by simpa using h⟩
  | [], y :: w', s, s', _, h2, h => by
    have : (32 : Nat) = y := by have := congrArg (fun l : List Nat => l.getD 0 0) h; exact this
    exact absurd (this ▸ List.mem_cons_self) h2
  | x :: w, [], s, s', h1, _, h => by
    have : x = (32 : Nat) := by have := congrArg (fun l : List Nat => l.getD 0 0) h; exact this
    exact absurd (this ▸ List.mem_cons_self) h1
  | x :: w, y :: w', s, s', h1, h2, h => by
    rw [List.cons_append, List.cons_append] at h
    injection h with e1 e2
    have := split32 (fun z => h1 (List.mem_cons_of_mem _ z)) (fun z => h2 (List.mem_cons_of_mem _ z)) e2
    exact ⟨by rw [e1, this.1], this.2⟩
theorem no32s : ∀ i, i < 15 → 32 ∉ strL i ∧ strL i ≠ [] := by decide
theorem mkS_lt (m : Bool) (i : Nat) : markS m i < 15 := by
  unfold markS
  cases m
  · match i with
    | 0 => decide
    | 1 => decide
    | 2 => decide
    | (n + 3) => simp
  · match i with
    | 0 => decide
    | 1 => decide
    | 2 => decide
    | 3 => decide
    | 4 => decide
    | (n + 5) => simp
theorem kdS_lt (m : Bool) (i : Nat) : kindS m i < 15 := by
  unfold kindS
  cases m
  · match i with
    | 0 => decide
    | 1 => decide
    | 2 => decide
    | 3 => decide
    | (n + 4) => simp
  · by_cases c : i = 1
    · subst c; decide
    · simp [c]
theorem mark_ne : ∀ (m : Bool) (i : Nat), i < nMarks m → (∀ j, j < nMarks m → i < j → strL (markS m i) ≠ strL (markS m j)) ∧ ∀ k, k < nKinds m → strL (markS m i) ≠ strL (kindS m k) := by
  intro m
  cases m
  · show ∀ i, i < 3 → (∀ j, j < 3 → _) ∧ ∀ k, k < 4 → _
    decide
  · show ∀ i, i < 5 → (∀ j, j < 5 → _) ∧ ∀ k, k < 2 → _
    decide
theorem kind_inj : ∀ (m : Bool) (k : Nat), k < nKinds m → ∀ k', k' < nKinds m → strL (kindS m k) = strL (kindS m k') → k = k' := by
  intro m
  cases m
  · show ∀ k, k < 4 → ∀ k', k' < 4 → _
    decide
  · show ∀ k, k < 2 → ∀ k', k' < 2 → _
    decide
/-- the first word behind the marks -/
theorem mkW_first (m : Bool) (mk k : Nat) (s : List Nat) (hk : k < nKinds m) : ∀ n, n ≤ nMarks m → ∃ w s', 32 ∉ w ∧ mkW m mk n ++ (strL (kindS m k) ++ 32 :: s) = w ++ 32 :: s' ∧ ((∃ k, k < nKinds m ∧ w = strL (kindS m k)) ∨ ∃ j, nMarks m - n ≤ j ∧ j < nMarks m ∧ w = strL (markS m j))
  | 0, _ => ⟨strL (kindS m k), s, (no32s _ (kdS_lt m k)).1, rfl, Or.inl ⟨k, hk, rfl⟩⟩
  | n + 1, hn => by
    unfold mkW
    by_cases c : mk / 2 ^ (nMarks m - (n + 1)) % 2 = 1
    · rw [if_pos c]
      exact ⟨strL (markS m (nMarks m - (n + 1))), mkW m mk n ++ (strL (kindS m k) ++ 32 :: s), (no32s _ (mkS_lt m _)).1, by simp, Or.inr ⟨_, Nat.le_refl _, by omega, rfl⟩⟩
    · rw [if_neg c, List.nil_append]
      obtain ⟨w, s', h1, h2, h3⟩ := mkW_first m mk k s hk n (by omega)
      refine ⟨w, s', h1, h2, ?_⟩
      rcases h3 with z | ⟨j, a, b, e⟩
      · exact Or.inl z
      · exact Or.inr ⟨j, by omega, b, e⟩
theorem mkW_inj (m : Bool) (mk mk' k k' : Nat) (s s' : List Nat) (hk : k < nKinds m) (hk' : k' < nKinds m) : ∀ n, n ≤ nMarks m → mkW m mk n ++ (strL (kindS m k) ++ 32 :: s) = mkW m mk' n ++ (strL (kindS m k') ++ 32 :: s') → (∀ i, nMarks m - n ≤ i → i < nMarks m → mk / 2 ^ i % 2 = mk' / 2 ^ i % 2) ∧ k = k' ∧ s = s'
  | 0, _, h => by
    have h : strL (kindS m k) ++ 32 :: s = strL (kindS m k') ++ 32 :: s' := h
    have := split32 (no32s _ (kdS_lt m k)).1 (no32s _ (kdS_lt m k')).1 h
    exact ⟨fun i h1 h2 => by omega, kind_inj m k hk k' hk' this.1, this.2⟩
  | n + 1, hn, h => by
    have bad : ∀ (mk k : Nat) (s t : List Nat), k < nKinds m → strL (markS m (nMarks m - (n + 1))) ++ 32 :: t = mkW m mk n ++ (strL (kindS m k) ++ 32 :: s) → False := by
      intro mk k s t hk e
      obtain ⟨w, s', h1, h2, h3⟩ := mkW_first m mk k s hk n (by omega)
      rw [h2] at e
      have e1 := (split32 (no32s _ (mkS_lt m _)).1 h1 e).1
      have ne := mark_ne m (nMarks m - (n + 1)) (by omega)
      rcases h3 with ⟨k2, a, b⟩ | ⟨j, a, b, c⟩
      · exact ne.2 k2 a (e1.trans b)
      · exact ne.1 j b (by omega) (e1.trans c)
    unfold mkW at h
    by_cases c : mk / 2 ^ (nMarks m - (n + 1)) % 2 = 1
    · by_cases c' : mk' / 2 ^ (nMarks m - (n + 1)) % 2 = 1
      · rw [if_pos c, if_pos c'] at h
        simp only [List.append_assoc, List.append_cancel_left_eq] at h
        have h := mkW_inj m mk mk' k k' s s' hk hk' n (by omega) (by simpa using h)
        refine ⟨fun i h1 h2 => ?_, h.2⟩
        by_cases e : i = nMarks m - (n + 1)
        · rw [e, c, c']
        · exact h.1 i (by omega) h2
      · rw [if_pos c, if_neg c', List.nil_append] at h
        exact absurd (show strL (markS m (nMarks m - (n + 1))) ++ 32 :: (mkW m mk n ++ (strL (kindS m k) ++ 32 :: s)) = _ by rw [← h]; simp) (fun e => bad mk' k' s' _ hk' e)
    · by_cases c' : mk' / 2 ^ (nMarks m - (n + 1)) % 2 = 1
      · rw [if_neg c, if_pos c', List.nil_append] at h
        exact absurd (show strL (markS m (nMarks m - (n + 1))) ++ 32 :: (mkW m mk' n ++ (strL (kindS m k') ++ 32 :: s')) = _ by rw [h]; simp) (fun e => bad mk k s _ hk e)
      · rw [if_neg c, if_neg c', List.nil_append, List.nil_append] at h
        have h := mkW_inj m mk mk' k k' s s' hk hk' n (by omega) h
        refine ⟨fun i h1 h2 => ?_, h.2⟩
        by_cases e : i = nMarks m - (n + 1)
        · rw [e]; omega
        · exact h.1 i (by omega) h2
theorem bits_eq {m : Bool} {a b : Nat} (ha : a < 2 ^ nMarks m) (hb : b < 2 ^ nMarks m) (h : ∀ i, i < nMarks m → a / 2 ^ i % 2 = b / 2 ^ i % 2) : a = b := by
  cases m
  · have h : ∀ i, i < 3 → a / 2 ^ i % 2 = b / 2 ^ i % 2 := h
    have ha : a < 8 := ha
    have hb : b < 8 := hb
    have h0 := h 0 (by omega)
    have h1 := h 1 (by omega)
    have h2 := h 2 (by omega)
    simp only [Nat.pow_zero, Nat.div_one, Nat.reducePow] at h0 h1 h2
    omega
  · have h : ∀ i, i < 5 → a / 2 ^ i % 2 = b / 2 ^ i % 2 := h
    have ha : a < 32 := ha
    have hb : b < 32 := hb
    have h0 := h 0 (by omega)
    have h1 := h 1 (by omega)
    have h2 := h 2 (by omega)
    have h3 := h 3 (by omega)
    have h4 := h 4 (by omega)
    simp only [Nat.pow_zero, Nat.div_one, Nat.reducePow] at h0 h1 h2 h3 h4
    omega
theorem esc_no32 {fm : Nat} {x : List Nat} (h : ∀ c ∈ x, vch c = true) : 32 ∉ escN fm x := by
  unfold escN
  intro hm
  obtain ⟨c, hc, e⟩ := List.mem_flatMap.mp hm
  have := vch_no (h c hc)
  unfold addN at e
  by_cases q : fm = 1 ∧ c = 36
  · rw [if_pos q] at e; revert e; decide
  · rw [if_neg q] at e; exact this.2.1 (List.mem_singleton.mp e).symm
theorem esc_inj {fm : Nat} : ∀ {x y : List Nat}, (∀ c ∈ x, vch c = true) → (∀ c ∈ y, vch c = true) → escN fm x = escN fm y → x = y
  | [], [], _, _, _ => rfl
  | [], d :: y, _, _, h => by
    have h : ([] : List Nat) = addN fm d ++ escN fm y := h
    unfold addN at h
    by_cases q : fm = 1 ∧ d = 36
    · rw [if_pos q] at h; cases h
    · rw [if_neg q] at h; cases h
  | c :: x, [], _, _, h => by
    have h : addN fm c ++ escN fm x = ([] : List Nat) := h
    unfold addN at h
    by_cases q : fm = 1 ∧ c = 36
    · rw [if_pos q] at h; cases h
    · rw [if_neg q] at h; cases h
  | c :: x, d :: y, h1, h2, h => by
    have h : addN fm c ++ escN fm x = addN fm d ++ escN fm y := h
    have a1 := vch_no (h1 c List.mem_cons_self)
    have a2 := vch_no (h2 d List.mem_cons_self)
    unfold addN at h
    have ih := esc_inj (fm := fm) (x := x) (y := y) (fun z hz => h1 z (List.mem_cons_of_mem _ hz)) (fun z hz => h2 z (List.mem_cons_of_mem _ hz))
    by_cases q : fm = 1 ∧ c = 36
    · by_cases q2 : fm = 1 ∧ d = 36
      · rw [if_pos q, if_pos q2] at h
        simp only [List.cons_append, List.nil_append, List.cons.injEq, true_and] at h
        rw [q.2, q2.2, ih h]
      · rw [if_pos q, if_neg q2] at h
        simp only [List.cons_append, List.nil_append, List.cons.injEq] at h
        exact absurd h.1.symm a2.2.2
    · by_cases q2 : fm = 1 ∧ d = 36
      · rw [if_neg q, if_pos q2] at h
        simp only [List.cons_append, List.nil_append, List.cons.injEq] at h
        exact absurd h.1 a1.2.2
      · rw [if_neg q, if_neg q2] at h
        simp only [List.cons_append, List.nil_append, List.cons.injEq] at h
        rw [h.1, ih h.2]
theorem lnT_inj {fm : Nat} {x y : Bool × DV} (hx : OkD x.1 x.2) (hy : OkD y.1 y.2) (h : lnT fm x = lnT fm y) : x = y := by
  obtain ⟨m, x⟩ := x
  obtain ⟨m', y⟩ := y
  have fst : ∀ (m : Bool) (x : DV), OkD m x → ∃ w s, 32 ∉ w ∧ w ≠ [] ∧ mkW m x.2.2.2 (nMarks m) ++ (strL (kindS m x.2.2.1) ++ (32 :: (escN fm x.1 ++ (if m then 32 :: escN fm x.2.1 else [])))) = w ++ 32 :: s := by
    intro m x hx
    obtain ⟨w, s, h1, h2, h3⟩ := mkW_first m x.2.2.2 x.2.2.1 (escN fm x.1 ++ (if m then 32 :: escN fm x.2.1 else [])) hx.2.2.2.2.1 (nMarks m) (Nat.le_refl _)
    refine ⟨w, s, h1, ?_, h2⟩
    rcases h3 with ⟨k, _, e⟩ | ⟨j, _, _, e⟩
    · rw [e]; exact (no32s _ (kdS_lt m k)).2
    · rw [e]; exact (no32s _ (mkS_lt m j)).2
  have hm : m = m' := by
    unfold lnT at h
    obtain ⟨w, s, a1, a2, a3⟩ := fst m x hx
    obtain ⟨w', s', b1, b2, b3⟩ := fst m' y hy
    simp only at h
    rw [a3, b3] at h
    cases m <;> cases m'
    · rfl
    · exfalso
      have h : [] ++ (w ++ 32 :: s) = [32, 32] ++ (w' ++ 32 :: s') := h
      rw [List.nil_append] at h
      cases w with
      | nil => exact a2 rfl
      | cons c w =>
        simp only [List.cons_append, List.cons.injEq] at h
        exact a1 (h.1 ▸ List.mem_cons_self)
    · exfalso
      have h : [32, 32] ++ (w ++ 32 :: s) = [] ++ (w' ++ 32 :: s') := h
      rw [List.nil_append] at h
      cases w' with
      | nil => exact b2 rfl
      | cons c w =>
        simp only [List.cons_append, List.cons.injEq] at h
        exact b1 (h.1 ▸ List.mem_cons_self)
    · rfl
  subst hm
  unfold lnT at h
  simp only at h
  rw [List.append_cancel_left_eq] at h
  have h := mkW_inj m x.2.2.2 y.2.2.2 x.2.2.1 y.2.2.1 _ _ hx.2.2.2.2.1 hy.2.2.2.2.1 (nMarks m) (Nat.le_refl _) h
  have e4 := bits_eq hx.2.2.2.2.2.1 hy.2.2.2.2.2.1 (fun i hi => h.1 i (by omega) hi)
  have e3 := h.2.1
  have h5 := h.2.2
  obtain ⟨x1, x2, x3, x4⟩ := x
  obtain ⟨y1, y2, y3, y4⟩ := y
  cases m with
  | true =>
    rw [if_pos rfl, if_pos rfl] at h5
    have h6 := split32 (esc_no32 hx.1) (esc_no32 hy.1) h5
    have e1 := esc_inj hx.1 hy.1 h6.1
    have e2 := esc_inj hx.2.1 hy.2.1 h6.2
    simp only at e1 e2 e3 e4
    rw [e1, e2, e3, e4]
  | false =>
    rw [if_neg (by decide), if_neg (by decide), List.append_nil, List.append_nil] at h5
    have e1 := esc_inj hx.1 hy.1 h5
    have e2 := hx.2.2.2.2.2.2 rfl
    have e2' := hy.2.2.2.2.2.2 rfl
    simp only at e1 e2 e2' e3 e4
    rw [e1, e2, e2', e3, e4]
/-- the first difference of two lists, counted from n; 0: none -/
def fdL {α : Type} [DecidableEq α] : Nat → List α → List α → Nat
  | _, [], [] => 0
  | n, x :: r, y :: s => if x = y then fdL (n + 1) r s else n
  | n, _, _ => n
theorem fdL_symm {α : Type} [DecidableEq α] : ∀ (n : Nat) (A B : List α), fdL n A B = fdL n B A
  | _, [], [] => rfl
  | n, [], y :: s => rfl
  | n, x :: r, [] => rfl
  | n, x :: r, y :: s => by
    unfold fdL
    by_cases c : x = y
    · rw [if_pos c, if_pos c.symm]; exact fdL_symm (n + 1) r s
    · rw [if_neg c, if_neg (fun z => c z.symm)]
theorem fdL_map {α β : Type} [DecidableEq α] [DecidableEq β] (f : α → β) (P : α → Prop) (hf : ∀ x y, P x → P y → f x = f y → x = y) : ∀ (n : Nat) (A B : List α), (∀ x ∈ A, P x) → (∀ x ∈ B, P x) → fdL n (A.map f) (B.map f) = fdL n A B
  | _, [], [], _, _ => rfl
  | n, [], y :: s, _, _ => rfl
  | n, x :: r, [], _, _ => rfl
  | n, x :: r, y :: s, h1, h2 => by
    rw [List.map_cons, List.map_cons]
    unfold fdL
    by_cases c : x = y
    · rw [if_pos c, if_pos (by rw [c])]; exact fdL_map f P hf (n + 1) r s (fun z hz => h1 z (List.mem_cons_of_mem _ hz)) (fun z hz => h2 z (List.mem_cons_of_mem _ hz))
    · rw [if_neg c, if_neg (fun z => c (hf x y (h1 x List.mem_cons_self) (h2 y List.mem_cons_self) z))]
theorem sameD_eq {x y : DV} : sameD x y = true ↔ x = y := by
  unfold sameD
  rw [decide_eq_true_eq, cmpD_zero]
  obtain ⟨x1, x2, x3, x4⟩ := x
  obtain ⟨y1, y2, y3, y4⟩ := y
  simp only [Prod.mk.injEq]
  constructor
  · rintro ⟨a, b, c, d⟩; exact ⟨b, d, c, a⟩
  · rintro ⟨a, b, c, d⟩; exact ⟨d, a, c, b⟩
def mems (ms : List EL) : List (Bool × DV) := ms.map (fun d => (true, d.2.2))
theorem fd_mem (n : Nat) (R S : List (Bool × DV)) (hR : ∀ x, R.head? = some x → x.1 = false) (hS : ∀ x, S.head? = some x → x.1 = false) : ∀ (xs ys : List EL), fdL n (mems xs ++ R) (mems ys ++ S) = if smM xs ys < max xs.length ys.length then n + smM xs ys else fdL (n + smM xs ys) R S
  | [], [] => by simp [smM, mems]
  | [], y :: ys => by
    have e : smM [] (y :: ys) = 0 := by unfold smM; rfl
    rw [e, if_pos (by rw [List.length_cons]; omega), Nat.add_zero]
    show fdL n R ((true, y.2.2) :: (mems ys ++ S)) = n
    cases R with
    | nil => rfl
    | cons z R =>
      unfold fdL
      rw [if_neg (fun q => by have := hR z rfl; rw [q] at this; cases this)]
  | x :: xs, [] => by
    have e : smM (x :: xs) [] = 0 := by unfold smM; rfl
    rw [e, if_pos (by rw [List.length_cons]; omega), Nat.add_zero]
    show fdL n ((true, x.2.2) :: (mems xs ++ R)) S = n
    cases S with
    | nil => rfl
    | cons z S =>
      unfold fdL
      rw [if_neg (fun q => by have := hS z rfl; rw [← q] at this; cases this)]
  | x :: xs, y :: ys => by
    show (if ((true, x.2.2) : Bool × DV) = (true, y.2.2) then fdL (n + 1) (mems xs ++ R) (mems ys ++ S) else n) = _
    unfold smM
    by_cases c : sameD x.2.2 y.2.2 = true
    · rw [if_pos c, if_pos (by rw [sameD_eq.mp c]), fd_mem (n + 1) R S hR hS xs ys, List.length_cons, List.length_cons]
      by_cases c2 : smM xs ys < max xs.length ys.length
      · rw [if_pos c2, if_pos (by omega)]; omega
      · rw [if_neg c2, if_neg (by omega), show n + 1 + smM xs ys = n + (smM xs ys + 1) by omega]
    · rw [if_neg c, if_neg (fun q => c (sameD_eq.mpr (by injection q))), if_pos (by rw [List.length_cons, List.length_cons]; omega), Nat.add_zero]
theorem dcl_cons (t : TV) (r : List TV) : dcl ((t :: r).map vwT) = (false, t.1.2.2) :: (mems t.2.2.1 ++ dcl (r.map vwT)) := by
  unfold dcl
  rw [List.map_cons, List.flatMap_cons, List.cons_append]
  congr 2
  unfold vwT mems
  rw [List.map_map]
  rfl
theorem dcl_head (us : List TV) : ∀ x, (dcl (us.map vwT)).head? = some x → x.1 = false := by
  intro x h
  cases us with
  | nil => cases h
  | cons t r => rw [dcl_cons] at h; cases h; rfl
theorem fdT_fdL : ∀ (n : Nat) (us vs : List TV), fdT n us vs = fdL n (dcl (us.map vwT)) (dcl (vs.map vwT))
  | n, [], [] => by unfold fdT; rfl
  | n, [], v :: vs => by rw [dcl_cons]; unfold fdT; rfl
  | n, t :: us, [] => by rw [dcl_cons]; unfold fdT; rfl
  | n, t :: us, v :: vs => by
    rw [dcl_cons, dcl_cons]
    show _ = (if ((false, t.1.2.2) : Bool × DV) = (false, v.1.2.2) then fdL (n + 1) (mems t.2.2.1 ++ dcl (us.map vwT)) (mems v.2.2.1 ++ dcl (vs.map vwT)) else n)
    unfold fdT
    by_cases c : sameD t.1.2.2 v.1.2.2 = true
    · rw [if_pos c, if_pos (show ((false, t.1.2.2) : Bool × DV) = (false, v.1.2.2) by rw [sameD_eq.mp c]), fd_mem (n + 1) _ _ (dcl_head us) (dcl_head vs), ← fdT_fdL _ us vs, ← Nat.add_assoc]
    · rw [if_neg c, if_neg (fun q => c (sameD_eq.mpr (by injection q)))]
/-- what both baselines hold is fine -/
def UOk (C : List TU) : Prop := ∀ c ∈ C, OkD false c.1 ∧ ∀ d ∈ c.2, OkD true d
theorem dcl_ok {C : List TU} (h : UOk C) : ∀ x ∈ dcl C, OkD x.1 x.2 := by
  intro x hx
  obtain ⟨c, hc, e⟩ := List.mem_flatMap.mp hx
  rcases List.mem_cons.mp e with e | e
  · rw [e]; exact (h c hc).1
  · obtain ⟨d, hd, e⟩ := List.mem_map.mp e
    rw [← e]; exact (h c hc).2 d hd
theorem differ_eq {fm fn : Nat} {us vs : List TV} (h1 : UOk (us.map vwT)) (h2 : UOk (vs.map vwT)) : fdL 1 (lns fm (us.map vwT)) (lns fn (vs.map vwT)) = if fm = fn then fdT 2 us vs else 1 := by
  unfold lns
  show (if strL 15 ++ [48 + fm] = strL 15 ++ [48 + fn] then fdL 2 _ _ else 1) = _
  by_cases c : fm = fn
  · subst c
    rw [if_pos rfl, if_pos rfl, fdL_map (lnT fm) (fun x => OkD x.1 x.2) (fun x y a b e => lnT_inj a b e) _ _ _ (dcl_ok h1) (dcl_ok h2), fdT_fdL]
  · rw [if_neg c, if_neg (fun e => by rw [List.append_cancel_left_eq] at e; simp at e; exact c e)]
theorem mkW_len (m : Bool) (mk : Nat) : ∀ n, (mkW m mk n).length ≤ 10 * n
  | 0 => Nat.le_refl _
  | n + 1 => by
    unfold mkW
    have := mkW_len m mk n
    have h9 : ∀ i, i < 15 → (strL i).length ≤ 9 := by decide
    have := h9 _ (mkS_lt m (nMarks m - (n + 1)))
    rw [List.length_append]
    by_cases c : mk / 2 ^ (nMarks m - (n + 1)) % 2 = 1
    · rw [if_pos c, List.length_append, List.length_singleton]; omega
    · rw [if_neg c, List.length_nil]; omega
theorem esc_len {fm : Nat} : ∀ (x : List Nat), (escN fm x).length ≤ 2 * x.length
  | [] => Nat.le_refl _
  | c :: x => by
    have := esc_len (fm := fm) x
    show (addN fm c ++ escN fm x).length ≤ _
    rw [List.length_append, List.length_cons]
    unfold addN
    by_cases q : fm = 1 ∧ c = 36
    · rw [if_pos q]; simp only [List.length_cons, List.length_nil]; omega
    · rw [if_neg q]; simp only [List.length_cons, List.length_nil]; omega
theorem lnT_len {fm : Nat} {x : Bool × DV} (h : OkD x.1 x.2) : (lnT fm x).length ≤ 150 := by
  obtain ⟨m, x⟩ := x
  have h9 : ∀ i, i < 15 → (strL i).length ≤ 9 := by decide
  have a1 := mkW_len m x.2.2.2 (nMarks m)
  have a2 := h9 _ (kdS_lt m x.2.2.1)
  have a3 := esc_len (fm := fm) x.1
  have a4 := esc_len (fm := fm) x.2.1
  have a5 : x.1.length ≤ 20 := h.2.2.1
  have a6 : x.2.1.length ≤ 20 := h.2.2.2.1
  have a7 : nMarks m ≤ 5 := by cases m <;> decide
  unfold lnT
  cases m
  · simp only [List.length_append, List.length_cons]
    simp only [if_pos, Bool.false_eq_true, if_false, List.length_nil, List.length_cons]
    omega
  · simp only [List.length_append, List.length_cons]
    simp only [if_pos, Bool.false_eq_true, if_false, List.length_nil, List.length_cons]
    omega
/-- LOST, over what was read -/
def alk2 (sf : Bool) (x y : DV) : Bool := sameD x y && (sf || freeD x)
def lsI (x : List Nat) (U : List TU) : Nat → Option Nat
  | 0 => none
  | n + 1 => if cmpL x (U.getD n default).1.1 = 0 then some n else lsI x U n
def lsM (sf : Bool) (ys : List DV) : List DV → Nat
  | [] => 0
  | x :: xs => (if ys.any (alk2 sf x) then 0 else 1) + lsM sf ys xs
def lsU (sf : Bool) (U2 : List TU) (u : TU) : Nat := match lsI u.1.1 U2 U2.length with
  | none => 1 + u.2.length
  | some k => (if alk2 sf u.1 (U2.getD k default).1 then 0 else 1) + lsM sf (srtM (U2.getD k default).2) (srtM u.2)
theorem lsI_some {x : List Nat} {U : List TU} : ∀ {n k : Nat}, lsI x U n = some k → k < n ∧ cmpL x (U.getD k default).1.1 = 0
  | 0, k, h => by cases h
  | n + 1, k, h => by
    unfold lsI at h
    by_cases c : cmpL x (U.getD n default).1.1 = 0
    · rw [if_pos c] at h; cases h; exact ⟨by omega, c⟩
    · rw [if_neg c] at h; have := lsI_some h; exact ⟨by omega, this.2⟩
theorem lsI_none {x : List Nat} {U : List TU} : ∀ {n : Nat}, lsI x U n = none → ∀ k, k < n → cmpL x (U.getD k default).1.1 ≠ 0
  | 0, _, k, hk => by omega
  | n + 1, h, k, hk => by
    unfold lsI at h
    by_cases c : cmpL x (U.getD n default).1.1 = 0
    · rw [if_pos c] at h; cases h
    · rw [if_neg c] at h
      by_cases e : k = n
      · rw [e]; exact c
      · exact lsI_none h k (by omega)
theorem pw_mem {α : Type} {R : α → α → Prop} (sy : ∀ a b, R a b → R b a) : ∀ {l : List α}, l.Pairwise R → ∀ a ∈ l, ∀ b ∈ l, a ≠ b → R a b
  | [], _, a, ha, _, _, _ => by cases ha
  | x :: l, h, a, ha, b, hb, hne => by
    rw [List.pairwise_cons] at h
    rcases List.mem_cons.mp ha with e | e
    · rcases List.mem_cons.mp hb with e2 | e2
      · exact absurd (e.trans e2.symm) hne
      · rw [e]; exact h.1 b e2
    · rcases List.mem_cons.mp hb with e2 | e2
      · rw [e2]; exact sy _ _ (h.1 a e)
      · exact pw_mem sy h.2 a e b e2 hne
theorem symN (a b : TU) (h : cmpL a.1.1 b.1.1 ≠ 0) : cmpL b.1.1 a.1.1 ≠ 0 := by rw [cmpL_swap]; omega
theorem symM (a b : DV) (h : cmpD a b ≠ 0) : cmpD b a ≠ 0 := by rw [cmpD_swap]; omega
def lmF (sf : Bool) (os : List TV) (t : TV) : Nat := (if slE sf t.1.2.2 ((nmd t.1.2.2.1 os).map (·.1.2.2)) then 0 else 1) + (match nmd t.1.2.2.1 os with | none => t.2.2.1.length | some u => mmL sf u.2.2.1 t.2.2.1)
theorem lmT_sum (sf : Bool) (os : List TV) : ∀ us, lmT sf os us = (us.map (lmF sf os)).sum
  | [] => rfl
  | t :: r => by
    unfold lmT
    rw [List.map_cons, List.sum_cons, lmT_sum sf os r]
    rfl
theorem mmL_lsM {sf : Bool} {oms : List EL} (hs : (oms.map (·.2.2)).Pairwise (fun a b => cmpD a b < 0)) : ∀ ms : List EL, mmL sf oms ms = lsM sf (oms.map (·.2.2)) (ms.map (·.2.2))
  | [] => rfl
  | d :: r => by
    unfold mmL
    rw [List.map_cons, mmL_lsM hs r]
    show _ = (if (oms.map (·.2.2)).any (alk2 sf d.2.2) then 0 else 1) + _
    have e : slE sf d.2.2 ((alk d.2.2 oms).map (·.2.2)) = (oms.map (·.2.2)).any (alk2 sf d.2.2) := by
      have any_iff : (oms.map (·.2.2)).any (alk2 sf d.2.2) = true ↔ d.2.2 ∈ oms.map (·.2.2) ∧ (sf || freeD d.2.2) = true := by
        rw [List.any_eq_true]
        constructor
        · rintro ⟨y, hy, h⟩
          unfold alk2 at h
          rw [Bool.and_eq_true] at h
          have e9 : d.2.2 = y := sameD_eq.mp h.1
          rw [← e9] at hy
          exact ⟨hy, h.2⟩
        · rintro ⟨h1, h2⟩
          exact ⟨_, h1, by unfold alk2; rw [h2, sameD_eq.mpr rfl]; rfl⟩
      cases ha : alk d.2.2 oms with
      | none =>
        have := alk_none.mp ha
        show false = _
        cases hq : (oms.map (·.2.2)).any (alk2 sf d.2.2) with
        | false => rfl
        | true => exact absurd ⟨_, (any_iff.mp hq).1, cmpD_zero.mpr ⟨rfl, rfl, rfl⟩⟩ this
      | some e =>
        show (sameD d.2.2 e.2.2 && (sf || freeD d.2.2)) = _
        have hm : e.2.2 ∈ oms.map (·.2.2) := List.mem_map.mpr ⟨e, alk_mem ha, rfl⟩
        have h0 : cmpD e.2.2 d.2.2 = 0 := by
          have : ∀ {ds : List EL} {e : EL}, alk d.2.2 ds = some e → cmpD e.2.2 d.2.2 = 0 := by
            intro ds
            induction ds with
            | nil => intro e h; cases h
            | cons x ds ih =>
              intro e h
              unfold alk at h
              by_cases c : cmpD x.2.2 d.2.2 = 0
              · rw [if_pos c] at h; cases h; exact c
              · rw [if_neg c] at h; exact ih h
          exact this ha
        have uq : d.2.2 ∈ oms.map (·.2.2) → d.2.2 = e.2.2 := fun hd => by
          by_cases q : d.2.2 = e.2.2
          · exact q
          · exfalso
            have hp : (oms.map (·.2.2)).Pairwise (fun a b => cmpD a b ≠ 0) := hs.imp (fun {a b} z => by omega)
            have := pw_mem symM hp _ hm _ hd
            exact this (fun z => q z.symm) h0
        cases hq : (oms.map (·.2.2)).any (alk2 sf d.2.2) with
        | true =>
          have := any_iff.mp hq
          rw [this.2, sameD_eq.mpr (uq this.1)]; rfl
        | false =>
          cases hz : (sameD d.2.2 e.2.2 && (sf || freeD d.2.2)) with
          | false => rfl
          | true =>
            rw [Bool.and_eq_true] at hz
            have := any_iff.mpr ⟨by rw [sameD_eq.mp hz.1]; exact hm, hz.2⟩
            rw [hq] at this; cases this
    rw [e]
theorem lost_eq {sf : Bool} {us os : List TV} {U U2 : List TU} (h : RelT us U) (h2 : RelT os U2) (hd2 : U2.Pairwise (fun a b => cmpL a.1.1 b.1.1 ≠ 0)) (hm2 : ∀ u ∈ U2, u.2.Pairwise (fun a b => cmpD a b ≠ 0)) : lmT sf os us = (U.map (lsU sf U2)).sum := by
  rw [lmT_sum]
  have pt : ∀ t ∈ us, ∀ u, vwT t = srU u → lmF sf os t = lsU sf U2 u := by
    intro t _ u e
    have e1 : t.1.2.2 = u.1 := congrArg Prod.fst e
    have e2 : t.2.2.1.map (·.2.2) = srtM u.2 := congrArg Prod.snd e
    have e3 : t.2.2.1.length = u.2.length := by rw [← (srtM_perm u.2).length_eq, ← e2, List.length_map]
    unfold lmF lsU
    rw [e1]
    cases hl : lsI u.1.1 U2 U2.length with
    | none =>
      have hn : nmd u.1.1 os = none := by
        rw [nmd_none, h2.name]
        rintro ⟨v, hv, z⟩
        obtain ⟨k, hk, ek⟩ := List.getElem_of_mem hv
        refine lsI_none hl k hk ?_
        rw [List.getD_eq_getElem?_getD, List.getElem?_eq_getElem hk, Option.getD_some, ek, cmpL_swap]; omega
      rw [hn]
      show 1 + t.2.2.1.length = 1 + u.2.length
      rw [e3]
    | some k =>
      obtain ⟨hk, hz⟩ := lsI_some hl
      have hv : U2.getD k default ∈ U2 := by rw [List.getD_eq_getElem?_getD, List.getElem?_eq_getElem hk, Option.getD_some]; exact List.getElem_mem hk
      generalize hvv : U2.getD k default = v at hv hz
      cases hn : nmd u.1.1 os with
      | none =>
        exact absurd (h2.name.mpr ⟨v, hv, by rw [cmpL_swap]; omega⟩) (nmd_none.mp hn)
      | some w =>
        have hw : w ∈ os := nmd_mem hn
        have hwn : cmpL w.1.2.2.1 u.1.1 = 0 := by
          have : ∀ {ds : List TV} {e : TV}, nmd u.1.1 ds = some e → cmpL e.1.2.2.1 u.1.1 = 0 := by
            intro ds
            induction ds with
            | nil => intro e h; cases h
            | cons x ds ih =>
              intro e h
              unfold nmd at h
              by_cases c : cmpL x.1.2.2.1 u.1.1 = 0
              · rw [if_pos c] at h; cases h; exact c
              · rw [if_neg c] at h; exact ih h
          exact this hn
        have hs : vwT w = srU v := by
          have hm : vwT w ∈ U2.map srU := h2.1.mem_iff.mp (List.mem_map.mpr ⟨w, hw, rfl⟩)
          obtain ⟨v2, hv2, ev2⟩ := List.mem_map.mp hm
          have en : w.1.2.2 = v2.1 := (congrArg Prod.fst ev2).symm
          have : v2 = v := by
            by_cases q : v2 = v
            · exact q
            · exfalso
              have := pw_mem symN hd2 _ hv2 _ hv q
              refine this (cmpL_zero.mpr ?_)
              rw [en] at hwn
              rw [cmpL_zero.mp hwn, cmpL_zero.mp hz]
          rw [← ev2, this]
        have s1 : w.1.2.2 = v.1 := congrArg Prod.fst hs
        have s2 : w.2.2.1.map (·.2.2) = srtM v.2 := congrArg Prod.snd hs
        show (if slE sf u.1 (some w.1.2.2) = true then 0 else 1) + mmL sf w.2.2.1 t.2.2.1 = (if alk2 sf u.1 (U2.getD k default).1 = true then 0 else 1) + lsM sf (srtM (U2.getD k default).2) (srtM u.2)
        rw [hvv]
        rw [s1, mmL_lsM (by rw [s2]; exact srtM_srt (hm2 v hv)), s2, e2]
        rfl
  have hp := (h.1.map (fun c : TU => (c : TU)))
  have : ∀ (ts : List TV) (V : List TU), (∀ t ∈ ts, t ∈ us) → ts.map vwT = V.map srU → (ts.map (lmF sf os)).sum = (V.map (lsU sf U2)).sum := by
    intro ts
    induction ts with
    | nil => intro V _ e; cases V with
      | nil => rfl
      | cons v V => cases e
    | cons t ts ih =>
      intro V hsub e
      cases V with
      | nil => cases e
      | cons v V =>
        rw [List.map_cons, List.map_cons] at e
        injection e with a b
        rw [List.map_cons, List.map_cons, List.sum_cons, List.sum_cons, pt t (hsub t List.mem_cons_self) v a, ih V (fun z hz => hsub z (List.mem_cons_of_mem _ hz)) b]
  obtain ⟨V, hV1, hV2⟩ : ∃ V : List TU, V.Perm U ∧ us.map vwT = V.map srU := by
    have hh : (us.map vwT).Perm (U.map srU) := h.1
    have key : ∀ (A : List TU) (B : List TU), A.Perm (B.map srU) → ∃ V : List TU, V.Perm B ∧ A = V.map srU := by
      intro A
      induction A with
      | nil => intro B hB; have := hB.length_eq; rw [List.length_map] at this; cases B with
        | nil => exact ⟨[], List.Perm.refl _, rfl⟩
        | cons b B => simp at this
      | cons a A ih =>
        intro B hB
        have hm : a ∈ B.map srU := hB.mem_iff.mp List.mem_cons_self
        obtain ⟨b, hb, eb⟩ := List.mem_map.mp hm
        obtain ⟨B1, B2, eB⟩ := List.append_of_mem hb
        subst eB
        have h3 : A.Perm ((B1 ++ B2).map srU) := by
          have := hB.trans ((List.perm_middle (a := b) (l₁ := B1) (l₂ := B2)).map srU)
          rw [List.map_cons, eb] at this
          exact (List.perm_cons _).mp this
        obtain ⟨V, hV, eV⟩ := ih (B1 ++ B2) h3
        exact ⟨b :: V, (hV.cons b).trans (List.perm_middle).symm, by rw [List.map_cons, eb, eV]⟩
    exact key _ U hh
  rw [this us V (fun t ht => ht) hV2]
  exact (hV1.map (lsU sf U2)).sum_nat
/-! LINES; what is read is fine -/
def nlE : List Nat → Nat → Nat
  | [], i => i
  | x :: r, i => if x = 10 then i else nlE r (i + 1)
def nxl (txt : List Nat) (i : Nat) : Nat := nlE (txt.drop i) i
theorem nlE_le : ∀ (r : List Nat) (i : Nat), i ≤ nlE r i ∧ nlE r i ≤ i + r.length
  | [], i => ⟨Nat.le_refl _, Nat.le_refl _⟩
  | x :: r, i => by
    unfold nlE
    by_cases c : x = 10
    · rw [if_pos c, List.length_cons]; omega
    · rw [if_neg c, List.length_cons]; have := nlE_le r (i + 1); omega
theorem nxl_le {txt : List Nat} {i : Nat} (h : i ≤ txt.length) : i ≤ nxl txt i ∧ nxl txt i ≤ txt.length := by
  have := nlE_le (txt.drop i) i
  rw [List.length_drop] at this
  unfold nxl; omega
theorem nxl_step {txt : List Nat} {i : Nat} (h : i < txt.length) : nxl txt i = if txt.getD i 0 = 10 then i else nxl txt (i + 1) := by
  unfold nxl
  rw [drop_cons h]; rfl
theorem nxl_end {txt : List Nat} {i : Nat} (h : txt.length ≤ i) : nxl txt i = i := by
  unfold nxl
  rw [List.drop_eq_nil_of_le h]; rfl
theorem nxl_at {txt : List Nat} : ∀ (n i : Nat), txt.length - i = n → i ≤ txt.length → nxl txt i = txt.length ∨ (nxl txt i < txt.length ∧ txt.getD (nxl txt i) 0 = 10)
  | 0, i, h, hi => by rw [nxl_end (by omega)]; left; omega
  | n + 1, i, h, hi => by
    rw [nxl_step (by omega)]
    by_cases c : txt.getD i 0 = 10
    · rw [if_pos c]; right; exact ⟨by omega, c⟩
    · rw [if_neg c]; exact nxl_at n (i + 1) (by omega) (by omega)
theorem rdLp_line {txt : List Nat} {st num : Nat} {s : RSt} : ∀ (n i : Nat), txt.length - i = n → i ≤ txt.length → rdLp txt (txt.length + 1 - i) i st num s = rdLp txt (txt.length - nxl txt i) (nxl txt i + 1) (nxl txt i + 1) (num + 1) (rdLn txt (num + 1) st (nxl txt i) s)
  | 0, i, h, hi => by
    have e : i = txt.length := by omega
    rw [nxl_end (by omega), e, show txt.length + 1 - txt.length = 0 + 1 by omega, Nat.sub_self]
    unfold rdLp
    rw [if_pos (Or.inl rfl)]
    rfl
  | n + 1, i, h, hi => by
    rw [show txt.length + 1 - i = (txt.length - i) + 1 by omega, nxl_step (by omega)]
    by_cases c : txt.getD i 0 = 10
    · rw [if_pos c]
      show (if i = txt.length ∨ txt.getD i 0 = 10 then _ else _) = _
      rw [if_pos (Or.inr c)]
    · rw [if_neg c]
      show (if i = txt.length ∨ txt.getD i 0 = 10 then _ else rdLp txt (txt.length - i) (i + 1) st num s) = _
      rw [if_neg (fun z => by rcases z with z | z; omega; exact c z), show txt.length - i = txt.length + 1 - (i + 1) by omega]
      exact rdLp_line n (i + 1) (by omega) (by omega)
theorem wdS_end {L : List Nat} {i : Nat} (h : L.length ≤ i) : wdS L i = i := by unfold wdS; rw [List.drop_eq_nil_of_le h]; rfl
theorem wdE_end {L : List Nat} {i : Nat} (h : L.length ≤ i) : wdE L i = i := by unfold wdE; rw [List.drop_eq_nil_of_le h]; rfl
theorem rdLn_empty {txt : List Nat} {num : Nat} {s : RSt} : rdLn txt num txt.length txt.length s = s := by
  have e : trimE txt txt.length txt.length = txt.length := by
    have := trimE_le txt txt.length txt.length
    have := this.2 (Nat.le_refl _)
    omega
  unfold rdLn rdL1
  rw [e, wdS_end (by rw [List.length_take]; omega), wdE_end (by rw [List.length_take]; omega), if_pos (Or.inl (Nat.le_refl _))]
theorem rdLp_end {txt : List Nat} {num fr : Nat} {s : RSt} (h1 : txt.length ≤ fr) (h2 : fr ≤ txt.length + 1) : rdLp txt (txt.length + 1 - fr) fr fr num s = s := by
  by_cases c : fr = txt.length
  · rw [c, show txt.length + 1 - txt.length = 0 + 1 by omega]
    show (if txt.length = txt.length ∨ _ then rdLp txt 0 (txt.length + 1) (txt.length + 1) (num + 1) (rdLn txt (num + 1) txt.length txt.length s) else _) = s
    rw [if_pos (Or.inl rfl), rdLn_empty]; rfl
  · rw [show txt.length + 1 - fr = 0 by omega]; rfl
theorem mkHf_pow (mem : Bool) (x : List Nat) : ∀ n, n ≤ nMarks mem → mkHf mem x n < 2 ^ nMarks mem
  | 0, _ => Nat.pow_pos (by decide)
  | n + 1, h => by
    unfold mkHf
    by_cases c : x = strL (markS mem (nMarks mem - (n + 1)))
    · rw [if_pos c]; exact Nat.pow_lt_pow_right (by decide) (by omega)
    · rw [if_neg c]; exact mkHf_pow mem x n (by omega)
theorem rmk_pow {mem : Bool} {txt : List Nat} {en : Nat} : ∀ (n mq ws we : Nat), mq < 2 ^ nMarks mem → (rmk mem txt en n mq ws we).2.1 < 2 ^ nMarks mem
  | 0, mq, ws, we, h => h
  | n + 1, mq, ws, we, h => by
    unfold rmk
    by_cases c1 : mkH mem (wdO txt ws we) = 0
    · rw [if_pos c1]; exact h
    · rw [if_neg c1]
      by_cases c2 : mq &&& mkH mem (wdO txt ws we) ≠ 0
      · rw [if_pos c2]; exact h
      · rw [if_neg c2]; exact rmk_pow n _ _ _ (Nat.or_lt_two_pow h (mkHf_pow mem _ _ (Nat.le_refl _)))
theorem cnR_len (fm : Nat) (txt : List Nat) (ws we : Nat) : (cnR fm txt ws we).1.length ≤ 20 := by
  unfold cnR
  have : ∀ (ys : List Nat) (r : List Nat × Bool), r.1.length ≤ 20 → (ys.foldl (addR 20) r).1.length ≤ 20 := by
    intro ys
    induction ys with
    | nil => intro r h; exact h
    | cons y ys ih => intro r h; exact ih _ (addR_len h)
  exact this _ _ (Nat.zero_le _)
theorem okN_vch {mem : Bool} {k : Nat} {r : List Nat × Bool} (h : okN mem k r = true) : ∀ c ∈ r.1, vch c = true := by
  unfold okN at h
  rw [Bool.or_eq_true, Bool.and_eq_true, Bool.and_eq_true, decide_eq_true_eq] at h
  rcases h with e | e
  · exact isNm_vch e.1
  · rw [e.2]; decide
theorem okD_vch {k : Nat} {r : List Nat × Bool} (h : okD k r = true) : ∀ c ∈ r.1, vch c = true := by
  unfold okD at h
  rw [Bool.and_eq_true] at h
  by_cases c : k = 1
  · rw [if_pos c] at h; exact isMD_vch h.2
  · rw [if_neg c] at h; exact isFD_vch h.2
theorem rdW_ok {mem : Bool} {fm : Nat} {txt : List Nat} {en ws we : Nat} (h : (rdW mem fm txt en ws we).1 = 0) : OkD mem (rdW mem fm txt en ws we).2.2.2 := by
  have hp := rmk_pow (mem := mem) (txt := txt) (en := en) (nMarks mem + 1) 0 ws we (Nat.pow_pos (by decide))
  revert h
  unfold rdW rdW0
  generalize rmk mem txt en (nMarks mem + 1) 0 ws we = M at hp
  by_cases c1 : M.1 = true
  · rw [if_pos c1]
    cases hk : kdH mem (wdO txt M.2.2.1 M.2.2.2) with
    | none => intro h; exact absurd (show (3 : Nat) = 0 from h) (by decide)
    | some k =>
      simp only
      unfold rdW1
      generalize M.2.2.2 = we1
      generalize hc : cnR fm txt (wdS (txt.take en) we1) (wdE (txt.take en) (wdS (txt.take en) we1)) = r
      have hl : r.1.length ≤ 20 := by rw [← hc]; exact cnR_len _ _ _ _
      by_cases c2 : okN mem k r = true
      · rw [if_pos c2]
        unfold rdW2
        generalize wdE (txt.take en) (wdS (txt.take en) we1) = we2
        cases mem with
        | false =>
          intro _
          exact ⟨okN_vch c2, fun c hc => (by cases hc), hl, Nat.zero_le _, kdH_lt hk, hp, fun _ => rfl⟩
        | true =>
          rw [if_pos rfl]
          generalize hc2 : cnR fm txt (wdS (txt.take en) we2) (wdE (txt.take en) (wdS (txt.take en) we2)) = r2
          have hl2 : r2.1.length ≤ 20 := by rw [← hc2]; exact cnR_len _ _ _ _
          by_cases c3 : okD k r2 = true
          · rw [if_pos c3]
            intro _
            exact ⟨okN_vch c2, okD_vch c3, hl, hl2, kdH_lt hk, hp, fun z => (by cases z)⟩
          · rw [if_neg c3]; intro h; exact absurd (show (5 : Nat) = 0 from h) (by decide)
      · rw [if_neg c2]; intro h; exact absurd (show (4 : Nat) = 0 from h) (by decide)
  · rw [if_neg c1]; intro h; exact absurd (show (2 : Nat) = 0 from h) (by decide)
/-- what is read: few, distinct, fine -/
def UInv (U : List TU) : Prop := Ulen U ∧ U.Pairwise (fun a b => cmpL a.1.1 b.1.1 ≠ 0) ∧ (∀ u ∈ U, u.2.Pairwise (fun a b => cmpD a b ≠ 0)) ∧ UOk U
theorem UInv.nil : UInv [] := ⟨⟨Nat.zero_le _, fun u hu => (by cases hu)⟩, List.Pairwise.nil, fun u hu => (by cases hu), fun u hu => (by cases hu)⟩
theorem UInv.addT {U : List TU} {x : DV} (h : UInv U) (k : tkT U x = 0) (hx : OkD false x) : UInv (U ++ [(x, [])]) := by
  refine ⟨h.1.addT k, ?_, fun u hu => ?_, fun u hu => ?_⟩
  · rw [List.pairwise_append]
    refine ⟨h.2.1, List.pairwise_singleton _ _, fun a ha b hb => ?_⟩
    rw [List.mem_singleton.mp hb]
    unfold tkT at k
    by_cases c : ∃ u ∈ U, cmpL u.1.1 x.1 = 0
    · rw [if_pos c] at k; exact absurd k (by decide)
    · exact fun z => c ⟨a, ha, z⟩
  · rcases List.mem_append.mp hu with e | e
    · exact h.2.2.1 u e
    · rw [List.mem_singleton.mp e]; exact List.Pairwise.nil
  · rcases List.mem_append.mp hu with e | e
    · exact h.2.2.2 u e
    · rw [List.mem_singleton.mp e]; exact ⟨hx, fun d hd => (by cases hd)⟩
theorem UInv.addM {U : List TU} {x : DV} (h : UInv U) (k : tkM U x = 0) (hx : OkD true x) : UInv (adM U x) := by
  refine ⟨h.1.addM k, ?_⟩
  rcases List.eq_nil_or_concat U with e | ⟨V, u, e⟩
  · subst e; exact absurd (show (9 : Nat) = 0 from k) (by decide)
  · rw [List.concat_eq_append] at e
    subst e
    rw [adM_snoc]
    rw [tkM_snoc] at k
    obtain ⟨h1, h2, h3⟩ := h.2
    have hu := h2 u (List.mem_append_right _ (List.mem_singleton.mpr rfl))
    have hk := h3 u (List.mem_append_right _ (List.mem_singleton.mpr rfl))
    refine ⟨?_, fun y hy => ?_, fun y hy => ?_⟩
    · rw [List.pairwise_append] at h1 ⊢
      refine ⟨h1.1, List.pairwise_singleton _ _, fun a ha b hb => ?_⟩
      rw [List.mem_singleton.mp hb]
      exact h1.2.2 a ha u (List.mem_singleton.mpr rfl)
    · rcases List.mem_append.mp hy with e | e
      · exact h2 y (List.mem_append_left _ e)
      · rw [List.mem_singleton.mp e]
        show (u.2 ++ [x]).Pairwise _
        rw [List.pairwise_append]
        refine ⟨hu, List.pairwise_singleton _ _, fun a ha b hb => ?_⟩
        rw [List.mem_singleton.mp hb]
        by_cases c : ∃ d ∈ u.2, cmpD d x = 0
        · rw [if_pos c] at k; exact absurd k (by decide)
        · exact fun z => c ⟨a, ha, z⟩
    · rcases List.mem_append.mp hy with e | e
      · exact h3 y (List.mem_append_left _ e)
      · rw [List.mem_singleton.mp e]
        refine ⟨hk.1, fun d hd => ?_⟩
        rcases List.mem_append.mp hd with e2 | e2
        · exact hk.2 d e2
        · rw [List.mem_singleton.mp e2]; exact hx
theorem UInv.ln {txt : List Nat} {num i j : Nat} {s : RSt} (h : UInv s.2.2.2.1) (hij : i ≤ j) (hj : j ≤ txt.length) : UInv (rdLn txt num i j s).2.2.2.1 :=
  rdLn_inv (P := UInv) h (fun fm en ws we _ _ _ _ h0 k => h.addT k (rdW_ok h0)) (fun fm en ws we _ _ _ _ h0 k => h.addM k (rdW_ok h0)) hij hj
/-- marks as bits -/
def bc (m : Nat) : Nat := m % 2 + m / 2 % 2 + m / 4 % 2 + m / 8 % 2 + m / 16 % 2
theorem bc_add : ∀ mq, mq < 32 → ∀ i, i < 5 → mq &&& 2 ^ i = 0 → bc (mq ||| 2 ^ i) = bc mq + 1 ∧ mq ||| 2 ^ i = mq + 2 ^ i := by decide +kernel
theorem bc_le {mem : Bool} {mq : Nat} (h : mq < 2 ^ nMarks mem) : bc mq ≤ nMarks mem := by
  cases mem
  · have h : mq < 8 := h
    show bc mq ≤ 3
    unfold bc; omega
  · show bc mq ≤ 5
    unfold bc; omega
theorem mkHf_is (mem : Bool) (x : List Nat) : ∀ n, n ≤ nMarks mem → mkHf mem x n ≠ 0 → ∃ i, i < nMarks mem ∧ mkHf mem x n = 2 ^ i
  | 0, _, h => absurd rfl h
  | n + 1, hn, h => by
    unfold mkHf at h ⊢
    by_cases c : x = strL (markS mem (nMarks mem - (n + 1)))
    · rw [if_pos c]; exact ⟨_, by omega, rfl⟩
    · rw [if_neg c] at h ⊢; exact mkHf_is mem x n (by omega) h
theorem nMarks_le (mem : Bool) : nMarks mem ≤ 5 := by cases mem <;> decide
theorem mk_go {mem : Bool} {x : List Nat} {mq : Nat} (hq : mq < 2 ^ nMarks mem) (h0 : mkH mem x ≠ 0) (h : mq &&& mkH mem x = 0) : bc (mq ||| mkH mem x) = bc mq + 1 ∧ mq ||| mkH mem x = mq + mkH mem x ∧ (mq ||| mkH mem x) < 2 ^ nMarks mem := by
  obtain ⟨i, hi, e⟩ := mkHf_is mem x (nMarks mem) (Nat.le_refl _) h0
  have e : mkH mem x = 2 ^ i := e
  rw [e] at h ⊢
  have h5 := nMarks_le mem
  have : 2 ^ nMarks mem ≤ 2 ^ 5 := Nat.pow_le_pow_right (by decide) h5
  have h9 := bc_add mq (by omega) i (by omega) h
  exact ⟨h9.1, h9.2, Nat.or_lt_two_pow hq (Nat.pow_lt_pow_right (by decide) hi)⟩
theorem mkH_nil (mem : Bool) : mkH mem [] = 0 := by cases mem <;> rfl
theorem kdH_nil (mem : Bool) : kdH mem [] = none := by cases mem <;> rfl
theorem tkN_nil (mem : Bool) (k fm : Nat) : tkN mem k fm [] = false := by
  unfold tkN
  show (dtF (if mem then 0 else 46) [] true || (mem && decide (k = 1) && decide ([] = strL 14))) = false
  cases mem <;> simp [dtF] <;> (intro _; decide)
theorem tkD_nil (k fm : Nat) : tkD k fm [] = false := by
  unfold tkD
  show (if k = 1 then isMD [] else isFD []) = false
  by_cases c : k = 1
  · rw [if_pos c]; rfl
  · rw [if_neg c]; rfl
theorem tkN_some {mem : Bool} {k fm : Nat} {w L : List Nat} (h : tkL fm w = some L) : tkN mem k fm w = (dtF (if mem then 0 else 46) L true || (mem && decide (k = 1) && decide (L = strL 14))) := by unfold tkN; rw [h]
theorem tkN_none {mem : Bool} {k fm : Nat} {w : List Nat} (h : tkL fm w = none) : tkN mem k fm w = false := by unfold tkN; rw [h]
theorem tkD_some {k fm : Nat} {w L : List Nat} (h : tkL fm w = some L) : tkD k fm w = if k = 1 then isMD L else isFD L := by unfold tkD; rw [h]
theorem tkD_none {k fm : Nat} {w : List Nat} (h : tkL fm w = none) : tkD k fm w = false := by unfold tkD; rw [h]
/-- before a word stands no %, behind it no dollar -/
theorem wd_bef {txt : List Nat} {en i : Nat} (hen : en ≤ txt.length) : ∀ n, en - i = n → i ≤ en → wdS (txt.take en) i = i ∨ txt.getD (wdS (txt.take en) i - 1) 0 = 32
  | 0, h, hi => by
    left; rw [wdS_end (by rw [len_take hen]; omega)]
  | n + 1, h, hi => by
    unfold wdS
    rw [skBl_step (by rw [len_take hen]; omega), getD_take (by omega)]
    by_cases c : txt.getD i 0 = 32
    · rw [if_pos c]
      have := wd_bef (i := i + 1) hen n (by omega) (by omega)
      unfold wdS at this
      rcases this with z | z
      · right; rw [z, Nat.add_sub_cancel]; exact c
      · right; exact z
    · rw [if_neg c]; left; rfl
theorem wd_aft {txt : List Nat} {en i : Nat} (hen : en ≤ txt.length) : ∀ n, en - i = n → i ≤ en → wdE (txt.take en) i = en ∨ txt.getD (wdE (txt.take en) i) 0 = 32
  | 0, h, hi => by
    left; rw [wdE_end (by rw [len_take hen]; omega)]; omega
  | n + 1, h, hi => by
    unfold wdE
    rw [edW_step (by rw [len_take hen]; omega), getD_take (by omega)]
    by_cases c : txt.getD i 0 = 32
    · rw [if_pos c]; right; exact c
    · rw [if_neg c]
      have := wd_aft (i := i + 1) hen n (by omega) (by omega)
      unfold wdE at this
      exact this
theorem wdS_not {txt : List Nat} {en i : Nat} (hen : en ≤ txt.length) : ∀ n, en - i = n → i ≤ en → wdS (txt.take en) i < en → txt.getD (wdS (txt.take en) i) 0 ≠ 32
  | 0, h, hi => by
    intro z; rw [wdS_end (by rw [len_take hen]; omega)] at z; omega
  | n + 1, h, hi => by
    unfold wdS
    rw [skBl_step (by rw [len_take hen]; omega), getD_take (by omega)]
    by_cases c : txt.getD i 0 = 32
    · rw [if_pos c]
      have := wdS_not (i := i + 1) hen n (by omega) (by omega)
      unfold wdS at this
      exact this
    · rw [if_neg c]; intro _; exact c
theorem wdE_gt {txt : List Nat} {en i : Nat} (hen : en ≤ txt.length) (hi : i < en) (h : txt.getD i 0 ≠ 32) : i < wdE (txt.take en) i := by
  unfold wdE
  rw [edW_step (by rw [len_take hen]; omega), getD_take (by omega), if_neg h]
  have := edW_le ((txt.take en).drop (i + 1)) (i + 1)
  omega
theorem cnR_nil (fm : Nat) (txt : List Nat) (e : Nat) : cnR fm txt e e = ([], false) := by unfold cnR; rw [Nat.sub_self]; rfl
theorem okN_nil (mem : Bool) (k : Nat) : okN mem k ([], false) = false := by
  unfold okN
  rw [isNm_dt]
  cases mem
  · rfl
  · simp only [dtF, Bool.not_true, Bool.false_or, Bool.true_and, Bool.not_false, Bool.and_true]
    rw [show decide (([] : List Nat) = strL 14) = false from by decide]
    simp
theorem okD_nil (k : Nat) : okD k ([], false) = false := by
  unfold okD
  by_cases c : k = 1
  · rw [if_pos c]; rfl
  · rw [if_neg c]; rfl
theorem bef2 {txt : List Nat} {en S W S2 : Nat} (hen : en ≤ txt.length) (hS : S ≤ en) (hW : wdE (txt.take en) S = W) (hS2 : wdS (txt.take en) W = S2) (h : S2 < en) : 0 < S2 → txt.getD (S2 - 1) 0 ≠ 37 := fun _ => by
  have hl := len_take hen
  have h1 := wdE_le (L := txt.take en) (i := S) (by omega)
  have hb := wd_bef (i := W) hen (en - W) rfl (by omega)
  have hn := wdS_not (i := W) hen (en - W) rfl (by omega)
  have ha := wd_aft (i := S) hen (en - S) rfl hS
  rw [hS2] at hb hn
  rw [hW] at ha
  rcases hb with z | z
  · exfalso
    rcases ha with q | q
    · omega
    · rw [z] at hn; exact hn (by omega) q
  · rw [z]; decide
theorem aft2 {txt : List Nat} {en S2 W2 : Nat} (hen : en ≤ txt.length) (hS : S2 ≤ en) (hE : wdE (txt.take en) S2 = W2) (haf : txt.getD en 0 ≠ 36) : txt.getD W2 0 ≠ 36 := by
  have ha := wd_aft (i := S2) hen (en - S2) rfl hS
  rw [hE] at ha
  rcases ha with z | z
  · rw [z]; exact haf
  · rw [z]; decide
theorem tkw_lt {fm : Nat} : ∀ (n : Nat) (w L : List Nat), w.length ≤ n → (∀ c ∈ w, c < 128) → tkw fm w = some L → ∀ c ∈ L, c < 128
  | _, [], L, _, _, h => by cases h; intro c hc; cases hc
  | _, [c], L, _, hw, h => by
    unfold tkw at h
    by_cases q : fm = 1 ∧ (c = 36 ∨ c = 37)
    · rw [if_pos q] at h; cases h
    · rw [if_neg q] at h; cases h; exact hw
  | 0, c :: d :: r, L, hn, _, _ => by rw [List.length_cons] at hn; omega
  | n + 1, c :: d :: r, L, hn, hw, h => by
    unfold tkw at h
    by_cases q : fm = 1 ∧ c = 36
    · rw [if_pos q] at h; cases h
    · rw [if_neg q] at h
      by_cases q2 : fm = 1 ∧ c = 37
      · rw [if_pos q2] at h
        by_cases q3 : d = 36
        · rw [if_pos q3] at h
          cases ht : tkw fm r with
          | none => rw [ht] at h; cases h
          | some M =>
            rw [ht] at h; cases h
            have ih := tkw_lt n r M (by rw [List.length_cons, List.length_cons] at hn; omega) (fun z hz => hw z (List.mem_cons_of_mem _ (List.mem_cons_of_mem _ hz))) ht
            intro z hz
            rcases List.mem_cons.mp hz with e | e
            · rw [e]; decide
            · exact ih z e
        · rw [if_neg q3] at h; cases h
      · rw [if_neg q2] at h
        cases ht : tkw fm (d :: r) with
        | none => rw [ht] at h; cases h
        | some M =>
          rw [ht] at h; cases h
          have ih := tkw_lt n (d :: r) M (by rw [List.length_cons] at hn; omega) (fun z hz => hw z (List.mem_cons_of_mem _ hz)) ht
          intro z hz
          rcases List.mem_cons.mp hz with e | e
          · rw [e]; exact hw c List.mem_cons_self
          · exact ih z e
theorem tkL_ok {fm : Nat} {w L : List Nat} (hw : ∀ c ∈ w, c < 128) (h : tkL fm w = some L) : L.length ≤ 20 ∧ ∀ c ∈ L, c < 128 := by
  unfold tkL at h
  cases ht : tkw fm w with
  | none => rw [ht] at h; cases h
  | some M =>
    rw [ht] at h
    have h : (if M.length ≤ 20 then some M else none) = some L := h
    by_cases c : M.length ≤ 20
    · rw [if_pos c] at h; cases h; exact ⟨c, tkw_lt _ _ _ (Nat.le_refl _) hw ht⟩
    · rw [if_neg c] at h; cases h
