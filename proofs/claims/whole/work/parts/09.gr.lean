def isLt (x : Nat) : Bool := decide ((97 ≤ x ∧ x ≤ 122) ∨ (65 ≤ x ∧ x ≤ 90) ∨ x = 36 ∨ x = 95)
def isDg (x : Nat) : Bool := decide (48 ≤ x ∧ x ≤ 57)
def isBs (x : Nat) : Bool := decide (x = 66 ∨ x = 67 ∨ x = 68 ∨ x = 70 ∨ x = 73 ∨ x = 74 ∨ x = 83 ∨ x = 90)
/-- an answer that is a place or -1 -/
def oI (o : Option Nat) : Int32 := match o with
  | none => -1
  | some n => nI n
/-- the end of the longest run of parts: what is left, where it stands, whether a part begins -/
def nmE (sep : Nat) : List Nat → Nat → Bool → Option Nat
  | [], i, pb => if pb then none else some i
  | x :: r, i, pb => if isLt x || (!pb && isDg x) then nmE sep r (i + 1) false else if !pb && decide (x = sep) then nmE sep r (i + 1) true else if pb then none else some i
def nameE (sep : Nat) (xs : List Nat) (i : Nat) : Option Nat := nmE sep (xs.drop i) i true
/-- the places behind all [ -/
def skB : List Nat → Nat → Nat
  | [], i => i
  | x :: r, i => if x = 91 then skB r (i + 1) else i
def skipB (xs : List Nat) (i : Nat) : Nat := skB (xs.drop i) i
def fieldE (xs : List Nat) (i : Nat) : Option Nat :=
  let at' := skipB xs i
  if xs.length ≤ at' then none
  else if isBs (xs.getD at' 0) then some (at' + 1)
  else if xs.getD at' 0 ≠ 76 then none
  else match nameE 47 xs (at' + 1) with
    | none => none
    | some q => if q < xs.length ∧ xs.getD q 0 = 59 then some (q + 1) else none
theorem drop_nil {xs : List Nat} {i : Nat} (h : xs.length ≤ i) : xs.drop i = [] := List.drop_eq_nil_of_le h
theorem nmE_le (sep : Nat) : ∀ (r : List Nat) (i : Nat) (pb : Bool) (q : Nat), nmE sep r i pb = some q → q ≤ i + r.length
  | [], i, pb, q, h => by
    unfold nmE at h
    cases pb with
    | true => simp at h
    | false => simp at h; simp; omega
  | x :: r, i, pb, q, h => by
    unfold nmE at h
    rw [List.length_cons]
    by_cases c1 : (isLt x || (!pb && isDg x)) = true
    · rw [if_pos c1] at h
      have := nmE_le sep r (i + 1) false q h; omega
    · rw [if_neg c1] at h
      by_cases c2 : (!pb && decide (x = sep)) = true
      · rw [if_pos c2] at h
        have := nmE_le sep r (i + 1) true q h; omega
      · rw [if_neg c2] at h
        cases pb with
        | true => simp at h
        | false => simp at h; omega
theorem nameE_le {sep : Nat} {xs : List Nat} {i q : Nat} (hi : i ≤ xs.length) (h : nameE sep xs i = some q) : q ≤ xs.length := by
  have := nmE_le sep _ _ _ _ h
  rw [List.length_drop] at this; omega
theorem skB_le : ∀ (r : List Nat) (i : Nat), i ≤ skB r i ∧ skB r i ≤ i + r.length
  | [], i => ⟨Nat.le_refl _, Nat.le_refl _⟩
  | x :: r, i => by
    unfold skB
    by_cases c : x = 91
    · rw [if_pos c, List.length_cons]; have := skB_le r (i + 1); omega
    · rw [if_neg c, List.length_cons]; omega
theorem skipB_le {xs : List Nat} {i : Nat} (hi : i ≤ xs.length) : i ≤ skipB xs i ∧ skipB xs i ≤ xs.length := by
  have := skB_le (xs.drop i) i
  rw [List.length_drop] at this
  unfold skipB; omega
theorem fieldE_le {xs : List Nat} {i q : Nat} (hi : i ≤ xs.length) (h : fieldE xs i = some q) : i < q ∧ q ≤ xs.length := by
  have hs := skipB_le hi
  unfold fieldE at h
  simp only at h
  by_cases c1 : xs.length ≤ skipB xs i
  · rw [if_pos c1] at h; cases h
  · rw [if_neg c1] at h
    by_cases c2 : isBs (xs.getD (skipB xs i) 0) = true
    · rw [if_pos c2] at h; cases h; omega
    · rw [if_neg c2] at h
      by_cases c3 : xs.getD (skipB xs i) 0 ≠ 76
      · rw [if_pos c3] at h; cases h
      · rw [if_neg c3] at h
        cases hn : nameE 47 xs (skipB xs i + 1) with
        | none => rw [hn] at h; cases h
        | some r =>
          rw [hn] at h
          simp only at h
          by_cases c4 : r < xs.length ∧ xs.getD r 0 = 59
          · rw [if_pos c4] at h; cases h
            have h1 : ∀ (rr : List Nat) (j : Nat) (pb : Bool) (q : Nat), nmE 47 rr j pb = some q → j ≤ q := by
              intro rr
              induction rr with
              | nil => intro j pb q hh; unfold nmE at hh; cases pb <;> simp at hh; omega
              | cons x rr ih =>
                intro j pb q hh
                unfold nmE at hh
                by_cases d1 : (isLt x || (!pb && isDg x)) = true
                · rw [if_pos d1] at hh; have := ih _ _ _ hh; omega
                · rw [if_neg d1] at hh
                  by_cases d2 : (!pb && decide (x = 47)) = true
                  · rw [if_pos d2] at hh; have := ih _ _ _ hh; omega
                  · rw [if_neg d2] at hh
                    cases pb <;> simp at hh; omega
            have := h1 _ _ _ _ hn; omega
          · rw [if_neg c4] at h; cases h
theorem nI_nm1 {n : Nat} (h : n < 2 ^ 31) : ¬ nI n = -1 := by
  intro e
  have h1 := nI_pos h
  rw [e] at h1
  exact h1 (by decide)
theorem skB_step {xs : List Nat} {i : Nat} (h : i < xs.length) : skB (xs.drop i) i = if xs.getD i 0 = 91 then skB (xs.drop (i + 1)) (i + 1) else i := by
  rw [drop_cons h]; rfl
/-- the descriptors between the brackets -/
def mdL (xs : List Nat) : Nat → Option Nat → Option Nat
  | 0, q => q
  | _ + 1, none => none
  | n + 1, some q => if q < xs.length ∧ xs.getD q 0 = 41 then some q else mdL xs n (fieldE xs q)
def mdR (xs : List Nat) (r : Option Nat) : Bool := match r with
  | none => false
  | some q => if q < xs.length ∧ xs.getD q 0 = 41 then (if q + 1 < xs.length ∧ xs.getD (q + 1) 0 = 86 then decide (q + 2 = xs.length) else decide (fieldE xs (q + 1) = some xs.length)) else false
def isMD (xs : List Nat) : Bool := decide (0 < xs.length ∧ xs.getD 0 0 = 40) && mdR xs (mdL xs 20 (some 1))
def isFD (xs : List Nat) : Bool := decide (fieldE xs 0 = some xs.length)
/-- a name of a type, of a member -/
def isNm (mem : Bool) (kind : Nat) (xs : List Nat) : Bool := (mem && decide (kind = 1) && decide (xs = strL 14)) || decide (nameE (if mem then 0 else 46) xs 0 = some xs.length)
theorem mdL_le {xs : List Nat} : ∀ (n q r : Nat), q ≤ xs.length → mdL xs n (some q) = some r → r ≤ xs.length := by
  intro n
  induction n with
  | zero => intro q r hq h; cases h; exact hq
  | succ n ih =>
    intro q r hq h
    unfold mdL at h
    by_cases c : q < xs.length ∧ xs.getD q 0 = 41
    · rw [if_pos c] at h; cases h; exact hq
    · rw [if_neg c] at h
      cases hf : fieldE xs q with
      | none => rw [hf] at h; cases n <;> simp [mdL] at h
      | some z => rw [hf] at h; exact ih z r (fieldE_le hq hf).2 h
theorem oI_eq {o : Option Nat} {n : Nat} (ho : ∀ q, o = some q → q < 2 ^ 31) (hn : n < 2 ^ 31) : oI o = nI n ↔ o = some n := by
  cases o with
  | none =>
    constructor
    · intro h; exact absurd h.symm (nI_nm1 hn)
    · intro h; cases h
  | some q =>
    constructor
    · intro h; rw [(nI_eq (ho q rfl) hn).mp h]
    · intro h; cases h; rfl
set_option maxHeartbeats 4000000 in
set_option maxRecDepth 100000 in
theorem c_Gr_isLetter (l : Launch) {E : hE} (hE : EnvOk E) {H : Heap} {x : Nat} (hx : x < 128) : Ct l E y_Gr_isLetter b_Gr_isLetter 1 (some .boolean) (rmA 0 0 0) [.int (nI x)] H (hQi (fun r H1 => r = bI (isLt x) ∧ H1 = H)) := by
  refine hx_enter hE (by decide) (Nat.le_of_ble_eq_true rfl) ?_
  intro p e s m args below meth c ls cx hnm hl
  have hl : lv_has ls 1 [(0, .int (nI x))] := hl
  have hlo : hLo (eB E) [] := hLo.nil
  refine lv_iload_n cx.x cx.b d_Gr_isLetter_0 rfl (lv_at hl 0 rfl) ?_
  refine lv_bipush (v := 97) cx.x cx.b d_Gr_isLetter_1 (by decide) ?_
  refine lv_icmp_lt (tgt := 12) cx.x cx.b d_Gr_isLetter_3 (by decide) (fun c1 => ?_) (fun c1 => ?_)
  · have c1 : x < 97 := (nI_ltI (a := x) (b := 97) (by omega) (by omega)).mp c1
    refine lv_iload_n cx.x cx.b d_Gr_isLetter_12 rfl (lv_at hl 0 rfl) ?_
    refine lv_bipush (v := 65) cx.x cx.b d_Gr_isLetter_13 (by decide) ?_
    refine lv_icmp_lt (tgt := 24) cx.x cx.b d_Gr_isLetter_15 (by decide) (fun c2 => ?_) (fun c2 => ?_)
    · have c2 : x < 65 := (nI_ltI (a := x) (b := 65) (by omega) (by omega)).mp c2
      refine lv_iload_n cx.x cx.b d_Gr_isLetter_24 rfl (lv_at hl 0 rfl) ?_
      refine lv_bipush (v := 36) cx.x cx.b d_Gr_isLetter_25 (by decide) ?_
      refine lv_icmp_eq (tgt := 36) cx.x cx.b d_Gr_isLetter_27 (by decide) (fun c3 => ?_) (fun c3 => ?_)
      · have c3 : x = 36 := (nI_eq (a := x) (b := 36) (by omega) (by omega)).mp c3
        refine lv_iconst (v := 1) cx.x cx.b d_Gr_isLetter_36 (by decide) ?_
        refine lv_goto (tgt := 41) cx.x cx.b d_Gr_isLetter_37 (by decide) ?_
        exact hx_reti cx.x cx.b cx.r cx.k rfl hlo (fun _ h => h) (Nat.le_of_ble_eq_true rfl) (Nat.le_of_ble_eq_true rfl) d_Gr_isLetter_41 (⟨by rw [show isLt x = true from decide_eq_true (by omega)]; rfl, rfl⟩)
      · have c3 : x ≠ 36 := fun zz => c3 ((nI_eq (a := x) (b := 36) (by omega) (by omega)).mpr zz)
        refine lv_iload_n cx.x cx.b d_Gr_isLetter_30 rfl (lv_at hl 0 rfl) ?_
        refine lv_bipush (v := 95) cx.x cx.b d_Gr_isLetter_31 (by decide) ?_
        refine lv_icmp_ne (tgt := 40) cx.x cx.b d_Gr_isLetter_33 (by decide) (fun c4 => ?_) (fun c4 => ?_)
        · have c4 : x ≠ 95 := fun zz => c4 ((nI_eq (a := x) (b := 95) (by omega) (by omega)).mpr zz)
          refine lv_iconst (v := 0) cx.x cx.b d_Gr_isLetter_40 (by decide) ?_
          exact hx_reti cx.x cx.b cx.r cx.k rfl hlo (fun _ h => h) (Nat.le_of_ble_eq_true rfl) (Nat.le_of_ble_eq_true rfl) d_Gr_isLetter_41 (⟨by rw [show isLt x = false from decide_eq_false (by omega)]; rfl, rfl⟩)
        · have c4 : x = 95 := (nI_eq (a := x) (b := 95) (by omega) (by omega)).mp c4
          refine lv_iconst (v := 1) cx.x cx.b d_Gr_isLetter_36 (by decide) ?_
          refine lv_goto (tgt := 41) cx.x cx.b d_Gr_isLetter_37 (by decide) ?_
          exact hx_reti cx.x cx.b cx.r cx.k rfl hlo (fun _ h => h) (Nat.le_of_ble_eq_true rfl) (Nat.le_of_ble_eq_true rfl) d_Gr_isLetter_41 (⟨by rw [show isLt x = true from decide_eq_true (by omega)]; rfl, rfl⟩)
    · have c2 : 65 ≤ x := Nat.not_lt.mp (fun zz => c2 ((nI_ltI (a := x) (b := 65) (by omega) (by omega)).mpr zz))
      refine lv_iload_n cx.x cx.b d_Gr_isLetter_18 rfl (lv_at hl 0 rfl) ?_
      refine lv_bipush (v := 90) cx.x cx.b d_Gr_isLetter_19 (by decide) ?_
      refine lv_icmp_le (tgt := 36) cx.x cx.b d_Gr_isLetter_21 (by decide) (fun c5 => ?_) (fun c5 => ?_)
      · have c5 : x ≤ 90 := (nI_leI (a := x) (b := 90) (by omega) (by omega)).mp c5
        refine lv_iconst (v := 1) cx.x cx.b d_Gr_isLetter_36 (by decide) ?_
        refine lv_goto (tgt := 41) cx.x cx.b d_Gr_isLetter_37 (by decide) ?_
        exact hx_reti cx.x cx.b cx.r cx.k rfl hlo (fun _ h => h) (Nat.le_of_ble_eq_true rfl) (Nat.le_of_ble_eq_true rfl) d_Gr_isLetter_41 (⟨by rw [show isLt x = true from decide_eq_true (by omega)]; rfl, rfl⟩)
      · have c5 : 90 < x := Nat.not_le.mp (fun zz => c5 ((nI_leI (a := x) (b := 90) (by omega) (by omega)).mpr zz))
        refine lv_iload_n cx.x cx.b d_Gr_isLetter_24 rfl (lv_at hl 0 rfl) ?_
        refine lv_bipush (v := 36) cx.x cx.b d_Gr_isLetter_25 (by decide) ?_
        refine lv_icmp_eq (tgt := 36) cx.x cx.b d_Gr_isLetter_27 (by decide) (fun c6 => ?_) (fun c6 => ?_)
        · have c6 : x = 36 := (nI_eq (a := x) (b := 36) (by omega) (by omega)).mp c6
          refine lv_iconst (v := 1) cx.x cx.b d_Gr_isLetter_36 (by decide) ?_
          refine lv_goto (tgt := 41) cx.x cx.b d_Gr_isLetter_37 (by decide) ?_
          exact hx_reti cx.x cx.b cx.r cx.k rfl hlo (fun _ h => h) (Nat.le_of_ble_eq_true rfl) (Nat.le_of_ble_eq_true rfl) d_Gr_isLetter_41 (⟨by rw [show isLt x = true from decide_eq_true (by omega)]; rfl, rfl⟩)
        · have c6 : x ≠ 36 := fun zz => c6 ((nI_eq (a := x) (b := 36) (by omega) (by omega)).mpr zz)
          refine lv_iload_n cx.x cx.b d_Gr_isLetter_30 rfl (lv_at hl 0 rfl) ?_
          refine lv_bipush (v := 95) cx.x cx.b d_Gr_isLetter_31 (by decide) ?_
          refine lv_icmp_ne (tgt := 40) cx.x cx.b d_Gr_isLetter_33 (by decide) (fun c7 => ?_) (fun c7 => ?_)
          · have c7 : x ≠ 95 := fun zz => c7 ((nI_eq (a := x) (b := 95) (by omega) (by omega)).mpr zz)
            refine lv_iconst (v := 0) cx.x cx.b d_Gr_isLetter_40 (by decide) ?_
            exact hx_reti cx.x cx.b cx.r cx.k rfl hlo (fun _ h => h) (Nat.le_of_ble_eq_true rfl) (Nat.le_of_ble_eq_true rfl) d_Gr_isLetter_41 (⟨by rw [show isLt x = false from decide_eq_false (by omega)]; rfl, rfl⟩)
          · have c7 : x = 95 := (nI_eq (a := x) (b := 95) (by omega) (by omega)).mp c7
            refine lv_iconst (v := 1) cx.x cx.b d_Gr_isLetter_36 (by decide) ?_
            refine lv_goto (tgt := 41) cx.x cx.b d_Gr_isLetter_37 (by decide) ?_
            exact hx_reti cx.x cx.b cx.r cx.k rfl hlo (fun _ h => h) (Nat.le_of_ble_eq_true rfl) (Nat.le_of_ble_eq_true rfl) d_Gr_isLetter_41 (⟨by rw [show isLt x = true from decide_eq_true (by omega)]; rfl, rfl⟩)
  · have c1 : 97 ≤ x := Nat.not_lt.mp (fun zz => c1 ((nI_ltI (a := x) (b := 97) (by omega) (by omega)).mpr zz))
    refine lv_iload_n cx.x cx.b d_Gr_isLetter_6 rfl (lv_at hl 0 rfl) ?_
    refine lv_bipush (v := 122) cx.x cx.b d_Gr_isLetter_7 (by decide) ?_
    refine lv_icmp_le (tgt := 36) cx.x cx.b d_Gr_isLetter_9 (by decide) (fun c8 => ?_) (fun c8 => ?_)
    · have c8 : x ≤ 122 := (nI_leI (a := x) (b := 122) (by omega) (by omega)).mp c8
      refine lv_iconst (v := 1) cx.x cx.b d_Gr_isLetter_36 (by decide) ?_
      refine lv_goto (tgt := 41) cx.x cx.b d_Gr_isLetter_37 (by decide) ?_
      exact hx_reti cx.x cx.b cx.r cx.k rfl hlo (fun _ h => h) (Nat.le_of_ble_eq_true rfl) (Nat.le_of_ble_eq_true rfl) d_Gr_isLetter_41 (⟨by rw [show isLt x = true from decide_eq_true (by omega)]; rfl, rfl⟩)
    · have c8 : 122 < x := Nat.not_le.mp (fun zz => c8 ((nI_leI (a := x) (b := 122) (by omega) (by omega)).mpr zz))
      refine lv_iload_n cx.x cx.b d_Gr_isLetter_12 rfl (lv_at hl 0 rfl) ?_
      refine lv_bipush (v := 65) cx.x cx.b d_Gr_isLetter_13 (by decide) ?_
      refine lv_icmp_lt (tgt := 24) cx.x cx.b d_Gr_isLetter_15 (by decide) (fun c9 => ?_) (fun c9 => ?_)
      · have c9 : x < 65 := (nI_ltI (a := x) (b := 65) (by omega) (by omega)).mp c9
        refine lv_iload_n cx.x cx.b d_Gr_isLetter_24 rfl (lv_at hl 0 rfl) ?_
        refine lv_bipush (v := 36) cx.x cx.b d_Gr_isLetter_25 (by decide) ?_
        refine lv_icmp_eq (tgt := 36) cx.x cx.b d_Gr_isLetter_27 (by decide) (fun c10 => ?_) (fun c10 => ?_)
        · have c10 : x = 36 := (nI_eq (a := x) (b := 36) (by omega) (by omega)).mp c10
          refine lv_iconst (v := 1) cx.x cx.b d_Gr_isLetter_36 (by decide) ?_
          refine lv_goto (tgt := 41) cx.x cx.b d_Gr_isLetter_37 (by decide) ?_
          exact hx_reti cx.x cx.b cx.r cx.k rfl hlo (fun _ h => h) (Nat.le_of_ble_eq_true rfl) (Nat.le_of_ble_eq_true rfl) d_Gr_isLetter_41 (⟨by rw [show isLt x = true from decide_eq_true (by omega)]; rfl, rfl⟩)
        · have c10 : x ≠ 36 := fun zz => c10 ((nI_eq (a := x) (b := 36) (by omega) (by omega)).mpr zz)
          refine lv_iload_n cx.x cx.b d_Gr_isLetter_30 rfl (lv_at hl 0 rfl) ?_
          refine lv_bipush (v := 95) cx.x cx.b d_Gr_isLetter_31 (by decide) ?_
          refine lv_icmp_ne (tgt := 40) cx.x cx.b d_Gr_isLetter_33 (by decide) (fun c11 => ?_) (fun c11 => ?_)
          · have c11 : x ≠ 95 := fun zz => c11 ((nI_eq (a := x) (b := 95) (by omega) (by omega)).mpr zz)
            refine lv_iconst (v := 0) cx.x cx.b d_Gr_isLetter_40 (by decide) ?_
            exact hx_reti cx.x cx.b cx.r cx.k rfl hlo (fun _ h => h) (Nat.le_of_ble_eq_true rfl) (Nat.le_of_ble_eq_true rfl) d_Gr_isLetter_41 (⟨by rw [show isLt x = false from decide_eq_false (by omega)]; rfl, rfl⟩)
          · have c11 : x = 95 := (nI_eq (a := x) (b := 95) (by omega) (by omega)).mp c11
            refine lv_iconst (v := 1) cx.x cx.b d_Gr_isLetter_36 (by decide) ?_
            refine lv_goto (tgt := 41) cx.x cx.b d_Gr_isLetter_37 (by decide) ?_
            exact hx_reti cx.x cx.b cx.r cx.k rfl hlo (fun _ h => h) (Nat.le_of_ble_eq_true rfl) (Nat.le_of_ble_eq_true rfl) d_Gr_isLetter_41 (⟨by rw [show isLt x = true from decide_eq_true (by omega)]; rfl, rfl⟩)
      · have c9 : 65 ≤ x := Nat.not_lt.mp (fun zz => c9 ((nI_ltI (a := x) (b := 65) (by omega) (by omega)).mpr zz))
        refine lv_iload_n cx.x cx.b d_Gr_isLetter_18 rfl (lv_at hl 0 rfl) ?_
        refine lv_bipush (v := 90) cx.x cx.b d_Gr_isLetter_19 (by decide) ?_
        refine lv_icmp_le (tgt := 36) cx.x cx.b d_Gr_isLetter_21 (by decide) (fun c12 => ?_) (fun c12 => ?_)
        · have c12 : x ≤ 90 := (nI_leI (a := x) (b := 90) (by omega) (by omega)).mp c12
          refine lv_iconst (v := 1) cx.x cx.b d_Gr_isLetter_36 (by decide) ?_
          refine lv_goto (tgt := 41) cx.x cx.b d_Gr_isLetter_37 (by decide) ?_
          exact hx_reti cx.x cx.b cx.r cx.k rfl hlo (fun _ h => h) (Nat.le_of_ble_eq_true rfl) (Nat.le_of_ble_eq_true rfl) d_Gr_isLetter_41 (⟨by rw [show isLt x = true from decide_eq_true (by omega)]; rfl, rfl⟩)
        · have c12 : 90 < x := Nat.not_le.mp (fun zz => c12 ((nI_leI (a := x) (b := 90) (by omega) (by omega)).mpr zz))
          refine lv_iload_n cx.x cx.b d_Gr_isLetter_24 rfl (lv_at hl 0 rfl) ?_
          refine lv_bipush (v := 36) cx.x cx.b d_Gr_isLetter_25 (by decide) ?_
          refine lv_icmp_eq (tgt := 36) cx.x cx.b d_Gr_isLetter_27 (by decide) (fun c13 => ?_) (fun c13 => ?_)
          · have c13 : x = 36 := (nI_eq (a := x) (b := 36) (by omega) (by omega)).mp c13
            refine lv_iconst (v := 1) cx.x cx.b d_Gr_isLetter_36 (by decide) ?_
            refine lv_goto (tgt := 41) cx.x cx.b d_Gr_isLetter_37 (by decide) ?_
            exact hx_reti cx.x cx.b cx.r cx.k rfl hlo (fun _ h => h) (Nat.le_of_ble_eq_true rfl) (Nat.le_of_ble_eq_true rfl) d_Gr_isLetter_41 (⟨by rw [show isLt x = true from decide_eq_true (by omega)]; rfl, rfl⟩)
          · have c13 : x ≠ 36 := fun zz => c13 ((nI_eq (a := x) (b := 36) (by omega) (by omega)).mpr zz)
            refine lv_iload_n cx.x cx.b d_Gr_isLetter_30 rfl (lv_at hl 0 rfl) ?_
            refine lv_bipush (v := 95) cx.x cx.b d_Gr_isLetter_31 (by decide) ?_
            refine lv_icmp_ne (tgt := 40) cx.x cx.b d_Gr_isLetter_33 (by decide) (fun c14 => ?_) (fun c14 => ?_)
            · have c14 : x ≠ 95 := fun zz => c14 ((nI_eq (a := x) (b := 95) (by omega) (by omega)).mpr zz)
              refine lv_iconst (v := 0) cx.x cx.b d_Gr_isLetter_40 (by decide) ?_
              exact hx_reti cx.x cx.b cx.r cx.k rfl hlo (fun _ h => h) (Nat.le_of_ble_eq_true rfl) (Nat.le_of_ble_eq_true rfl) d_Gr_isLetter_41 (⟨by rw [show isLt x = false from decide_eq_false (by omega)]; rfl, rfl⟩)
            · have c14 : x = 95 := (nI_eq (a := x) (b := 95) (by omega) (by omega)).mp c14
              refine lv_iconst (v := 1) cx.x cx.b d_Gr_isLetter_36 (by decide) ?_
              refine lv_goto (tgt := 41) cx.x cx.b d_Gr_isLetter_37 (by decide) ?_
              exact hx_reti cx.x cx.b cx.r cx.k rfl hlo (fun _ h => h) (Nat.le_of_ble_eq_true rfl) (Nat.le_of_ble_eq_true rfl) d_Gr_isLetter_41 (⟨by rw [show isLt x = true from decide_eq_true (by omega)]; rfl, rfl⟩)

set_option maxHeartbeats 4000000 in
set_option maxRecDepth 100000 in
theorem c_Gr_isDigit (l : Launch) {E : hE} (hE : EnvOk E) {H : Heap} {x : Nat} (hx : x < 128) : Ct l E y_Gr_isDigit b_Gr_isDigit 1 (some .boolean) (rmA 0 0 0) [.int (nI x)] H (hQi (fun r H1 => r = bI (isDg x) ∧ H1 = H)) := by
  refine hx_enter hE (by decide) (Nat.le_of_ble_eq_true rfl) ?_
  intro p e s m args below meth c ls cx hnm hl
  have hl : lv_has ls 1 [(0, .int (nI x))] := hl
  have hlo : hLo (eB E) [] := hLo.nil
  refine lv_iload_n cx.x cx.b d_Gr_isDigit_0 rfl (lv_at hl 0 rfl) ?_
  refine lv_bipush (v := 48) cx.x cx.b d_Gr_isDigit_1 (by decide) ?_
  refine lv_icmp_lt (tgt := 16) cx.x cx.b d_Gr_isDigit_3 (by decide) (fun c15 => ?_) (fun c15 => ?_)
  · have c15 : x < 48 := (nI_ltI (a := x) (b := 48) (by omega) (by omega)).mp c15
    refine lv_iconst (v := 0) cx.x cx.b d_Gr_isDigit_16 (by decide) ?_
    exact hx_reti cx.x cx.b cx.r cx.k rfl hlo (fun _ h => h) (Nat.le_of_ble_eq_true rfl) (Nat.le_of_ble_eq_true rfl) d_Gr_isDigit_17 (⟨by rw [show isDg x = false from decide_eq_false (by omega)]; rfl, rfl⟩)
  · have c15 : 48 ≤ x := Nat.not_lt.mp (fun zz => c15 ((nI_ltI (a := x) (b := 48) (by omega) (by omega)).mpr zz))
    refine lv_iload_n cx.x cx.b d_Gr_isDigit_6 rfl (lv_at hl 0 rfl) ?_
    refine lv_bipush (v := 57) cx.x cx.b d_Gr_isDigit_7 (by decide) ?_
    refine lv_icmp_gt (tgt := 16) cx.x cx.b d_Gr_isDigit_9 (by decide) (fun c16 => ?_) (fun c16 => ?_)
    · have c16 : 57 < x := (nI_ltI (a := 57) (b := x) (by omega) (by omega)).mp c16
      refine lv_iconst (v := 0) cx.x cx.b d_Gr_isDigit_16 (by decide) ?_
      exact hx_reti cx.x cx.b cx.r cx.k rfl hlo (fun _ h => h) (Nat.le_of_ble_eq_true rfl) (Nat.le_of_ble_eq_true rfl) d_Gr_isDigit_17 (⟨by rw [show isDg x = false from decide_eq_false (by omega)]; rfl, rfl⟩)
    · have c16 : x ≤ 57 := Nat.not_lt.mp (fun zz => c16 ((nI_ltI (a := 57) (b := x) (by omega) (by omega)).mpr zz))
      refine lv_iconst (v := 1) cx.x cx.b d_Gr_isDigit_12 (by decide) ?_
      refine lv_goto (tgt := 17) cx.x cx.b d_Gr_isDigit_13 (by decide) ?_
      exact hx_reti cx.x cx.b cx.r cx.k rfl hlo (fun _ h => h) (Nat.le_of_ble_eq_true rfl) (Nat.le_of_ble_eq_true rfl) d_Gr_isDigit_17 (⟨by rw [show isDg x = true from decide_eq_true (by omega)]; rfl, rfl⟩)

set_option maxHeartbeats 4000000 in
set_option maxRecDepth 100000 in
theorem c_Gr_isBase (l : Launch) {E : hE} (hE : EnvOk E) {H : Heap} {x : Nat} (hx : x < 128) : Ct l E y_Gr_isBase b_Gr_isBase 1 (some .boolean) (rmA 0 0 0) [.int (nI x)] H (hQi (fun r H1 => r = bI (isBs x) ∧ H1 = H)) := by
  refine hx_enter hE (by decide) (Nat.le_of_ble_eq_true rfl) ?_
  intro p e s m args below meth c ls cx hnm hl
  have hl : lv_has ls 1 [(0, .int (nI x))] := hl
  have hlo : hLo (eB E) [] := hLo.nil
  refine lv_iload_n cx.x cx.b d_Gr_isBase_0 rfl (lv_at hl 0 rfl) ?_
  have eT : (nI x).toInt = (x : Int) := nI_toInt (by omega)
  rcases (show (x < 66 ∨ 90 < x) ∨ x = 66 ∨ x = 67 ∨ x = 68 ∨ x = 69 ∨ x = 70 ∨ x = 71 ∨ x = 72 ∨ x = 73 ∨ x = 74 ∨ x = 75 ∨ x = 76 ∨ x = 77 ∨ x = 78 ∨ x = 79 ∨ x = 80 ∨ x = 81 ∨ x = 82 ∨ x = 83 ∨ x = 84 ∨ x = 85 ∨ x = 86 ∨ x = 87 ∨ x = 88 ∨ x = 89 ∨ x = 90 by omega) with c1 | rfl | rfl | rfl | rfl | rfl | rfl | rfl | rfl | rfl | rfl | rfl | rfl | rfl | rfl | rfl | rfl | rfl | rfl | rfl | rfl | rfl | rfl | rfl | rfl | rfl
  · refine lv_tableOut (tgt := 118) cx.x cx.b d_Gr_isBase_1 (by rw [eT]; omega) (by decide) ?_
    refine lv_iconst (v := 0) cx.x cx.b d_Gr_isBase_118 (by decide) ?_
    exact hx_reti cx.x cx.b cx.r cx.k rfl hlo (fun _ h => h) (Nat.le_of_ble_eq_true rfl) (Nat.le_of_ble_eq_true rfl) d_Gr_isBase_119 (⟨by rw [show isBs x = false from decide_eq_false (by omega)]; rfl, rfl⟩)
  · refine lv_tableIn (tgt := 116) (off := 115) cx.x cx.b d_Gr_isBase_1 (by decide) (by decide) (by decide) (by decide) ?_
    refine lv_iconst (v := 1) cx.x cx.b d_Gr_isBase_116 (by decide) ?_
    exact hx_reti cx.x cx.b cx.r cx.k rfl hlo (fun _ h => h) (Nat.le_of_ble_eq_true rfl) (Nat.le_of_ble_eq_true rfl) d_Gr_isBase_117 (⟨by decide, rfl⟩)
  · refine lv_tableIn (tgt := 116) (off := 115) cx.x cx.b d_Gr_isBase_1 (by decide) (by decide) (by decide) (by decide) ?_
    refine lv_iconst (v := 1) cx.x cx.b d_Gr_isBase_116 (by decide) ?_
    exact hx_reti cx.x cx.b cx.r cx.k rfl hlo (fun _ h => h) (Nat.le_of_ble_eq_true rfl) (Nat.le_of_ble_eq_true rfl) d_Gr_isBase_117 (⟨by decide, rfl⟩)
  · refine lv_tableIn (tgt := 116) (off := 115) cx.x cx.b d_Gr_isBase_1 (by decide) (by decide) (by decide) (by decide) ?_
    refine lv_iconst (v := 1) cx.x cx.b d_Gr_isBase_116 (by decide) ?_
    exact hx_reti cx.x cx.b cx.r cx.k rfl hlo (fun _ h => h) (Nat.le_of_ble_eq_true rfl) (Nat.le_of_ble_eq_true rfl) d_Gr_isBase_117 (⟨by decide, rfl⟩)
  · refine lv_tableIn (tgt := 118) (off := 117) cx.x cx.b d_Gr_isBase_1 (by decide) (by decide) (by decide) (by decide) ?_
    refine lv_iconst (v := 0) cx.x cx.b d_Gr_isBase_118 (by decide) ?_
    exact hx_reti cx.x cx.b cx.r cx.k rfl hlo (fun _ h => h) (Nat.le_of_ble_eq_true rfl) (Nat.le_of_ble_eq_true rfl) d_Gr_isBase_119 (⟨by decide, rfl⟩)
  · refine lv_tableIn (tgt := 116) (off := 115) cx.x cx.b d_Gr_isBase_1 (by decide) (by decide) (by decide) (by decide) ?_
    refine lv_iconst (v := 1) cx.x cx.b d_Gr_isBase_116 (by decide) ?_
    exact hx_reti cx.x cx.b cx.r cx.k rfl hlo (fun _ h => h) (Nat.le_of_ble_eq_true rfl) (Nat.le_of_ble_eq_true rfl) d_Gr_isBase_117 (⟨by decide, rfl⟩)
  · refine lv_tableIn (tgt := 118) (off := 117) cx.x cx.b d_Gr_isBase_1 (by decide) (by decide) (by decide) (by decide) ?_
    refine lv_iconst (v := 0) cx.x cx.b d_Gr_isBase_118 (by decide) ?_
    exact hx_reti cx.x cx.b cx.r cx.k rfl hlo (fun _ h => h) (Nat.le_of_ble_eq_true rfl) (Nat.le_of_ble_eq_true rfl) d_Gr_isBase_119 (⟨by decide, rfl⟩)
  · refine lv_tableIn (tgt := 118) (off := 117) cx.x cx.b d_Gr_isBase_1 (by decide) (by decide) (by decide) (by decide) ?_
    refine lv_iconst (v := 0) cx.x cx.b d_Gr_isBase_118 (by decide) ?_
    exact hx_reti cx.x cx.b cx.r cx.k rfl hlo (fun _ h => h) (Nat.le_of_ble_eq_true rfl) (Nat.le_of_ble_eq_true rfl) d_Gr_isBase_119 (⟨by decide, rfl⟩)
  · refine lv_tableIn (tgt := 116) (off := 115) cx.x cx.b d_Gr_isBase_1 (by decide) (by decide) (by decide) (by decide) ?_
    refine lv_iconst (v := 1) cx.x cx.b d_Gr_isBase_116 (by decide) ?_
    exact hx_reti cx.x cx.b cx.r cx.k rfl hlo (fun _ h => h) (Nat.le_of_ble_eq_true rfl) (Nat.le_of_ble_eq_true rfl) d_Gr_isBase_117 (⟨by decide, rfl⟩)
  · refine lv_tableIn (tgt := 116) (off := 115) cx.x cx.b d_Gr_isBase_1 (by decide) (by decide) (by decide) (by decide) ?_
    refine lv_iconst (v := 1) cx.x cx.b d_Gr_isBase_116 (by decide) ?_
    exact hx_reti cx.x cx.b cx.r cx.k rfl hlo (fun _ h => h) (Nat.le_of_ble_eq_true rfl) (Nat.le_of_ble_eq_true rfl) d_Gr_isBase_117 (⟨by decide, rfl⟩)
  · refine lv_tableIn (tgt := 118) (off := 117) cx.x cx.b d_Gr_isBase_1 (by decide) (by decide) (by decide) (by decide) ?_
    refine lv_iconst (v := 0) cx.x cx.b d_Gr_isBase_118 (by decide) ?_
    exact hx_reti cx.x cx.b cx.r cx.k rfl hlo (fun _ h => h) (Nat.le_of_ble_eq_true rfl) (Nat.le_of_ble_eq_true rfl) d_Gr_isBase_119 (⟨by decide, rfl⟩)
  · refine lv_tableIn (tgt := 118) (off := 117) cx.x cx.b d_Gr_isBase_1 (by decide) (by decide) (by decide) (by decide) ?_
    refine lv_iconst (v := 0) cx.x cx.b d_Gr_isBase_118 (by decide) ?_
    exact hx_reti cx.x cx.b cx.r cx.k rfl hlo (fun _ h => h) (Nat.le_of_ble_eq_true rfl) (Nat.le_of_ble_eq_true rfl) d_Gr_isBase_119 (⟨by decide, rfl⟩)
  · refine lv_tableIn (tgt := 118) (off := 117) cx.x cx.b d_Gr_isBase_1 (by decide) (by decide) (by decide) (by decide) ?_
    refine lv_iconst (v := 0) cx.x cx.b d_Gr_isBase_118 (by decide) ?_
    exact hx_reti cx.x cx.b cx.r cx.k rfl hlo (fun _ h => h) (Nat.le_of_ble_eq_true rfl) (Nat.le_of_ble_eq_true rfl) d_Gr_isBase_119 (⟨by decide, rfl⟩)
  · refine lv_tableIn (tgt := 118) (off := 117) cx.x cx.b d_Gr_isBase_1 (by decide) (by decide) (by decide) (by decide) ?_
    refine lv_iconst (v := 0) cx.x cx.b d_Gr_isBase_118 (by decide) ?_
    exact hx_reti cx.x cx.b cx.r cx.k rfl hlo (fun _ h => h) (Nat.le_of_ble_eq_true rfl) (Nat.le_of_ble_eq_true rfl) d_Gr_isBase_119 (⟨by decide, rfl⟩)
  · refine lv_tableIn (tgt := 118) (off := 117) cx.x cx.b d_Gr_isBase_1 (by decide) (by decide) (by decide) (by decide) ?_
    refine lv_iconst (v := 0) cx.x cx.b d_Gr_isBase_118 (by decide) ?_
    exact hx_reti cx.x cx.b cx.r cx.k rfl hlo (fun _ h => h) (Nat.le_of_ble_eq_true rfl) (Nat.le_of_ble_eq_true rfl) d_Gr_isBase_119 (⟨by decide, rfl⟩)
  · refine lv_tableIn (tgt := 118) (off := 117) cx.x cx.b d_Gr_isBase_1 (by decide) (by decide) (by decide) (by decide) ?_
    refine lv_iconst (v := 0) cx.x cx.b d_Gr_isBase_118 (by decide) ?_
    exact hx_reti cx.x cx.b cx.r cx.k rfl hlo (fun _ h => h) (Nat.le_of_ble_eq_true rfl) (Nat.le_of_ble_eq_true rfl) d_Gr_isBase_119 (⟨by decide, rfl⟩)
  · refine lv_tableIn (tgt := 118) (off := 117) cx.x cx.b d_Gr_isBase_1 (by decide) (by decide) (by decide) (by decide) ?_
    refine lv_iconst (v := 0) cx.x cx.b d_Gr_isBase_118 (by decide) ?_
    exact hx_reti cx.x cx.b cx.r cx.k rfl hlo (fun _ h => h) (Nat.le_of_ble_eq_true rfl) (Nat.le_of_ble_eq_true rfl) d_Gr_isBase_119 (⟨by decide, rfl⟩)
  · refine lv_tableIn (tgt := 118) (off := 117) cx.x cx.b d_Gr_isBase_1 (by decide) (by decide) (by decide) (by decide) ?_
    refine lv_iconst (v := 0) cx.x cx.b d_Gr_isBase_118 (by decide) ?_
    exact hx_reti cx.x cx.b cx.r cx.k rfl hlo (fun _ h => h) (Nat.le_of_ble_eq_true rfl) (Nat.le_of_ble_eq_true rfl) d_Gr_isBase_119 (⟨by decide, rfl⟩)
  · refine lv_tableIn (tgt := 116) (off := 115) cx.x cx.b d_Gr_isBase_1 (by decide) (by decide) (by decide) (by decide) ?_
    refine lv_iconst (v := 1) cx.x cx.b d_Gr_isBase_116 (by decide) ?_
    exact hx_reti cx.x cx.b cx.r cx.k rfl hlo (fun _ h => h) (Nat.le_of_ble_eq_true rfl) (Nat.le_of_ble_eq_true rfl) d_Gr_isBase_117 (⟨by decide, rfl⟩)
  · refine lv_tableIn (tgt := 118) (off := 117) cx.x cx.b d_Gr_isBase_1 (by decide) (by decide) (by decide) (by decide) ?_
    refine lv_iconst (v := 0) cx.x cx.b d_Gr_isBase_118 (by decide) ?_
    exact hx_reti cx.x cx.b cx.r cx.k rfl hlo (fun _ h => h) (Nat.le_of_ble_eq_true rfl) (Nat.le_of_ble_eq_true rfl) d_Gr_isBase_119 (⟨by decide, rfl⟩)
  · refine lv_tableIn (tgt := 118) (off := 117) cx.x cx.b d_Gr_isBase_1 (by decide) (by decide) (by decide) (by decide) ?_
    refine lv_iconst (v := 0) cx.x cx.b d_Gr_isBase_118 (by decide) ?_
    exact hx_reti cx.x cx.b cx.r cx.k rfl hlo (fun _ h => h) (Nat.le_of_ble_eq_true rfl) (Nat.le_of_ble_eq_true rfl) d_Gr_isBase_119 (⟨by decide, rfl⟩)
  · refine lv_tableIn (tgt := 118) (off := 117) cx.x cx.b d_Gr_isBase_1 (by decide) (by decide) (by decide) (by decide) ?_
    refine lv_iconst (v := 0) cx.x cx.b d_Gr_isBase_118 (by decide) ?_
    exact hx_reti cx.x cx.b cx.r cx.k rfl hlo (fun _ h => h) (Nat.le_of_ble_eq_true rfl) (Nat.le_of_ble_eq_true rfl) d_Gr_isBase_119 (⟨by decide, rfl⟩)
  · refine lv_tableIn (tgt := 118) (off := 117) cx.x cx.b d_Gr_isBase_1 (by decide) (by decide) (by decide) (by decide) ?_
    refine lv_iconst (v := 0) cx.x cx.b d_Gr_isBase_118 (by decide) ?_
    exact hx_reti cx.x cx.b cx.r cx.k rfl hlo (fun _ h => h) (Nat.le_of_ble_eq_true rfl) (Nat.le_of_ble_eq_true rfl) d_Gr_isBase_119 (⟨by decide, rfl⟩)
  · refine lv_tableIn (tgt := 118) (off := 117) cx.x cx.b d_Gr_isBase_1 (by decide) (by decide) (by decide) (by decide) ?_
    refine lv_iconst (v := 0) cx.x cx.b d_Gr_isBase_118 (by decide) ?_
    exact hx_reti cx.x cx.b cx.r cx.k rfl hlo (fun _ h => h) (Nat.le_of_ble_eq_true rfl) (Nat.le_of_ble_eq_true rfl) d_Gr_isBase_119 (⟨by decide, rfl⟩)
  · refine lv_tableIn (tgt := 118) (off := 117) cx.x cx.b d_Gr_isBase_1 (by decide) (by decide) (by decide) (by decide) ?_
    refine lv_iconst (v := 0) cx.x cx.b d_Gr_isBase_118 (by decide) ?_
    exact hx_reti cx.x cx.b cx.r cx.k rfl hlo (fun _ h => h) (Nat.le_of_ble_eq_true rfl) (Nat.le_of_ble_eq_true rfl) d_Gr_isBase_119 (⟨by decide, rfl⟩)
  · refine lv_tableIn (tgt := 116) (off := 115) cx.x cx.b d_Gr_isBase_1 (by decide) (by decide) (by decide) (by decide) ?_
    refine lv_iconst (v := 1) cx.x cx.b d_Gr_isBase_116 (by decide) ?_
    exact hx_reti cx.x cx.b cx.r cx.k rfl hlo (fun _ h => h) (Nat.le_of_ble_eq_true rfl) (Nat.le_of_ble_eq_true rfl) d_Gr_isBase_117 (⟨by decide, rfl⟩)

set_option maxHeartbeats 4000000 in
set_option maxRecDepth 100000 in
theorem c_Gr_isBase_none (l : Launch) {E : hE} (hE : EnvOk E) {H : Heap} : Ct l E y_Gr_isBase b_Gr_isBase 1 (some .boolean) (rmA 0 0 0) [.int (-1)] H (hQi (fun r H1 => r = 0 ∧ H1 = H)) := by
  refine hx_enter hE (by decide) (Nat.le_of_ble_eq_true rfl) ?_
  intro p e s m args below meth c ls cx hnm hl
  have hl : lv_has ls 1 [(0, .int (-1))] := hl
  have hlo : hLo (eB E) [] := hLo.nil
  refine lv_iload_n cx.x cx.b d_Gr_isBase_0 rfl (lv_at hl 0 rfl) ?_
  refine lv_tableOut (tgt := 118) cx.x cx.b d_Gr_isBase_1 (by decide) (by decide) ?_
  refine lv_iconst (v := 0) cx.x cx.b d_Gr_isBase_118 (by decide) ?_
  exact hx_reti cx.x cx.b cx.r cx.k rfl hlo (fun _ h => h) (Nat.le_of_ble_eq_true rfl) (Nat.le_of_ble_eq_true rfl) d_Gr_isBase_119 (⟨rfl, rfl⟩)

set_option maxHeartbeats 4000000 in
set_option maxRecDepth 100000 in
theorem c_Gr_nameEnd (l : Launch) {E : hE} (hE : EnvOk E) {H : Heap} {a arr cap : Nat} {xs : List Nat} {o : Bool} (h : Rw E H a arr cap xs o) {i0 sep : Nat} (hi0 : i0 ≤ xs.length) (hsep : sep < 128) : Ct l E y_Gr_nameEnd b_Gr_nameEnd 6 (some .int) (rmA 1 0 0) [.ref a, .int (nI i0), .int (nI sep)] H (hQi (fun r H1 => r = oI (nameE sep xs i0) ∧ H1 = H)) := by
  refine hx_enter hE (by decide) (Nat.le_of_ble_eq_true rfl) ?_
  intro p e s m args below meth c ls cx hnm hl
  have hl : lv_has ls 6 [(0, .ref a), (1, .int (nI i0)), (2, .int (nI sep))] := hl
  have hlo : hLo (eB E) [] := hLo.nil
  generalize hQ : MQ below _ args s _ _ _ = Q
  have hle := h.le
  have hx := h.2.2.2.2.2
  have LP : ∀ (k : Nat) (locs : List Loc) (i : Nat) (b : Bool), hLo (eB E) locs → (xs.length - i < k) → (i ≤ xs.length) → (nmE sep (xs.drop i) i b = nameE sep xs i0) → ∀ ls, lv_has ls 6 [(4, .int (nI i)), (3, .int (bI b)), (0, .ref a), (1, .int (nI i0)), (2, .int (nI sep))] → W p l e (rmA 1 0 0) s m args below meth c H locs 0 0 Q (F0 m 5 ls []) := by
    intro k
    induction k with
    | zero => intro locs i b hlo hk hi hj; exact absurd hk (by omega)
    | succ k ih =>
      intro locs i b hlo hk hi hj ls hl
      cases b
      · refine lv_iload cx.x cx.b d_Gr_nameEnd_5 (lv_at hl 0 rfl) ?_
        refine lv_aload_n cx.x cx.b d_Gr_nameEnd_7 rfl (lv_at hl 2 rfl) ?_
        refine hx_calli (iv_Gr_26_Rw cx (c_Rw_length l hE h) h.1 rfl hl.1 rfl (Nat.le_of_ble_eq_true rfl) d_Gr_nameEnd_8 ⟨Nat.le_of_ble_eq_true rfl, Nat.le_of_ble_eq_true rfl⟩ ⟨Nat.le_of_ble_eq_true rfl, Nat.le_of_ble_eq_true rfl⟩) hlo (fun _ h => h) (fun r19 H18 locs hp17 hlo => ?_)
        obtain ⟨hp17, hH9⟩ := hp17
        have hH9 := hH9.symm
        subst hH9
        subst hp17
        refine lv_icmp_ge (tgt := 65) cx.x cx.b d_Gr_nameEnd_11 (by decide) (fun c1 => ?_) (fun c1 => ?_)
        · have c1 : xs.length ≤ i := (nI_leI (a := xs.length) (b := i) (by omega) (by omega)).mp c1
          rw [drop_nil c1] at hj
          refine lv_iload_n cx.x cx.b d_Gr_nameEnd_65 rfl (lv_at hl 1 rfl) ?_
          refine lv_if_eq (tgt := 73) cx.x cx.b d_Gr_nameEnd_66 (by decide) (fun _ => ?_) (fun c => absurd (by decide) c)
          refine lv_iload cx.x cx.b d_Gr_nameEnd_73 (lv_at hl 0 rfl) ?_
          rw [← hQ]
          exact hx_reti cx.x cx.b cx.r cx.k rfl hlo (fun _ h => h) (Nat.le_of_ble_eq_true rfl) (Nat.le_of_ble_eq_true rfl) d_Gr_nameEnd_75 (⟨by rw [← hj]; rfl, rfl⟩)
        · have c1 : i < xs.length := Nat.not_le.mp (fun zz => c1 ((nI_leI (a := xs.length) (b := i) (by omega) (by omega)).mpr zz))
          have b1 := hx _ (getD_mem c1)
          rw [drop_cons c1] at hj
          unfold nmE at hj
          refine lv_aload_n cx.x cx.b d_Gr_nameEnd_14 rfl (lv_at hl 2 rfl) ?_
          refine lv_iload cx.x cx.b d_Gr_nameEnd_15 (lv_at hl 0 rfl) ?_
          refine hx_calli (iv_Gr_34_Rw cx (c_Rw_at l hE h (nI i)) h.1 rfl hl.1 rfl (Nat.le_of_ble_eq_true rfl) d_Gr_nameEnd_17 ⟨Nat.le_of_ble_eq_true rfl, Nat.le_of_ble_eq_true rfl⟩ ⟨Nat.le_of_ble_eq_true rfl, Nat.le_of_ble_eq_true rfl⟩) hlo (fun _ h => h) (fun r22 H21 locs hp20 hlo => ?_)
          obtain ⟨hp20, hH9⟩ := hp20
          have hH9 := hH9.symm
          subst hH9
          subst hp20
          rw [atI_n c1 (by omega)]
          refine lv_istore (lv' := [(5, .int (nI (xs.getD i 0))), (4, .int (nI i)), (3, .int (bI false)), (0, .ref a), (1, .int (nI i0)), (2, .int (nI sep))]) cx.x cx.b d_Gr_nameEnd_20 hl (by decide) rfl (fun ls hl => ?_)
          refine lv_iload cx.x cx.b d_Gr_nameEnd_22 (lv_at hl 0 rfl) ?_
          refine hx_calli (iv_Gr_42 cx (c_Gr_isLetter l hE b1) rfl hl.1 rfl (Nat.le_of_ble_eq_true rfl) d_Gr_nameEnd_24 ⟨Nat.le_of_ble_eq_true rfl, Nat.le_of_ble_eq_true rfl⟩ ⟨Nat.le_of_ble_eq_true rfl, Nat.le_of_ble_eq_true rfl⟩) hlo (fun _ h => h) (fun r25 H24 locs hp23 hlo => ?_)
          obtain ⟨hp23, hH9⟩ := hp23
          have hH9 := hH9.symm
          subst hH9
          subst hp23
          cases hL : isLt (xs.getD i 0)
          · rw [hL] at hj
            refine lv_if_ne (tgt := 42) cx.x cx.b d_Gr_nameEnd_27 (by decide) (fun c => absurd rfl c) (fun _ => ?_)
            refine lv_iload_n cx.x cx.b d_Gr_nameEnd_30 rfl (lv_at hl 2 rfl) ?_
            refine lv_if_ne (tgt := 47) cx.x cx.b d_Gr_nameEnd_31 (by decide) (fun c => absurd (by decide) c) (fun _ => ?_)
            refine lv_iload cx.x cx.b d_Gr_nameEnd_34 (lv_at hl 0 rfl) ?_
            refine hx_calli (iv_Gr_45 cx (c_Gr_isDigit l hE b1) rfl hl.1 rfl (Nat.le_of_ble_eq_true rfl) d_Gr_nameEnd_36 ⟨Nat.le_of_ble_eq_true rfl, Nat.le_of_ble_eq_true rfl⟩ ⟨Nat.le_of_ble_eq_true rfl, Nat.le_of_ble_eq_true rfl⟩) hlo (fun _ h => h) (fun r29 H28 locs hp27 hlo => ?_)
            obtain ⟨hp27, hH9⟩ := hp27
            have hH9 := hH9.symm
            subst hH9
            subst hp27
            cases hD : isDg (xs.getD i 0)
            · rw [hD] at hj
              rw [if_neg (by decide)] at hj
              refine lv_if_eq (tgt := 47) cx.x cx.b d_Gr_nameEnd_39 (by decide) (fun _ => ?_) (fun c => absurd rfl c)
              refine lv_iload_n cx.x cx.b d_Gr_nameEnd_47 rfl (lv_at hl 2 rfl) ?_
              refine lv_if_ne (tgt := 65) cx.x cx.b d_Gr_nameEnd_48 (by decide) (fun c => absurd (by decide) c) (fun _ => ?_)
              refine lv_iload cx.x cx.b d_Gr_nameEnd_51 (lv_at hl 0 rfl) ?_
              refine lv_iload_n cx.x cx.b d_Gr_nameEnd_53 rfl (lv_at hl 5 rfl) ?_
              refine lv_icmp_ne (tgt := 65) cx.x cx.b d_Gr_nameEnd_54 (by decide) (fun c2 => ?_) (fun c2 => ?_)
              · have c2 : (xs.getD i 0) ≠ sep := fun zz => c2 ((nI_eq (a := (xs.getD i 0)) (b := sep) (by omega) (by omega)).mpr zz)
                rw [show decide (xs.getD i 0 = sep) = false from decide_eq_false c2, if_neg (by decide), if_neg (by decide)] at hj
                refine lv_iload_n cx.x cx.b d_Gr_nameEnd_65 rfl (lv_at hl 2 rfl) ?_
                refine lv_if_eq (tgt := 73) cx.x cx.b d_Gr_nameEnd_66 (by decide) (fun _ => ?_) (fun c => absurd (by decide) c)
                refine lv_iload cx.x cx.b d_Gr_nameEnd_73 (lv_at hl 1 rfl) ?_
                rw [← hQ]
                exact hx_reti cx.x cx.b cx.r cx.k rfl hlo (fun _ h => h) (Nat.le_of_ble_eq_true rfl) (Nat.le_of_ble_eq_true rfl) d_Gr_nameEnd_75 (⟨by rw [← hj]; rfl, rfl⟩)
              · have c2 : (xs.getD i 0) = sep := (nI_eq (a := (xs.getD i 0)) (b := sep) (by omega) (by omega)).mp c2
                rw [show decide (xs.getD i 0 = sep) = true from decide_eq_true c2, if_pos (by rfl)] at hj
                refine lv_iconst (v := 1) cx.x cx.b d_Gr_nameEnd_57 (by decide) ?_
                refine lv_istore_n (lv' := [(3, .int 1), (5, .int (nI (xs.getD i 0))), (4, .int (nI i)), (0, .ref a), (1, .int (nI i0)), (2, .int (nI sep))]) cx.x cx.b d_Gr_nameEnd_58 rfl hl (by decide) rfl (fun ls hl => ?_)
                obtain ⟨x31, e_x31⟩ : ∃ y : Int32, y = nI i + 1 := ⟨_, rfl⟩
                refine lv_iinc (v := x31) (lv' := [(4, .int x31), (3, .int 1), (5, .int (nI (xs.getD i 0))), (0, .ref a), (1, .int (nI i0)), (2, .int (nI sep))]) cx.x cx.b d_Gr_nameEnd_59 hl (k := 2) rfl (by rw [e_x31]; rfl) (by decide) rfl (fun ls hl => ?_)
                refine lv_goto (tgt := 5) cx.x cx.b d_Gr_nameEnd_62 (by decide) ?_
                rw [nI_1] at e_x31
                subst e_x31
                exact ih _ (i + 1) true hlo (by omega) (by omega) hj _ (lv_sub hl [0, 1, 3, 4, 5] rfl)
            · rw [hD] at hj
              rw [if_pos (by rfl)] at hj
              refine lv_if_eq (tgt := 47) cx.x cx.b d_Gr_nameEnd_39 (by decide) (fun c => absurd c (by decide)) (fun _ => ?_)
              refine lv_iconst (v := 0) cx.x cx.b d_Gr_nameEnd_42 (by decide) ?_
              refine lv_istore_n (lv' := [(3, .int 0), (5, .int (nI (xs.getD i 0))), (4, .int (nI i)), (0, .ref a), (1, .int (nI i0)), (2, .int (nI sep))]) cx.x cx.b d_Gr_nameEnd_43 rfl hl (by decide) rfl (fun ls hl => ?_)
              refine lv_goto (tgt := 59) cx.x cx.b d_Gr_nameEnd_44 (by decide) ?_
              obtain ⟨x30, e_x30⟩ : ∃ y : Int32, y = nI i + 1 := ⟨_, rfl⟩
              refine lv_iinc (v := x30) (lv' := [(4, .int x30), (3, .int 0), (5, .int (nI (xs.getD i 0))), (0, .ref a), (1, .int (nI i0)), (2, .int (nI sep))]) cx.x cx.b d_Gr_nameEnd_59 hl (k := 2) rfl (by rw [e_x30]; rfl) (by decide) rfl (fun ls hl => ?_)
              refine lv_goto (tgt := 5) cx.x cx.b d_Gr_nameEnd_62 (by decide) ?_
              rw [nI_1] at e_x30
              subst e_x30
              exact ih _ (i + 1) false hlo (by omega) (by omega) hj _ (lv_sub hl [0, 1, 3, 4, 5] rfl)
          · rw [hL] at hj
            rw [if_pos (by rfl)] at hj
            refine lv_if_ne (tgt := 42) cx.x cx.b d_Gr_nameEnd_27 (by decide) (fun _ => ?_) (fun c => absurd c (by decide))
            refine lv_iconst (v := 0) cx.x cx.b d_Gr_nameEnd_42 (by decide) ?_
            refine lv_istore_n (lv' := [(3, .int 0), (5, .int (nI (xs.getD i 0))), (4, .int (nI i)), (0, .ref a), (1, .int (nI i0)), (2, .int (nI sep))]) cx.x cx.b d_Gr_nameEnd_43 rfl hl (by decide) rfl (fun ls hl => ?_)
            refine lv_goto (tgt := 59) cx.x cx.b d_Gr_nameEnd_44 (by decide) ?_
            obtain ⟨x26, e_x26⟩ : ∃ y : Int32, y = nI i + 1 := ⟨_, rfl⟩
            refine lv_iinc (v := x26) (lv' := [(4, .int x26), (3, .int 0), (5, .int (nI (xs.getD i 0))), (0, .ref a), (1, .int (nI i0)), (2, .int (nI sep))]) cx.x cx.b d_Gr_nameEnd_59 hl (k := 2) rfl (by rw [e_x26]; rfl) (by decide) rfl (fun ls hl => ?_)
            refine lv_goto (tgt := 5) cx.x cx.b d_Gr_nameEnd_62 (by decide) ?_
            rw [nI_1] at e_x26
            subst e_x26
            exact ih _ (i + 1) false hlo (by omega) (by omega) hj _ (lv_sub hl [0, 1, 3, 4, 5] rfl)
      · refine lv_iload cx.x cx.b d_Gr_nameEnd_5 (lv_at hl 0 rfl) ?_
        refine lv_aload_n cx.x cx.b d_Gr_nameEnd_7 rfl (lv_at hl 2 rfl) ?_
        refine hx_calli (iv_Gr_26_Rw cx (c_Rw_length l hE h) h.1 rfl hl.1 rfl (Nat.le_of_ble_eq_true rfl) d_Gr_nameEnd_8 ⟨Nat.le_of_ble_eq_true rfl, Nat.le_of_ble_eq_true rfl⟩ ⟨Nat.le_of_ble_eq_true rfl, Nat.le_of_ble_eq_true rfl⟩) hlo (fun _ h => h) (fun r34 H33 locs hp32 hlo => ?_)
        obtain ⟨hp32, hH9⟩ := hp32
        have hH9 := hH9.symm
        subst hH9
        subst hp32
        refine lv_icmp_ge (tgt := 65) cx.x cx.b d_Gr_nameEnd_11 (by decide) (fun c1 => ?_) (fun c1 => ?_)
        · have c1 : xs.length ≤ i := (nI_leI (a := xs.length) (b := i) (by omega) (by omega)).mp c1
          rw [drop_nil c1] at hj
          refine lv_iload_n cx.x cx.b d_Gr_nameEnd_65 rfl (lv_at hl 1 rfl) ?_
          refine lv_if_eq (tgt := 73) cx.x cx.b d_Gr_nameEnd_66 (by decide) (fun c => absurd c (by decide)) (fun _ => ?_)
          refine lv_iconst (v := (-1)) cx.x cx.b d_Gr_nameEnd_69 (by decide) ?_
          refine lv_goto (tgt := 75) cx.x cx.b d_Gr_nameEnd_70 (by decide) ?_
          rw [← hQ]
          exact hx_reti cx.x cx.b cx.r cx.k rfl hlo (fun _ h => h) (Nat.le_of_ble_eq_true rfl) (Nat.le_of_ble_eq_true rfl) d_Gr_nameEnd_75 (⟨by rw [← hj]; rfl, rfl⟩)
        · have c1 : i < xs.length := Nat.not_le.mp (fun zz => c1 ((nI_leI (a := xs.length) (b := i) (by omega) (by omega)).mpr zz))
          have b1 := hx _ (getD_mem c1)
          rw [drop_cons c1] at hj
          unfold nmE at hj
          refine lv_aload_n cx.x cx.b d_Gr_nameEnd_14 rfl (lv_at hl 2 rfl) ?_
          refine lv_iload cx.x cx.b d_Gr_nameEnd_15 (lv_at hl 0 rfl) ?_
          refine hx_calli (iv_Gr_34_Rw cx (c_Rw_at l hE h (nI i)) h.1 rfl hl.1 rfl (Nat.le_of_ble_eq_true rfl) d_Gr_nameEnd_17 ⟨Nat.le_of_ble_eq_true rfl, Nat.le_of_ble_eq_true rfl⟩ ⟨Nat.le_of_ble_eq_true rfl, Nat.le_of_ble_eq_true rfl⟩) hlo (fun _ h => h) (fun r37 H36 locs hp35 hlo => ?_)
          obtain ⟨hp35, hH9⟩ := hp35
          have hH9 := hH9.symm
          subst hH9
          subst hp35
          rw [atI_n c1 (by omega)]
          refine lv_istore (lv' := [(5, .int (nI (xs.getD i 0))), (4, .int (nI i)), (3, .int (bI true)), (0, .ref a), (1, .int (nI i0)), (2, .int (nI sep))]) cx.x cx.b d_Gr_nameEnd_20 hl (by decide) rfl (fun ls hl => ?_)
          refine lv_iload cx.x cx.b d_Gr_nameEnd_22 (lv_at hl 0 rfl) ?_
          refine hx_calli (iv_Gr_42 cx (c_Gr_isLetter l hE b1) rfl hl.1 rfl (Nat.le_of_ble_eq_true rfl) d_Gr_nameEnd_24 ⟨Nat.le_of_ble_eq_true rfl, Nat.le_of_ble_eq_true rfl⟩ ⟨Nat.le_of_ble_eq_true rfl, Nat.le_of_ble_eq_true rfl⟩) hlo (fun _ h => h) (fun r40 H39 locs hp38 hlo => ?_)
          obtain ⟨hp38, hH9⟩ := hp38
          have hH9 := hH9.symm
          subst hH9
          subst hp38
          cases hL : isLt (xs.getD i 0)
          · rw [hL] at hj
            refine lv_if_ne (tgt := 42) cx.x cx.b d_Gr_nameEnd_27 (by decide) (fun c => absurd rfl c) (fun _ => ?_)
            rw [if_neg (by simp), if_neg (by simp), if_pos rfl] at hj
            refine lv_iload_n cx.x cx.b d_Gr_nameEnd_30 rfl (lv_at hl 2 rfl) ?_
            refine lv_if_ne (tgt := 47) cx.x cx.b d_Gr_nameEnd_31 (by decide) (fun _ => ?_) (fun c => absurd c (by decide))
            refine lv_iload_n cx.x cx.b d_Gr_nameEnd_47 rfl (lv_at hl 2 rfl) ?_
            refine lv_if_ne (tgt := 65) cx.x cx.b d_Gr_nameEnd_48 (by decide) (fun _ => ?_) (fun c => absurd c (by decide))
            refine lv_iload_n cx.x cx.b d_Gr_nameEnd_65 rfl (lv_at hl 2 rfl) ?_
            refine lv_if_eq (tgt := 73) cx.x cx.b d_Gr_nameEnd_66 (by decide) (fun c => absurd c (by decide)) (fun _ => ?_)
            refine lv_iconst (v := (-1)) cx.x cx.b d_Gr_nameEnd_69 (by decide) ?_
            refine lv_goto (tgt := 75) cx.x cx.b d_Gr_nameEnd_70 (by decide) ?_
            rw [← hQ]
            exact hx_reti cx.x cx.b cx.r cx.k rfl hlo (fun _ h => h) (Nat.le_of_ble_eq_true rfl) (Nat.le_of_ble_eq_true rfl) d_Gr_nameEnd_75 (⟨by rw [← hj]; rfl, rfl⟩)
          · rw [hL] at hj
            rw [if_pos (by rfl)] at hj
            refine lv_if_ne (tgt := 42) cx.x cx.b d_Gr_nameEnd_27 (by decide) (fun _ => ?_) (fun c => absurd c (by decide))
            refine lv_iconst (v := 0) cx.x cx.b d_Gr_nameEnd_42 (by decide) ?_
            refine lv_istore_n (lv' := [(3, .int 0), (5, .int (nI (xs.getD i 0))), (4, .int (nI i)), (0, .ref a), (1, .int (nI i0)), (2, .int (nI sep))]) cx.x cx.b d_Gr_nameEnd_43 rfl hl (by decide) rfl (fun ls hl => ?_)
            refine lv_goto (tgt := 59) cx.x cx.b d_Gr_nameEnd_44 (by decide) ?_
            obtain ⟨x41, e_x41⟩ : ∃ y : Int32, y = nI i + 1 := ⟨_, rfl⟩
            refine lv_iinc (v := x41) (lv' := [(4, .int x41), (3, .int 0), (5, .int (nI (xs.getD i 0))), (0, .ref a), (1, .int (nI i0)), (2, .int (nI sep))]) cx.x cx.b d_Gr_nameEnd_59 hl (k := 2) rfl (by rw [e_x41]; rfl) (by decide) rfl (fun ls hl => ?_)
            refine lv_goto (tgt := 5) cx.x cx.b d_Gr_nameEnd_62 (by decide) ?_
            rw [nI_1] at e_x41
            subst e_x41
            exact ih _ (i + 1) false hlo (by omega) (by omega) hj _ (lv_sub hl [0, 1, 3, 4, 5] rfl)
  refine lv_iconst (v := 1) cx.x cx.b d_Gr_nameEnd_0 (by decide) ?_
  refine lv_istore_n (lv' := [(3, .int 1), (0, .ref a), (1, .int (nI i0)), (2, .int (nI sep))]) cx.x cx.b d_Gr_nameEnd_1 rfl hl (by decide) rfl (fun ls hl => ?_)
  refine lv_iload_n cx.x cx.b d_Gr_nameEnd_2 rfl (lv_at hl 2 rfl) ?_
  refine lv_istore (lv' := [(4, .int (nI i0)), (3, .int 1), (0, .ref a), (1, .int (nI i0)), (2, .int (nI sep))]) cx.x cx.b d_Gr_nameEnd_3 hl (by decide) rfl (fun ls hl => ?_)
  exact LP (xs.length + 1) _ i0 true hlo (by omega) hi0 rfl _ hl

set_option maxHeartbeats 4000000 in
set_option maxRecDepth 100000 in
theorem c_Gr_fieldEnd (l : Launch) {E : hE} (hE : EnvOk E) {H : Heap} {a arr cap : Nat} {xs : List Nat} {o : Bool} (h : Rw E H a arr cap xs o) {i0 : Nat} (hi0 : i0 ≤ xs.length) : Ct l E y_Gr_fieldEnd b_Gr_fieldEnd 4 (some .int) (rmA 2 0 0) [.ref a, .int (nI i0)] H (hQi (fun r H1 => r = oI (fieldE xs i0) ∧ H1 = H)) := by
  refine hx_enter hE (by decide) (Nat.le_of_ble_eq_true rfl) ?_
  intro p e s m args below meth c ls cx hnm hl
  have hl : lv_has ls 4 [(0, .ref a), (1, .int (nI i0))] := hl
  have hlo : hLo (eB E) [] := hLo.nil
  generalize hQ : MQ below _ args s _ _ _ = Q
  have hle := h.le
  have hx := h.2.2.2.2.2
  have hsk := skipB_le hi0
  have BH : ∀ (locs : List Loc), hLo (eB E) locs → ∀ ls, lv_has ls 4 [(2, .int (nI (skipB xs i0))), (0, .ref a), (1, .int (nI i0))] → W p l e (rmA 2 0 0) s m args below meth c H locs 0 0 Q (F0 m 26 ls []) := by
    intro locs hlo ls hl
    generalize hz : skipB xs i0 = z at hsk hl
    refine lv_aload_n cx.x cx.b d_Gr_fieldEnd_26 rfl (lv_at hl 1 rfl) ?_
    refine lv_iload_n cx.x cx.b d_Gr_fieldEnd_27 rfl (lv_at hl 0 rfl) ?_
    refine hx_calli (iv_Gr_34_Rw cx (c_Rw_at l hE h (nI z)) h.1 rfl hl.1 rfl (Nat.le_of_ble_eq_true rfl) d_Gr_fieldEnd_28 ⟨Nat.le_of_ble_eq_true rfl, Nat.le_of_ble_eq_true rfl⟩ ⟨Nat.le_of_ble_eq_true rfl, Nat.le_of_ble_eq_true rfl⟩) hlo (fun _ h => h) (fun r44 H43 locs hp42 hlo => ?_)
    obtain ⟨hp42, hH9⟩ := hp42
    have hH9 := hH9.symm
    subst hH9
    subst hp42
    by_cases hq : xs.length ≤ z
    · rw [atI_out hq (by omega)]
      refine hx_calli (iv_Gr_38 cx (c_Gr_isBase_none l hE) rfl hl.1 rfl (Nat.le_of_ble_eq_true rfl) d_Gr_fieldEnd_31 ⟨Nat.le_of_ble_eq_true rfl, Nat.le_of_ble_eq_true rfl⟩ ⟨Nat.le_of_ble_eq_true rfl, Nat.le_of_ble_eq_true rfl⟩) hlo (fun _ h => h) (fun r47 H46 locs hp45 hlo => ?_)
      obtain ⟨hp45, hH9⟩ := hp45
      have hH9 := hH9.symm
      subst hH9
      subst hp45
      refine lv_if_eq (tgt := 41) cx.x cx.b d_Gr_fieldEnd_34 (by decide) (fun _ => ?_) (fun c => absurd (by decide) c)
      refine lv_aload_n cx.x cx.b d_Gr_fieldEnd_41 rfl (lv_at hl 1 rfl) ?_
      refine lv_iload_n cx.x cx.b d_Gr_fieldEnd_42 rfl (lv_at hl 0 rfl) ?_
      refine hx_calli (iv_Gr_34_Rw cx (c_Rw_at l hE h (nI z)) h.1 rfl hl.1 rfl (Nat.le_of_ble_eq_true rfl) d_Gr_fieldEnd_43 ⟨Nat.le_of_ble_eq_true rfl, Nat.le_of_ble_eq_true rfl⟩ ⟨Nat.le_of_ble_eq_true rfl, Nat.le_of_ble_eq_true rfl⟩) hlo (fun _ h => h) (fun r50 H49 locs hp48 hlo => ?_)
      obtain ⟨hp48, hH9⟩ := hp48
      have hH9 := hH9.symm
      subst hH9
      subst hp48
      rw [atI_out hq (by omega)]
      refine lv_bipush (v := 76) cx.x cx.b d_Gr_fieldEnd_46 (by decide) ?_
      refine lv_icmp_eq (tgt := 53) cx.x cx.b d_Gr_fieldEnd_48 (by decide) (fun c => absurd c (by decide)) (fun _ => ?_)
      refine lv_iconst (v := (-1)) cx.x cx.b d_Gr_fieldEnd_51 (by decide) ?_
      rw [← hQ]
      exact hx_reti cx.x cx.b cx.r cx.k rfl hlo (fun _ h => h) (Nat.le_of_ble_eq_true rfl) (Nat.le_of_ble_eq_true rfl) d_Gr_fieldEnd_52 (⟨by unfold fieldE; simp only [hz]; rw [if_pos hq]; rfl, rfl⟩)
    · have hq : z < xs.length := Nat.not_le.mp hq
      have b1 := hx _ (getD_mem hq)
      rw [atI_n hq (by omega)]
      refine hx_calli (iv_Gr_38 cx (c_Gr_isBase l hE b1) rfl hl.1 rfl (Nat.le_of_ble_eq_true rfl) d_Gr_fieldEnd_31 ⟨Nat.le_of_ble_eq_true rfl, Nat.le_of_ble_eq_true rfl⟩ ⟨Nat.le_of_ble_eq_true rfl, Nat.le_of_ble_eq_true rfl⟩) hlo (fun _ h => h) (fun r53 H52 locs hp51 hlo => ?_)
      obtain ⟨hp51, hH9⟩ := hp51
      have hH9 := hH9.symm
      subst hH9
      subst hp51
      cases hB : isBs (xs.getD z 0)
      · refine lv_if_eq (tgt := 41) cx.x cx.b d_Gr_fieldEnd_34 (by decide) (fun _ => ?_) (fun c => absurd rfl c)
        refine lv_aload_n cx.x cx.b d_Gr_fieldEnd_41 rfl (lv_at hl 1 rfl) ?_
        refine lv_iload_n cx.x cx.b d_Gr_fieldEnd_42 rfl (lv_at hl 0 rfl) ?_
        refine hx_calli (iv_Gr_34_Rw cx (c_Rw_at l hE h (nI z)) h.1 rfl hl.1 rfl (Nat.le_of_ble_eq_true rfl) d_Gr_fieldEnd_43 ⟨Nat.le_of_ble_eq_true rfl, Nat.le_of_ble_eq_true rfl⟩ ⟨Nat.le_of_ble_eq_true rfl, Nat.le_of_ble_eq_true rfl⟩) hlo (fun _ h => h) (fun r57 H56 locs hp55 hlo => ?_)
        obtain ⟨hp55, hH9⟩ := hp55
        have hH9 := hH9.symm
        subst hH9
        subst hp55
        rw [atI_n hq (by omega)]
        refine lv_bipush (v := 76) cx.x cx.b d_Gr_fieldEnd_46 (by decide) ?_
        refine lv_icmp_eq (tgt := 53) cx.x cx.b d_Gr_fieldEnd_48 (by decide) (fun c2 => ?_) (fun c2 => ?_)
        · have c2 : (xs.getD z 0) = 76 := (nI_eq (a := (xs.getD z 0)) (b := 76) (by omega) (by omega)).mp c2
          refine lv_aload_n cx.x cx.b d_Gr_fieldEnd_53 rfl (lv_at hl 1 rfl) ?_
          refine lv_iload_n cx.x cx.b d_Gr_fieldEnd_54 rfl (lv_at hl 0 rfl) ?_
          refine lv_iconst (v := 1) cx.x cx.b d_Gr_fieldEnd_55 (by decide) ?_
          refine lv_iadd cx.x cx.b d_Gr_fieldEnd_56 ?_
          refine lv_topi (fun x58 e_x58 => ?_)
          refine lv_bipush (v := 47) cx.x cx.b d_Gr_fieldEnd_57 (by decide) ?_
          rw [nI_1] at e_x58
          subst e_x58
          refine hx_calli (iv_Gr_22 cx (c_Gr_nameEnd l hE h (i0 := z + 1) (sep := 47) (by omega) (by omega)) rfl hl.1 rfl (Nat.le_of_ble_eq_true rfl) d_Gr_fieldEnd_59 ⟨Nat.le_of_ble_eq_true rfl, Nat.le_of_ble_eq_true rfl⟩ ⟨Nat.le_of_ble_eq_true rfl, Nat.le_of_ble_eq_true rfl⟩) hlo (fun _ h => h) (fun r61 H60 locs hp59 hlo => ?_)
          obtain ⟨hp59, hH9⟩ := hp59
          have hH9 := hH9.symm
          subst hH9
          subst hp59
          have hfe : fieldE xs i0 = match nameE 47 xs (z + 1) with | none => none | some q => if q < xs.length ∧ xs.getD q 0 = 59 then some (q + 1) else none := by unfold fieldE; simp only [hz]; rw [if_neg (by omega), hB, if_neg (by decide), if_neg (fun q => q c2)]
          cases hN : nameE 47 xs (z + 1)
          · rw [hN] at hfe
            show W p l e _ s m args below meth c H locs _ _ Q (F0 m 62 ls [.int (-1)])
            refine lv_istore_n (lv' := [(3, .int (-1)), (2, .int (nI z)), (0, .ref a), (1, .int (nI i0))]) cx.x cx.b d_Gr_fieldEnd_62 rfl hl (by decide) rfl (fun ls hl => ?_)
            refine lv_aload_n cx.x cx.b d_Gr_fieldEnd_63 rfl (lv_at hl 2 rfl) ?_
            refine lv_iload_n cx.x cx.b d_Gr_fieldEnd_64 rfl (lv_at hl 0 rfl) ?_
            refine hx_calli (iv_Gr_34_Rw cx (c_Rw_at l hE h (-1)) h.1 rfl hl.1 rfl (Nat.le_of_ble_eq_true rfl) d_Gr_fieldEnd_65 ⟨Nat.le_of_ble_eq_true rfl, Nat.le_of_ble_eq_true rfl⟩ ⟨Nat.le_of_ble_eq_true rfl, Nat.le_of_ble_eq_true rfl⟩) hlo (fun _ h => h) (fun r64 H63 locs hp62 hlo => ?_)
            obtain ⟨hp62, hH9⟩ := hp62
            have hH9 := hH9.symm
            subst hH9
            subst hp62
            rw [show atI xs (-1) = -1 from rfl]
            refine lv_bipush (v := 59) cx.x cx.b d_Gr_fieldEnd_68 (by decide) ?_
            refine lv_icmp_ne (tgt := 79) cx.x cx.b d_Gr_fieldEnd_70 (by decide) (fun _ => ?_) (fun c => absurd c (by decide))
            refine lv_iconst (v := (-1)) cx.x cx.b d_Gr_fieldEnd_79 (by decide) ?_
            rw [← hQ]
            exact hx_reti cx.x cx.b cx.r cx.k rfl hlo (fun _ h => h) (Nat.le_of_ble_eq_true rfl) (Nat.le_of_ble_eq_true rfl) d_Gr_fieldEnd_80 (⟨by rw [hfe]; rfl, rfl⟩)
          · rename_i q
            rw [hN] at hfe
            simp only at hfe
            have hql := nameE_le (by omega) hN
            show W p l e _ s m args below meth c H locs _ _ Q (F0 m 62 ls [.int (nI q)])
            refine lv_istore_n (lv' := [(3, .int (nI q)), (2, .int (nI z)), (0, .ref a), (1, .int (nI i0))]) cx.x cx.b d_Gr_fieldEnd_62 rfl hl (by decide) rfl (fun ls hl => ?_)
            refine lv_aload_n cx.x cx.b d_Gr_fieldEnd_63 rfl (lv_at hl 2 rfl) ?_
            refine lv_iload_n cx.x cx.b d_Gr_fieldEnd_64 rfl (lv_at hl 0 rfl) ?_
            refine hx_calli (iv_Gr_34_Rw cx (c_Rw_at l hE h (nI q)) h.1 rfl hl.1 rfl (Nat.le_of_ble_eq_true rfl) d_Gr_fieldEnd_65 ⟨Nat.le_of_ble_eq_true rfl, Nat.le_of_ble_eq_true rfl⟩ ⟨Nat.le_of_ble_eq_true rfl, Nat.le_of_ble_eq_true rfl⟩) hlo (fun _ h => h) (fun r67 H66 locs hp65 hlo => ?_)
            obtain ⟨hp65, hH9⟩ := hp65
            have hH9 := hH9.symm
            subst hH9
            subst hp65
            by_cases hq2 : q < xs.length
            · have b2 := hx _ (getD_mem hq2)
              rw [atI_n hq2 (by omega)]
              refine lv_bipush (v := 59) cx.x cx.b d_Gr_fieldEnd_68 (by decide) ?_
              refine lv_icmp_ne (tgt := 79) cx.x cx.b d_Gr_fieldEnd_70 (by decide) (fun c3 => ?_) (fun c3 => ?_)
              · have c3 : (xs.getD q 0) ≠ 59 := fun zz => c3 ((nI_eq (a := (xs.getD q 0)) (b := 59) (by omega) (by omega)).mpr zz)
                refine lv_iconst (v := (-1)) cx.x cx.b d_Gr_fieldEnd_79 (by decide) ?_
                rw [← hQ]
                exact hx_reti cx.x cx.b cx.r cx.k rfl hlo (fun _ h => h) (Nat.le_of_ble_eq_true rfl) (Nat.le_of_ble_eq_true rfl) d_Gr_fieldEnd_80 (⟨by rw [hfe, if_neg (fun z => c3 z.2)]; rfl, rfl⟩)
              · have c3 : (xs.getD q 0) = 59 := (nI_eq (a := (xs.getD q 0)) (b := 59) (by omega) (by omega)).mp c3
                refine lv_iload_n cx.x cx.b d_Gr_fieldEnd_73 rfl (lv_at hl 0 rfl) ?_
                refine lv_iconst (v := 1) cx.x cx.b d_Gr_fieldEnd_74 (by decide) ?_
                refine lv_iadd cx.x cx.b d_Gr_fieldEnd_75 ?_
                refine lv_topi (fun x68 e_x68 => ?_)
                refine lv_goto (tgt := 80) cx.x cx.b d_Gr_fieldEnd_76 (by decide) ?_
                rw [nI_1] at e_x68
                rw [← hQ]
                exact hx_reti cx.x cx.b cx.r cx.k rfl hlo (fun _ h => h) (Nat.le_of_ble_eq_true rfl) (Nat.le_of_ble_eq_true rfl) d_Gr_fieldEnd_80 (⟨by rw [hfe, if_pos ⟨hq2, c3⟩, e_x68]; rfl, rfl⟩)
            · rw [atI_out (by omega) (by omega)]
              refine lv_bipush (v := 59) cx.x cx.b d_Gr_fieldEnd_68 (by decide) ?_
              refine lv_icmp_ne (tgt := 79) cx.x cx.b d_Gr_fieldEnd_70 (by decide) (fun _ => ?_) (fun c => absurd c (by decide))
              refine lv_iconst (v := (-1)) cx.x cx.b d_Gr_fieldEnd_79 (by decide) ?_
              rw [← hQ]
              exact hx_reti cx.x cx.b cx.r cx.k rfl hlo (fun _ h => h) (Nat.le_of_ble_eq_true rfl) (Nat.le_of_ble_eq_true rfl) d_Gr_fieldEnd_80 (⟨by rw [hfe, if_neg (fun z => hq2 z.1)]; rfl, rfl⟩)
        · have c2 : (xs.getD z 0) ≠ 76 := fun zz => c2 ((nI_eq (a := (xs.getD z 0)) (b := 76) (by omega) (by omega)).mpr zz)
          refine lv_iconst (v := (-1)) cx.x cx.b d_Gr_fieldEnd_51 (by decide) ?_
          rw [← hQ]
          exact hx_reti cx.x cx.b cx.r cx.k rfl hlo (fun _ h => h) (Nat.le_of_ble_eq_true rfl) (Nat.le_of_ble_eq_true rfl) d_Gr_fieldEnd_52 (⟨by unfold fieldE; simp only [hz]; rw [if_neg (by omega), hB, if_neg (by decide), if_pos c2]; rfl, rfl⟩)
      · refine lv_if_eq (tgt := 41) cx.x cx.b d_Gr_fieldEnd_34 (by decide) (fun c => absurd c (by decide)) (fun _ => ?_)
        refine lv_iload_n cx.x cx.b d_Gr_fieldEnd_37 rfl (lv_at hl 0 rfl) ?_
        refine lv_iconst (v := 1) cx.x cx.b d_Gr_fieldEnd_38 (by decide) ?_
        refine lv_iadd cx.x cx.b d_Gr_fieldEnd_39 ?_
        refine lv_topi (fun x54 e_x54 => ?_)
        rw [nI_1] at e_x54
        rw [← hQ]
        exact hx_reti cx.x cx.b cx.r cx.k rfl hlo (fun _ h => h) (Nat.le_of_ble_eq_true rfl) (Nat.le_of_ble_eq_true rfl) d_Gr_fieldEnd_40 (⟨by unfold fieldE; simp only [hz]; rw [if_neg (by omega), if_pos hB, e_x54]; rfl, rfl⟩)
  have LP : ∀ (k : Nat) (locs : List Loc) (i : Nat), hLo (eB E) locs → (xs.length - i < k) → (i ≤ xs.length) → (skB (xs.drop i) i = skipB xs i0) → ∀ ls, lv_has ls 4 [(2, .int (nI i)), (0, .ref a), (1, .int (nI i0))] → W p l e (rmA 2 0 0) s m args below meth c H locs 0 0 Q (F0 m 2 ls []) := by
    intro k
    induction k with
    | zero => intro locs i hlo hk hi hj; exact absurd hk (by omega)
    | succ k ih =>
      intro locs i hlo hk hi hj ls hl
      refine lv_iload_n cx.x cx.b d_Gr_fieldEnd_2 rfl (lv_at hl 0 rfl) ?_
      refine lv_aload_n cx.x cx.b d_Gr_fieldEnd_3 rfl (lv_at hl 1 rfl) ?_
      refine hx_calli (iv_Gr_26_Rw cx (c_Rw_length l hE h) h.1 rfl hl.1 rfl (Nat.le_of_ble_eq_true rfl) d_Gr_fieldEnd_4 ⟨Nat.le_of_ble_eq_true rfl, Nat.le_of_ble_eq_true rfl⟩ ⟨Nat.le_of_ble_eq_true rfl, Nat.le_of_ble_eq_true rfl⟩) hlo (fun _ h => h) (fun r71 H70 locs hp69 hlo => ?_)
      obtain ⟨hp69, hH9⟩ := hp69
      have hH9 := hH9.symm
      subst hH9
      subst hp69
      refine lv_icmp_ge (tgt := 26) cx.x cx.b d_Gr_fieldEnd_7 (by decide) (fun c1 => ?_) (fun c1 => ?_)
      · have c1 : xs.length ≤ i := (nI_leI (a := xs.length) (b := i) (by omega) (by omega)).mp c1
        rw [drop_nil c1] at hj
        have hj : i = skipB xs i0 := hj
        rw [hj] at hl
        exact BH _ hlo _ hl
      · have c1 : i < xs.length := Nat.not_le.mp (fun zz => c1 ((nI_leI (a := xs.length) (b := i) (by omega) (by omega)).mpr zz))
        have b1 := hx _ (getD_mem c1)
        rw [skB_step c1] at hj
        refine lv_aload_n cx.x cx.b d_Gr_fieldEnd_10 rfl (lv_at hl 1 rfl) ?_
        refine lv_iload_n cx.x cx.b d_Gr_fieldEnd_11 rfl (lv_at hl 0 rfl) ?_
        refine hx_calli (iv_Gr_34_Rw cx (c_Rw_at l hE h (nI i)) h.1 rfl hl.1 rfl (Nat.le_of_ble_eq_true rfl) d_Gr_fieldEnd_12 ⟨Nat.le_of_ble_eq_true rfl, Nat.le_of_ble_eq_true rfl⟩ ⟨Nat.le_of_ble_eq_true rfl, Nat.le_of_ble_eq_true rfl⟩) hlo (fun _ h => h) (fun r74 H73 locs hp72 hlo => ?_)
        obtain ⟨hp72, hH9⟩ := hp72
        have hH9 := hH9.symm
        subst hH9
        subst hp72
        rw [atI_n c1 (by omega)]
        refine lv_bipush (v := 91) cx.x cx.b d_Gr_fieldEnd_15 (by decide) ?_
        refine lv_icmp_ne (tgt := 26) cx.x cx.b d_Gr_fieldEnd_17 (by decide) (fun c2 => ?_) (fun c2 => ?_)
        · have c2 : (xs.getD i 0) ≠ 91 := fun zz => c2 ((nI_eq (a := (xs.getD i 0)) (b := 91) (by omega) (by omega)).mpr zz)
          rw [if_neg c2] at hj
          rw [hj] at hl
          exact BH _ hlo _ hl
        · have c2 : (xs.getD i 0) = 91 := (nI_eq (a := (xs.getD i 0)) (b := 91) (by omega) (by omega)).mp c2
          rw [if_pos c2] at hj
          obtain ⟨x75, e_x75⟩ : ∃ y : Int32, y = nI i + 1 := ⟨_, rfl⟩
          refine lv_iinc (v := x75) (lv' := [(2, .int x75), (0, .ref a), (1, .int (nI i0))]) cx.x cx.b d_Gr_fieldEnd_20 hl (k := 0) rfl (by rw [e_x75]; rfl) (by decide) rfl (fun ls hl => ?_)
          refine lv_goto (tgt := 2) cx.x cx.b d_Gr_fieldEnd_23 (by decide) ?_
          rw [nI_1] at e_x75
          subst e_x75
          exact ih _ (i + 1) hlo (by omega) (by omega) hj _ hl
  refine lv_iload_n cx.x cx.b d_Gr_fieldEnd_0 rfl (lv_at hl 1 rfl) ?_
  refine lv_istore_n (lv' := [(2, .int (nI i0)), (0, .ref a), (1, .int (nI i0))]) cx.x cx.b d_Gr_fieldEnd_1 rfl hl (by decide) rfl (fun ls hl => ?_)
  exact LP (xs.length + 1) _ i0 hlo (by omega) hi0 rfl _ hl

set_option maxHeartbeats 4000000 in
set_option maxRecDepth 100000 in
theorem c_Gr_isFieldDescriptor (l : Launch) {E : hE} (hE : EnvOk E) {H : Heap} {a arr cap : Nat} {xs : List Nat} {o : Bool} (h : Rw E H a arr cap xs o) : Ct l E y_Gr_isFieldDescriptor b_Gr_isFieldDescriptor 1 (some .boolean) (rmA 3 0 0) [.ref a] H (hQi (fun r H1 => r = bI (!o && isFD xs) ∧ H1 = H)) := by
  refine hx_enter hE (by decide) (Nat.le_of_ble_eq_true rfl) ?_
  intro p e s m args below meth c ls cx hnm hl
  have hl : lv_has ls 1 [(0, .ref a)] := hl
  have hlo : hLo (eB E) [] := hLo.nil
  have hle := h.le
  refine lv_aload_n cx.x cx.b d_Gr_isFieldDescriptor_0 rfl (lv_at hl 0 rfl) ?_
  refine hx_calli (iv_Gr_18_Rw cx (c_Rw_fits l hE h) h.1 rfl hl.1 rfl (Nat.le_of_ble_eq_true rfl) d_Gr_isFieldDescriptor_1 ⟨Nat.le_of_ble_eq_true rfl, Nat.le_of_ble_eq_true rfl⟩ ⟨Nat.le_of_ble_eq_true rfl, Nat.le_of_ble_eq_true rfl⟩) hlo (fun _ h => h) (fun r78 H77 locs hp76 hlo => ?_)
  obtain ⟨hp76, hH9⟩ := hp76
  have hH9 := hH9.symm
  subst hH9
  subst hp76
  cases o
  · refine lv_if_eq (tgt := 23) cx.x cx.b d_Gr_isFieldDescriptor_4 (by decide) (fun c => absurd c (by decide)) (fun _ => ?_)
    refine lv_aload_n cx.x cx.b d_Gr_isFieldDescriptor_7 rfl (lv_at hl 0 rfl) ?_
    refine lv_iconst (v := 0) cx.x cx.b d_Gr_isFieldDescriptor_8 (by decide) ?_
    refine hx_calli (iv_Gr_30 cx (c_Gr_fieldEnd l hE h (i0 := 0) (Nat.zero_le _)) rfl hl.1 rfl (Nat.le_of_ble_eq_true rfl) d_Gr_isFieldDescriptor_9 ⟨Nat.le_of_ble_eq_true rfl, Nat.le_of_ble_eq_true rfl⟩ ⟨Nat.le_of_ble_eq_true rfl, Nat.le_of_ble_eq_true rfl⟩) hlo (fun _ h => h) (fun r81 H80 locs hp79 hlo => ?_)
    obtain ⟨hp79, hH9⟩ := hp79
    have hH9 := hH9.symm
    subst hH9
    subst hp79
    refine lv_aload_n cx.x cx.b d_Gr_isFieldDescriptor_12 rfl (lv_at hl 0 rfl) ?_
    refine hx_calli (iv_Gr_26_Rw cx (c_Rw_length l hE h) h.1 rfl hl.1 rfl (Nat.le_of_ble_eq_true rfl) d_Gr_isFieldDescriptor_13 ⟨Nat.le_of_ble_eq_true rfl, Nat.le_of_ble_eq_true rfl⟩ ⟨Nat.le_of_ble_eq_true rfl, Nat.le_of_ble_eq_true rfl⟩) hlo (fun _ h => h) (fun r84 H83 locs hp82 hlo => ?_)
    obtain ⟨hp82, hH9⟩ := hp82
    have hH9 := hH9.symm
    subst hH9
    subst hp82
    have he := oI_eq (o := fieldE xs 0) (n := xs.length) (fun q hq => by have := (fieldE_le (Nat.zero_le _) hq).2; omega) (by omega)
    refine lv_icmp_ne (tgt := 23) cx.x cx.b d_Gr_isFieldDescriptor_16 (by decide) (fun c1 => ?_) (fun c1 => ?_)
    · refine lv_iconst (v := 0) cx.x cx.b d_Gr_isFieldDescriptor_23 (by decide) ?_
      exact hx_reti cx.x cx.b cx.r cx.k rfl hlo (fun _ h => h) (Nat.le_of_ble_eq_true rfl) (Nat.le_of_ble_eq_true rfl) d_Gr_isFieldDescriptor_24 (⟨by rw [show isFD xs = false from decide_eq_false (fun q => c1 (he.mpr q))]; rfl, rfl⟩)
    · refine lv_iconst (v := 1) cx.x cx.b d_Gr_isFieldDescriptor_19 (by decide) ?_
      refine lv_goto (tgt := 24) cx.x cx.b d_Gr_isFieldDescriptor_20 (by decide) ?_
      exact hx_reti cx.x cx.b cx.r cx.k rfl hlo (fun _ h => h) (Nat.le_of_ble_eq_true rfl) (Nat.le_of_ble_eq_true rfl) d_Gr_isFieldDescriptor_24 (⟨by rw [show isFD xs = true from decide_eq_true (he.mp c1)]; rfl, rfl⟩)
  · refine lv_if_eq (tgt := 23) cx.x cx.b d_Gr_isFieldDescriptor_4 (by decide) (fun _ => ?_) (fun c => absurd (by decide) c)
    refine lv_iconst (v := 0) cx.x cx.b d_Gr_isFieldDescriptor_23 (by decide) ?_
    exact hx_reti cx.x cx.b cx.r cx.k rfl hlo (fun _ h => h) (Nat.le_of_ble_eq_true rfl) (Nat.le_of_ble_eq_true rfl) d_Gr_isFieldDescriptor_24 (⟨rfl, rfl⟩)

set_option maxHeartbeats 4000000 in
set_option maxRecDepth 100000 in
theorem c_Gr_isMethodDescriptor (l : Launch) {E : hE} (hE : EnvOk E) {H : Heap} {a arr cap : Nat} {xs : List Nat} {o : Bool} (h : Rw E H a arr cap xs o) : Ct l E y_Gr_isMethodDescriptor b_Gr_isMethodDescriptor 3 (some .boolean) (rmA 3 0 0) [.ref a] H (hQi (fun r H1 => r = bI (!o && isMD xs) ∧ H1 = H)) := by
  refine hx_enter hE (by decide) (Nat.le_of_ble_eq_true rfl) ?_
  intro p e s m args below meth c ls cx hnm hl
  have hl : lv_has ls 3 [(0, .ref a)] := hl
  have hlo : hLo (eB E) [] := hLo.nil
  generalize hQ : MQ below _ args s _ _ _ = Q
  have hle := h.le
  have hx := h.2.2.2.2.2
  have BH : ∀ (q9 : Option Nat) (x9 : Int32) (locs : List Loc), hLo (eB E) locs → o = false → (0 < xs.length ∧ xs.getD 0 0 = 40) → mdL xs 20 (some 1) = q9 → (∀ q, q9 = some q → q ≤ xs.length) → ∀ ls, lv_has ls 3 [(1, .int (oI q9)), (2, .int x9), (0, .ref a)] → W p l e (rmA 3 0 0) s m args below meth c H locs 0 0 Q (F0 m 56 ls []) := by
    intro q9 x9 locs hlo ho h40 hmd hq9 ls hl
    have hMD : isMD xs = mdR xs q9 := by unfold isMD; rw [hmd, show decide (0 < xs.length ∧ xs.getD 0 0 = 40) = true from decide_eq_true h40]; rfl
    subst ho
    cases q9
    · have hl : lv_has ls 3 [(1, .int (-1)), (2, .int x9), (0, .ref a)] := hl
      refine lv_aload_n cx.x cx.b d_Gr_isMethodDescriptor_56 rfl (lv_at hl 2 rfl) ?_
      refine lv_iload_n cx.x cx.b d_Gr_isMethodDescriptor_57 rfl (lv_at hl 0 rfl) ?_
      refine hx_calli (iv_Gr_34_Rw cx (c_Rw_at l hE h (-1)) h.1 rfl hl.1 rfl (Nat.le_of_ble_eq_true rfl) d_Gr_isMethodDescriptor_58 ⟨Nat.le_of_ble_eq_true rfl, Nat.le_of_ble_eq_true rfl⟩ ⟨Nat.le_of_ble_eq_true rfl, Nat.le_of_ble_eq_true rfl⟩) hlo (fun _ h => h) (fun r87 H86 locs hp85 hlo => ?_)
      obtain ⟨hp85, hH9⟩ := hp85
      have hH9 := hH9.symm
      subst hH9
      subst hp85
      rw [show atI xs (-1) = -1 from rfl]
      refine lv_bipush (v := 41) cx.x cx.b d_Gr_isMethodDescriptor_61 (by decide) ?_
      refine lv_icmp_eq (tgt := 68) cx.x cx.b d_Gr_isMethodDescriptor_63 (by decide) (fun c => absurd c (by decide)) (fun _ => ?_)
      refine lv_iconst (v := 0) cx.x cx.b d_Gr_isMethodDescriptor_66 (by decide) ?_
      rw [← hQ]
      exact hx_reti cx.x cx.b cx.r cx.k rfl hlo (fun _ h => h) (Nat.le_of_ble_eq_true rfl) (Nat.le_of_ble_eq_true rfl) d_Gr_isMethodDescriptor_67 (⟨by rw [hMD]; rfl, rfl⟩)
    · rename_i q
      have hq := hq9 q rfl
      unfold mdR at hMD
      simp only at hMD
      have hl : lv_has ls 3 [(1, .int (nI q)), (2, .int x9), (0, .ref a)] := hl
      refine lv_aload_n cx.x cx.b d_Gr_isMethodDescriptor_56 rfl (lv_at hl 2 rfl) ?_
      refine lv_iload_n cx.x cx.b d_Gr_isMethodDescriptor_57 rfl (lv_at hl 0 rfl) ?_
      refine hx_calli (iv_Gr_34_Rw cx (c_Rw_at l hE h (nI q)) h.1 rfl hl.1 rfl (Nat.le_of_ble_eq_true rfl) d_Gr_isMethodDescriptor_58 ⟨Nat.le_of_ble_eq_true rfl, Nat.le_of_ble_eq_true rfl⟩ ⟨Nat.le_of_ble_eq_true rfl, Nat.le_of_ble_eq_true rfl⟩) hlo (fun _ h => h) (fun r90 H89 locs hp88 hlo => ?_)
      obtain ⟨hp88, hH9⟩ := hp88
      have hH9 := hH9.symm
      subst hH9
      subst hp88
      by_cases hq2 : q < xs.length
      · have b2 := hx _ (getD_mem hq2)
        rw [atI_n hq2 (by omega)]
        refine lv_bipush (v := 41) cx.x cx.b d_Gr_isMethodDescriptor_61 (by decide) ?_
        refine lv_icmp_eq (tgt := 68) cx.x cx.b d_Gr_isMethodDescriptor_63 (by decide) (fun c3 => ?_) (fun c3 => ?_)
        · have c3 : (xs.getD q 0) = 41 := (nI_eq (a := (xs.getD q 0)) (b := 41) (by omega) (by omega)).mp c3
          rw [if_pos ⟨hq2, c3⟩] at hMD
          refine lv_aload_n cx.x cx.b d_Gr_isMethodDescriptor_68 rfl (lv_at hl 2 rfl) ?_
          refine lv_iload_n cx.x cx.b d_Gr_isMethodDescriptor_69 rfl (lv_at hl 0 rfl) ?_
          refine lv_iconst (v := 1) cx.x cx.b d_Gr_isMethodDescriptor_70 (by decide) ?_
          refine lv_iadd cx.x cx.b d_Gr_isMethodDescriptor_71 ?_
          refine lv_topi (fun x91 e_x91 => ?_)
          rw [nI_1] at e_x91
          subst e_x91
          refine hx_calli (iv_Gr_34_Rw cx (c_Rw_at l hE h (nI (q + 1))) h.1 rfl hl.1 rfl (Nat.le_of_ble_eq_true rfl) d_Gr_isMethodDescriptor_72 ⟨Nat.le_of_ble_eq_true rfl, Nat.le_of_ble_eq_true rfl⟩ ⟨Nat.le_of_ble_eq_true rfl, Nat.le_of_ble_eq_true rfl⟩) hlo (fun _ h => h) (fun r94 H93 locs hp92 hlo => ?_)
          obtain ⟨hp92, hH9⟩ := hp92
          have hH9 := hH9.symm
          subst hH9
          subst hp92
          by_cases hq3 : q + 1 < xs.length
          · have b3 := hx _ (getD_mem hq3)
            rw [atI_n hq3 (by omega)]
            refine lv_bipush (v := 86) cx.x cx.b d_Gr_isMethodDescriptor_75 (by decide) ?_
            refine lv_icmp_ne (tgt := 86) cx.x cx.b d_Gr_isMethodDescriptor_77 (by decide) (fun c4 => ?_) (fun c4 => ?_)
            · have c4 : (xs.getD (q + 1) 0) ≠ 86 := fun zz => c4 ((nI_eq (a := (xs.getD (q + 1) 0)) (b := 86) (by omega) (by omega)).mpr zz)
              rw [if_neg (fun z => c4 z.2)] at hMD
              refine lv_aload_n cx.x cx.b d_Gr_isMethodDescriptor_86 rfl (lv_at hl 2 rfl) ?_
              refine lv_iload_n cx.x cx.b d_Gr_isMethodDescriptor_87 rfl (lv_at hl 0 rfl) ?_
              refine lv_iconst (v := 1) cx.x cx.b d_Gr_isMethodDescriptor_88 (by decide) ?_
              refine lv_iadd cx.x cx.b d_Gr_isMethodDescriptor_89 ?_
              refine lv_topi (fun x102 e_x102 => ?_)
              rw [nI_1] at e_x102
              subst e_x102
              refine hx_calli (iv_Gr_30 cx (c_Gr_fieldEnd l hE h (i0 := q + 1) (by omega)) rfl hl.1 rfl (Nat.le_of_ble_eq_true rfl) d_Gr_isMethodDescriptor_90 ⟨Nat.le_of_ble_eq_true rfl, Nat.le_of_ble_eq_true rfl⟩ ⟨Nat.le_of_ble_eq_true rfl, Nat.le_of_ble_eq_true rfl⟩) hlo (fun _ h => h) (fun r105 H104 locs hp103 hlo => ?_)
              obtain ⟨hp103, hH9⟩ := hp103
              have hH9 := hH9.symm
              subst hH9
              subst hp103
              refine lv_istore_n (lv' := [(2, .int (oI (fieldE xs (q + 1)))), (1, .int (nI q)), (0, .ref a)]) cx.x cx.b d_Gr_isMethodDescriptor_93 rfl hl (by decide) rfl (fun ls hl => ?_)
              refine lv_iload_n cx.x cx.b d_Gr_isMethodDescriptor_94 rfl (lv_at hl 0 rfl) ?_
              refine lv_aload_n cx.x cx.b d_Gr_isMethodDescriptor_95 rfl (lv_at hl 2 rfl) ?_
              refine hx_calli (iv_Gr_26_Rw cx (c_Rw_length l hE h) h.1 rfl hl.1 rfl (Nat.le_of_ble_eq_true rfl) d_Gr_isMethodDescriptor_96 ⟨Nat.le_of_ble_eq_true rfl, Nat.le_of_ble_eq_true rfl⟩ ⟨Nat.le_of_ble_eq_true rfl, Nat.le_of_ble_eq_true rfl⟩) hlo (fun _ h => h) (fun r108 H107 locs hp106 hlo => ?_)
              obtain ⟨hp106, hH9⟩ := hp106
              have hH9 := hH9.symm
              subst hH9
              subst hp106
              have he := oI_eq (o := fieldE xs (q + 1)) (n := xs.length) (fun z hz => by have := (fieldE_le (by omega) hz).2; omega) (by omega)
              refine lv_icmp_ne (tgt := 106) cx.x cx.b d_Gr_isMethodDescriptor_99 (by decide) (fun c5 => ?_) (fun c5 => ?_)
              · refine lv_iconst (v := 0) cx.x cx.b d_Gr_isMethodDescriptor_106 (by decide) ?_
                rw [← hQ]
                exact hx_reti cx.x cx.b cx.r cx.k rfl hlo (fun _ h => h) (Nat.le_of_ble_eq_true rfl) (Nat.le_of_ble_eq_true rfl) d_Gr_isMethodDescriptor_107 (⟨by rw [hMD, show decide (fieldE xs (q + 1) = some xs.length) = false from decide_eq_false (fun q => c5 (he.mpr q))]; rfl, rfl⟩)
              · refine lv_iconst (v := 1) cx.x cx.b d_Gr_isMethodDescriptor_102 (by decide) ?_
                refine lv_goto (tgt := 107) cx.x cx.b d_Gr_isMethodDescriptor_103 (by decide) ?_
                rw [← hQ]
                exact hx_reti cx.x cx.b cx.r cx.k rfl hlo (fun _ h => h) (Nat.le_of_ble_eq_true rfl) (Nat.le_of_ble_eq_true rfl) d_Gr_isMethodDescriptor_107 (⟨by rw [hMD, show decide (fieldE xs (q + 1) = some xs.length) = true from decide_eq_true (he.mp c5)]; rfl, rfl⟩)
            · have c4 : (xs.getD (q + 1) 0) = 86 := (nI_eq (a := (xs.getD (q + 1) 0)) (b := 86) (by omega) (by omega)).mp c4
              rw [if_pos ⟨hq3, c4⟩] at hMD
              refine lv_iload_n cx.x cx.b d_Gr_isMethodDescriptor_80 rfl (lv_at hl 0 rfl) ?_
              refine lv_iconst (v := 2) cx.x cx.b d_Gr_isMethodDescriptor_81 (by decide) ?_
              refine lv_iadd cx.x cx.b d_Gr_isMethodDescriptor_82 ?_
              refine lv_topi (fun x109 e_x109 => ?_)
              refine lv_goto (tgt := 93) cx.x cx.b d_Gr_isMethodDescriptor_83 (by decide) ?_
              rw [show nI q + 2 = nI (q + 2) from nI_add q 2] at e_x109
              subst e_x109
              refine lv_istore_n (lv' := [(2, .int (nI (q + 2))), (1, .int (nI q)), (0, .ref a)]) cx.x cx.b d_Gr_isMethodDescriptor_93 rfl hl (by decide) rfl (fun ls hl => ?_)
              refine lv_iload_n cx.x cx.b d_Gr_isMethodDescriptor_94 rfl (lv_at hl 0 rfl) ?_
              refine lv_aload_n cx.x cx.b d_Gr_isMethodDescriptor_95 rfl (lv_at hl 2 rfl) ?_
              refine hx_calli (iv_Gr_26_Rw cx (c_Rw_length l hE h) h.1 rfl hl.1 rfl (Nat.le_of_ble_eq_true rfl) d_Gr_isMethodDescriptor_96 ⟨Nat.le_of_ble_eq_true rfl, Nat.le_of_ble_eq_true rfl⟩ ⟨Nat.le_of_ble_eq_true rfl, Nat.le_of_ble_eq_true rfl⟩) hlo (fun _ h => h) (fun r112 H111 locs hp110 hlo => ?_)
              obtain ⟨hp110, hH9⟩ := hp110
              have hH9 := hH9.symm
              subst hH9
              subst hp110
              have he := nI_eq (a := q + 2) (b := xs.length) (by omega) (by omega)
              refine lv_icmp_ne (tgt := 106) cx.x cx.b d_Gr_isMethodDescriptor_99 (by decide) (fun c5 => ?_) (fun c5 => ?_)
              · refine lv_iconst (v := 0) cx.x cx.b d_Gr_isMethodDescriptor_106 (by decide) ?_
                rw [← hQ]
                exact hx_reti cx.x cx.b cx.r cx.k rfl hlo (fun _ h => h) (Nat.le_of_ble_eq_true rfl) (Nat.le_of_ble_eq_true rfl) d_Gr_isMethodDescriptor_107 (⟨by rw [hMD, show decide (q + 2 = xs.length) = false from decide_eq_false (fun q => c5 (he.mpr q))]; rfl, rfl⟩)
              · refine lv_iconst (v := 1) cx.x cx.b d_Gr_isMethodDescriptor_102 (by decide) ?_
                refine lv_goto (tgt := 107) cx.x cx.b d_Gr_isMethodDescriptor_103 (by decide) ?_
                rw [← hQ]
                exact hx_reti cx.x cx.b cx.r cx.k rfl hlo (fun _ h => h) (Nat.le_of_ble_eq_true rfl) (Nat.le_of_ble_eq_true rfl) d_Gr_isMethodDescriptor_107 (⟨by rw [hMD, show decide (q + 2 = xs.length) = true from decide_eq_true (he.mp c5)]; rfl, rfl⟩)
          · rw [if_neg (fun z => hq3 z.1)] at hMD
            rw [atI_out (by omega) (by omega)]
            refine lv_bipush (v := 86) cx.x cx.b d_Gr_isMethodDescriptor_75 (by decide) ?_
            refine lv_icmp_ne (tgt := 86) cx.x cx.b d_Gr_isMethodDescriptor_77 (by decide) (fun _ => ?_) (fun c => absurd c (by decide))
            refine lv_aload_n cx.x cx.b d_Gr_isMethodDescriptor_86 rfl (lv_at hl 2 rfl) ?_
            refine lv_iload_n cx.x cx.b d_Gr_isMethodDescriptor_87 rfl (lv_at hl 0 rfl) ?_
            refine lv_iconst (v := 1) cx.x cx.b d_Gr_isMethodDescriptor_88 (by decide) ?_
            refine lv_iadd cx.x cx.b d_Gr_isMethodDescriptor_89 ?_
            refine lv_topi (fun x95 e_x95 => ?_)
            rw [nI_1] at e_x95
            subst e_x95
            refine hx_calli (iv_Gr_30 cx (c_Gr_fieldEnd l hE h (i0 := q + 1) (by omega)) rfl hl.1 rfl (Nat.le_of_ble_eq_true rfl) d_Gr_isMethodDescriptor_90 ⟨Nat.le_of_ble_eq_true rfl, Nat.le_of_ble_eq_true rfl⟩ ⟨Nat.le_of_ble_eq_true rfl, Nat.le_of_ble_eq_true rfl⟩) hlo (fun _ h => h) (fun r98 H97 locs hp96 hlo => ?_)
            obtain ⟨hp96, hH9⟩ := hp96
            have hH9 := hH9.symm
            subst hH9
            subst hp96
            refine lv_istore_n (lv' := [(2, .int (oI (fieldE xs (q + 1)))), (1, .int (nI q)), (0, .ref a)]) cx.x cx.b d_Gr_isMethodDescriptor_93 rfl hl (by decide) rfl (fun ls hl => ?_)
            refine lv_iload_n cx.x cx.b d_Gr_isMethodDescriptor_94 rfl (lv_at hl 0 rfl) ?_
            refine lv_aload_n cx.x cx.b d_Gr_isMethodDescriptor_95 rfl (lv_at hl 2 rfl) ?_
            refine hx_calli (iv_Gr_26_Rw cx (c_Rw_length l hE h) h.1 rfl hl.1 rfl (Nat.le_of_ble_eq_true rfl) d_Gr_isMethodDescriptor_96 ⟨Nat.le_of_ble_eq_true rfl, Nat.le_of_ble_eq_true rfl⟩ ⟨Nat.le_of_ble_eq_true rfl, Nat.le_of_ble_eq_true rfl⟩) hlo (fun _ h => h) (fun r101 H100 locs hp99 hlo => ?_)
            obtain ⟨hp99, hH9⟩ := hp99
            have hH9 := hH9.symm
            subst hH9
            subst hp99
            have he := oI_eq (o := fieldE xs (q + 1)) (n := xs.length) (fun z hz => by have := (fieldE_le (by omega) hz).2; omega) (by omega)
            refine lv_icmp_ne (tgt := 106) cx.x cx.b d_Gr_isMethodDescriptor_99 (by decide) (fun c5 => ?_) (fun c5 => ?_)
            · refine lv_iconst (v := 0) cx.x cx.b d_Gr_isMethodDescriptor_106 (by decide) ?_
              rw [← hQ]
              exact hx_reti cx.x cx.b cx.r cx.k rfl hlo (fun _ h => h) (Nat.le_of_ble_eq_true rfl) (Nat.le_of_ble_eq_true rfl) d_Gr_isMethodDescriptor_107 (⟨by rw [hMD, show decide (fieldE xs (q + 1) = some xs.length) = false from decide_eq_false (fun q => c5 (he.mpr q))]; rfl, rfl⟩)
            · refine lv_iconst (v := 1) cx.x cx.b d_Gr_isMethodDescriptor_102 (by decide) ?_
              refine lv_goto (tgt := 107) cx.x cx.b d_Gr_isMethodDescriptor_103 (by decide) ?_
              rw [← hQ]
              exact hx_reti cx.x cx.b cx.r cx.k rfl hlo (fun _ h => h) (Nat.le_of_ble_eq_true rfl) (Nat.le_of_ble_eq_true rfl) d_Gr_isMethodDescriptor_107 (⟨by rw [hMD, show decide (fieldE xs (q + 1) = some xs.length) = true from decide_eq_true (he.mp c5)]; rfl, rfl⟩)
        · have c3 : (xs.getD q 0) ≠ 41 := fun zz => c3 ((nI_eq (a := (xs.getD q 0)) (b := 41) (by omega) (by omega)).mpr zz)
          refine lv_iconst (v := 0) cx.x cx.b d_Gr_isMethodDescriptor_66 (by decide) ?_
          rw [← hQ]
          exact hx_reti cx.x cx.b cx.r cx.k rfl hlo (fun _ h => h) (Nat.le_of_ble_eq_true rfl) (Nat.le_of_ble_eq_true rfl) d_Gr_isMethodDescriptor_67 (⟨by rw [hMD, if_neg (fun z => c3 z.2)]; rfl, rfl⟩)
      · rw [atI_out (by omega) (by omega)]
        refine lv_bipush (v := 41) cx.x cx.b d_Gr_isMethodDescriptor_61 (by decide) ?_
        refine lv_icmp_eq (tgt := 68) cx.x cx.b d_Gr_isMethodDescriptor_63 (by decide) (fun c => absurd c (by decide)) (fun _ => ?_)
        refine lv_iconst (v := 0) cx.x cx.b d_Gr_isMethodDescriptor_66 (by decide) ?_
        rw [← hQ]
        exact hx_reti cx.x cx.b cx.r cx.k rfl hlo (fun _ h => h) (Nat.le_of_ble_eq_true rfl) (Nat.le_of_ble_eq_true rfl) d_Gr_isMethodDescriptor_67 (⟨by rw [hMD, if_neg (fun z => hq2 z.1)]; rfl, rfl⟩)
  have LP : ∀ (k : Nat) (locs : List Loc) (i : Nat) (q9 : Option Nat), hLo (eB E) locs → (20 - i < k) → (i ≤ 20) → (o = false) → (0 < xs.length ∧ xs.getD 0 0 = 40) → (mdL xs (20 - i) q9 = mdL xs 20 (some 1)) → (∀ q, q9 = some q → q ≤ xs.length) → ∀ ls, lv_has ls 3 [(2, .int (nI i)), (1, .int (oI q9)), (0, .ref a)] → W p l e (rmA 3 0 0) s m args below meth c H locs 0 0 Q (F0 m 23 ls []) := by
    intro k
    induction k with
    | zero => intro locs i q9 hlo hk hi ho h40 hj hq9; exact absurd hk (by omega)
    | succ k ih =>
      intro locs i q9 hlo hk hi ho h40 hj hq9 ls hl
      refine lv_iload_n cx.x cx.b d_Gr_isMethodDescriptor_23 rfl (lv_at hl 0 rfl) ?_
      refine lv_bipush (v := 20) cx.x cx.b d_Gr_isMethodDescriptor_24 (by decide) ?_
      refine lv_icmp_ge (tgt := 56) cx.x cx.b d_Gr_isMethodDescriptor_26 (by decide) (fun c1 => ?_) (fun c1 => ?_)
      · have c1 : 20 ≤ i := (nI_leI (a := 20) (b := i) (by omega) (by omega)).mp c1
        rw [show 20 - i = 0 by omega] at hj
        exact BH q9 _ _ hlo ho h40 hj.symm hq9 _ (lv_sub hl [1, 0, 2] rfl)
      · have c1 : i < 20 := Nat.not_le.mp (fun zz => c1 ((nI_leI (a := 20) (b := i) (by omega) (by omega)).mpr zz))
        obtain ⟨n9, hn9⟩ : ∃ n9, 20 - i = n9 + 1 := ⟨19 - i, by omega⟩
        rw [hn9] at hj
        cases q9
        · have hl : lv_has ls 3 [(2, .int (nI i)), (1, .int (-1)), (0, .ref a)] := hl
          refine lv_iload_n cx.x cx.b d_Gr_isMethodDescriptor_29 rfl (lv_at hl 1 rfl) ?_
          refine lv_iconst (v := (-1)) cx.x cx.b d_Gr_isMethodDescriptor_30 (by decide) ?_
          refine lv_icmp_eq (tgt := 56) cx.x cx.b d_Gr_isMethodDescriptor_31 (by decide) (fun _ => ?_) (fun c => absurd (by decide) c)
          exact BH none _ _ hlo ho h40 hj.symm hq9 _ (lv_sub hl [1, 0, 2] rfl)
        · rename_i q
          have hq := hq9 q rfl
          have hl : lv_has ls 3 [(2, .int (nI i)), (1, .int (nI q)), (0, .ref a)] := hl
          unfold mdL at hj
          refine lv_iload_n cx.x cx.b d_Gr_isMethodDescriptor_29 rfl (lv_at hl 1 rfl) ?_
          refine lv_iconst (v := (-1)) cx.x cx.b d_Gr_isMethodDescriptor_30 (by decide) ?_
          refine lv_icmp_eq (tgt := 56) cx.x cx.b d_Gr_isMethodDescriptor_31 (by decide) (fun c => absurd c (nI_nm1 (by omega))) (fun _ => ?_)
          refine lv_aload_n cx.x cx.b d_Gr_isMethodDescriptor_34 rfl (lv_at hl 2 rfl) ?_
          refine lv_iload_n cx.x cx.b d_Gr_isMethodDescriptor_35 rfl (lv_at hl 1 rfl) ?_
          refine hx_calli (iv_Gr_34_Rw cx (c_Rw_at l hE h (nI q)) h.1 rfl hl.1 rfl (Nat.le_of_ble_eq_true rfl) d_Gr_isMethodDescriptor_36 ⟨Nat.le_of_ble_eq_true rfl, Nat.le_of_ble_eq_true rfl⟩ ⟨Nat.le_of_ble_eq_true rfl, Nat.le_of_ble_eq_true rfl⟩) hlo (fun _ h => h) (fun r115 H114 locs hp113 hlo => ?_)
          obtain ⟨hp113, hH9⟩ := hp113
          have hH9 := hH9.symm
          subst hH9
          subst hp113
          by_cases hq2 : q < xs.length
          · have b2 := hx _ (getD_mem hq2)
            rw [atI_n hq2 (by omega)]
            refine lv_bipush (v := 41) cx.x cx.b d_Gr_isMethodDescriptor_39 (by decide) ?_
            refine lv_icmp_eq (tgt := 56) cx.x cx.b d_Gr_isMethodDescriptor_41 (by decide) (fun c3 => ?_) (fun c3 => ?_)
            · have c3 : (xs.getD q 0) = 41 := (nI_eq (a := (xs.getD q 0)) (b := 41) (by omega) (by omega)).mp c3
              rw [if_pos ⟨hq2, c3⟩] at hj
              exact BH (some q) _ _ hlo ho h40 hj.symm hq9 _ (lv_sub hl [1, 0, 2] rfl)
            · have c3 : (xs.getD q 0) ≠ 41 := fun zz => c3 ((nI_eq (a := (xs.getD q 0)) (b := 41) (by omega) (by omega)).mpr zz)
              rw [if_neg (fun z => c3 z.2)] at hj
              refine lv_aload_n cx.x cx.b d_Gr_isMethodDescriptor_44 rfl (lv_at hl 2 rfl) ?_
              refine lv_iload_n cx.x cx.b d_Gr_isMethodDescriptor_45 rfl (lv_at hl 1 rfl) ?_
              refine hx_calli (iv_Gr_30 cx (c_Gr_fieldEnd l hE h (i0 := q) hq) rfl hl.1 rfl (Nat.le_of_ble_eq_true rfl) d_Gr_isMethodDescriptor_46 ⟨Nat.le_of_ble_eq_true rfl, Nat.le_of_ble_eq_true rfl⟩ ⟨Nat.le_of_ble_eq_true rfl, Nat.le_of_ble_eq_true rfl⟩) hlo (fun _ h => h) (fun r122 H121 locs hp120 hlo => ?_)
              obtain ⟨hp120, hH9⟩ := hp120
              have hH9 := hH9.symm
              subst hH9
              subst hp120
              refine lv_istore_n (lv' := [(1, .int (oI (fieldE xs q))), (2, .int (nI i)), (0, .ref a)]) cx.x cx.b d_Gr_isMethodDescriptor_49 rfl hl (by decide) rfl (fun ls hl => ?_)
              obtain ⟨x123, e_x123⟩ : ∃ y : Int32, y = nI i + 1 := ⟨_, rfl⟩
              refine lv_iinc (v := x123) (lv' := [(2, .int x123), (1, .int (oI (fieldE xs q))), (0, .ref a)]) cx.x cx.b d_Gr_isMethodDescriptor_50 hl (k := 1) rfl (by rw [e_x123]; rfl) (by decide) rfl (fun ls hl => ?_)
              refine lv_goto (tgt := 23) cx.x cx.b d_Gr_isMethodDescriptor_53 (by decide) ?_
              rw [nI_1] at e_x123
              subst e_x123
              exact ih _ (i + 1) (fieldE xs q) hlo (by omega) (by omega) ho h40 (by rw [show 20 - (i + 1) = n9 by omega]; exact hj) (fun z hz => (fieldE_le hq hz).2) _ hl
          · rw [if_neg (fun z => hq2 z.1)] at hj
            rw [atI_out (by omega) (by omega)]
            refine lv_bipush (v := 41) cx.x cx.b d_Gr_isMethodDescriptor_39 (by decide) ?_
            refine lv_icmp_eq (tgt := 56) cx.x cx.b d_Gr_isMethodDescriptor_41 (by decide) (fun c => absurd c (by decide)) (fun _ => ?_)
            refine lv_aload_n cx.x cx.b d_Gr_isMethodDescriptor_44 rfl (lv_at hl 2 rfl) ?_
            refine lv_iload_n cx.x cx.b d_Gr_isMethodDescriptor_45 rfl (lv_at hl 1 rfl) ?_
            refine hx_calli (iv_Gr_30 cx (c_Gr_fieldEnd l hE h (i0 := q) hq) rfl hl.1 rfl (Nat.le_of_ble_eq_true rfl) d_Gr_isMethodDescriptor_46 ⟨Nat.le_of_ble_eq_true rfl, Nat.le_of_ble_eq_true rfl⟩ ⟨Nat.le_of_ble_eq_true rfl, Nat.le_of_ble_eq_true rfl⟩) hlo (fun _ h => h) (fun r118 H117 locs hp116 hlo => ?_)
            obtain ⟨hp116, hH9⟩ := hp116
            have hH9 := hH9.symm
            subst hH9
            subst hp116
            refine lv_istore_n (lv' := [(1, .int (oI (fieldE xs q))), (2, .int (nI i)), (0, .ref a)]) cx.x cx.b d_Gr_isMethodDescriptor_49 rfl hl (by decide) rfl (fun ls hl => ?_)
            obtain ⟨x119, e_x119⟩ : ∃ y : Int32, y = nI i + 1 := ⟨_, rfl⟩
            refine lv_iinc (v := x119) (lv' := [(2, .int x119), (1, .int (oI (fieldE xs q))), (0, .ref a)]) cx.x cx.b d_Gr_isMethodDescriptor_50 hl (k := 1) rfl (by rw [e_x119]; rfl) (by decide) rfl (fun ls hl => ?_)
            refine lv_goto (tgt := 23) cx.x cx.b d_Gr_isMethodDescriptor_53 (by decide) ?_
            rw [nI_1] at e_x119
            subst e_x119
            exact ih _ (i + 1) (fieldE xs q) hlo (by omega) (by omega) ho h40 (by rw [show 20 - (i + 1) = n9 by omega]; exact hj) (fun z hz => (fieldE_le hq hz).2) _ hl
  refine lv_aload_n cx.x cx.b d_Gr_isMethodDescriptor_0 rfl (lv_at hl 0 rfl) ?_
  refine hx_calli (iv_Gr_18_Rw cx (c_Rw_fits l hE h) h.1 rfl hl.1 rfl (Nat.le_of_ble_eq_true rfl) d_Gr_isMethodDescriptor_1 ⟨Nat.le_of_ble_eq_true rfl, Nat.le_of_ble_eq_true rfl⟩ ⟨Nat.le_of_ble_eq_true rfl, Nat.le_of_ble_eq_true rfl⟩) hlo (fun _ h => h) (fun r126 H125 locs hp124 hlo => ?_)
  obtain ⟨hp124, hH9⟩ := hp124
  have hH9 := hH9.symm
  subst hH9
  subst hp124
  have hno : ¬ (0 < xs.length ∧ xs.getD 0 0 = 40) → isMD xs = false := fun z => by unfold isMD; rw [show decide (0 < xs.length ∧ xs.getD 0 0 = 40) = false from decide_eq_false z]; rfl
  cases o
  · refine lv_if_eq (tgt := 17) cx.x cx.b d_Gr_isMethodDescriptor_4 (by decide) (fun c => absurd c (by decide)) (fun _ => ?_)
    refine lv_aload_n cx.x cx.b d_Gr_isMethodDescriptor_7 rfl (lv_at hl 0 rfl) ?_
    refine lv_iconst (v := 0) cx.x cx.b d_Gr_isMethodDescriptor_8 (by decide) ?_
    refine hx_calli (iv_Gr_34_Rw cx (c_Rw_at l hE h 0) h.1 rfl hl.1 rfl (Nat.le_of_ble_eq_true rfl) d_Gr_isMethodDescriptor_9 ⟨Nat.le_of_ble_eq_true rfl, Nat.le_of_ble_eq_true rfl⟩ ⟨Nat.le_of_ble_eq_true rfl, Nat.le_of_ble_eq_true rfl⟩) hlo (fun _ h => h) (fun r129 H128 locs hp127 hlo => ?_)
    obtain ⟨hp127, hH9⟩ := hp127
    have hH9 := hH9.symm
    subst hH9
    subst hp127
    by_cases hq : 0 < xs.length
    · have b2 := hx _ (getD_mem hq)
      rw [show atI xs 0 = nI (xs.getD 0 0) from atI_n (i := 0) hq (by omega)]
      refine lv_bipush (v := 40) cx.x cx.b d_Gr_isMethodDescriptor_12 (by decide) ?_
      refine lv_icmp_eq (tgt := 19) cx.x cx.b d_Gr_isMethodDescriptor_14 (by decide) (fun c3 => ?_) (fun c3 => ?_)
      · have c3 : (xs.getD 0 0) = 40 := (nI_eq (a := (xs.getD 0 0)) (b := 40) (by omega) (by omega)).mp c3
        refine lv_iconst (v := 1) cx.x cx.b d_Gr_isMethodDescriptor_19 (by decide) ?_
        refine lv_istore_n (lv' := [(1, .int 1), (0, .ref a)]) cx.x cx.b d_Gr_isMethodDescriptor_20 rfl hl (by decide) rfl (fun ls hl => ?_)
        refine lv_iconst (v := 0) cx.x cx.b d_Gr_isMethodDescriptor_21 (by decide) ?_
        refine lv_istore_n (lv' := [(2, .int 0), (1, .int 1), (0, .ref a)]) cx.x cx.b d_Gr_isMethodDescriptor_22 rfl hl (by decide) rfl (fun ls hl => ?_)
        exact LP 21 _ 0 (some 1) hlo (by omega) (by omega) rfl ⟨hq, c3⟩ rfl (fun q hq9 => by cases hq9; omega) _ hl
      · have c3 : (xs.getD 0 0) ≠ 40 := fun zz => c3 ((nI_eq (a := (xs.getD 0 0)) (b := 40) (by omega) (by omega)).mpr zz)
        refine lv_iconst (v := 0) cx.x cx.b d_Gr_isMethodDescriptor_17 (by decide) ?_
        rw [← hQ]
        exact hx_reti cx.x cx.b cx.r cx.k rfl hlo (fun _ h => h) (Nat.le_of_ble_eq_true rfl) (Nat.le_of_ble_eq_true rfl) d_Gr_isMethodDescriptor_18 (⟨by rw [hno (fun z => c3 z.2)]; rfl, rfl⟩)
    · rw [show atI xs 0 = -1 from atI_out (i := 0) (by omega) (by omega)]
      refine lv_bipush (v := 40) cx.x cx.b d_Gr_isMethodDescriptor_12 (by decide) ?_
      refine lv_icmp_eq (tgt := 19) cx.x cx.b d_Gr_isMethodDescriptor_14 (by decide) (fun c => absurd c (by decide)) (fun _ => ?_)
      refine lv_iconst (v := 0) cx.x cx.b d_Gr_isMethodDescriptor_17 (by decide) ?_
      rw [← hQ]
      exact hx_reti cx.x cx.b cx.r cx.k rfl hlo (fun _ h => h) (Nat.le_of_ble_eq_true rfl) (Nat.le_of_ble_eq_true rfl) d_Gr_isMethodDescriptor_18 (⟨by rw [hno (fun z => hq z.1)]; rfl, rfl⟩)
  · refine lv_if_eq (tgt := 17) cx.x cx.b d_Gr_isMethodDescriptor_4 (by decide) (fun _ => ?_) (fun c => absurd (by decide) c)
    refine lv_iconst (v := 0) cx.x cx.b d_Gr_isMethodDescriptor_17 (by decide) ?_
    rw [← hQ]
    exact hx_reti cx.x cx.b cx.r cx.k rfl hlo (fun _ h => h) (Nat.le_of_ble_eq_true rfl) (Nat.le_of_ble_eq_true rfl) d_Gr_isMethodDescriptor_18 (⟨rfl, rfl⟩)

set_option maxHeartbeats 4000000 in
set_option maxRecDepth 100000 in
theorem c_Gr_isName_false (l : Launch) {E : hE} (hE : EnvOk E) (hS : EnvS E) {H : Heap} {a arr cap : Nat} {xs : List Nat} {o : Bool} (h : Rw E H a arr cap xs o) (hO : Old E H) {kd : Nat} (hkd : kd < 10) : Ct l E y_Gr_isName b_Gr_isName 4 (some .boolean) (rmA 5 0 0) [.ref a, .int 0, .int (nI kd)] H (hQi (fun r H1 => r = bI ((isNm false kd xs && !o) || (false && decide (kd = 1) && decide (xs = strL 14))) ∧ H1 = H)) := by
  refine hx_enter hE (by decide) (Nat.le_of_ble_eq_true rfl) ?_
  intro p e s m args below meth c ls cx hnm hl
  have hl : lv_has ls 4 [(0, .ref a), (1, .int 0), (2, .int (nI kd))] := hl
  have hlo : hLo (eB E) [] := hLo.nil
  generalize hQ : MQ below _ args s _ _ _ = Q
  have hle := h.le
  refine lv_iload_n cx.x cx.b d_Gr_isName_0 rfl (lv_at hl 1 rfl) ?_
  refine lv_if_eq (tgt := 20) cx.x cx.b d_Gr_isName_1 (by decide) (fun _ => ?_) (fun c => absurd (by decide) c)
  refine lv_iload_n cx.x cx.b d_Gr_isName_20 rfl (lv_at hl 1 rfl) ?_
  refine lv_if_eq (tgt := 28) cx.x cx.b d_Gr_isName_21 (by decide) (fun _ => ?_) (fun c => absurd (by decide) c)
  refine lv_bipush (v := 46) cx.x cx.b d_Gr_isName_28 (by decide) ?_
  refine lv_istore_n (lv' := [(3, .int 46), (0, .ref a), (1, .int 0), (2, .int (nI kd))]) cx.x cx.b d_Gr_isName_30 rfl hl (by decide) rfl (fun ls hl => ?_)
  refine lv_aload_n cx.x cx.b d_Gr_isName_31 rfl (lv_at hl 1 rfl) ?_
  refine hx_calli (iv_Gr_18_Rw cx (c_Rw_fits l hE h) h.1 rfl hl.1 rfl (Nat.le_of_ble_eq_true rfl) d_Gr_isName_32 ⟨Nat.le_of_ble_eq_true rfl, Nat.le_of_ble_eq_true rfl⟩ ⟨Nat.le_of_ble_eq_true rfl, Nat.le_of_ble_eq_true rfl⟩) hlo (fun _ h => h) (fun r132 H131 locs hp130 hlo => ?_)
  obtain ⟨hp130, hH9⟩ := hp130
  have hH9 := hH9.symm
  subst hH9
  subst hp130
  cases o
  · refine lv_if_eq (tgt := 55) cx.x cx.b d_Gr_isName_35 (by decide) (fun c => absurd c (by decide)) (fun _ => ?_)
    refine lv_aload_n cx.x cx.b d_Gr_isName_38 rfl (lv_at hl 1 rfl) ?_
    refine lv_iconst (v := 0) cx.x cx.b d_Gr_isName_39 (by decide) ?_
    refine lv_iload_n cx.x cx.b d_Gr_isName_40 rfl (lv_at hl 0 rfl) ?_
    refine hx_calli (iv_Gr_22 cx (c_Gr_nameEnd l hE h (i0 := 0) (sep := 46) (Nat.zero_le _) (by omega)) rfl hl.1 rfl (Nat.le_of_ble_eq_true rfl) d_Gr_isName_41 ⟨Nat.le_of_ble_eq_true rfl, Nat.le_of_ble_eq_true rfl⟩ ⟨Nat.le_of_ble_eq_true rfl, Nat.le_of_ble_eq_true rfl⟩) hlo (fun _ h => h) (fun r135 H134 locs hp133 hlo => ?_)
    obtain ⟨hp133, hH9⟩ := hp133
    have hH9 := hH9.symm
    subst hH9
    subst hp133
    refine lv_aload_n cx.x cx.b d_Gr_isName_44 rfl (lv_at hl 1 rfl) ?_
    refine hx_calli (iv_Gr_26_Rw cx (c_Rw_length l hE h) h.1 rfl hl.1 rfl (Nat.le_of_ble_eq_true rfl) d_Gr_isName_45 ⟨Nat.le_of_ble_eq_true rfl, Nat.le_of_ble_eq_true rfl⟩ ⟨Nat.le_of_ble_eq_true rfl, Nat.le_of_ble_eq_true rfl⟩) hlo (fun _ h => h) (fun r138 H137 locs hp136 hlo => ?_)
    obtain ⟨hp136, hH9⟩ := hp136
    have hH9 := hH9.symm
    subst hH9
    subst hp136
    have he := oI_eq (o := nameE 46 xs 0) (n := xs.length) (fun z hz => by have := nameE_le (Nat.zero_le _) hz; omega) (by omega)
    refine lv_icmp_ne (tgt := 55) cx.x cx.b d_Gr_isName_48 (by decide) (fun c5 => ?_) (fun c5 => ?_)
    · refine lv_iconst (v := 0) cx.x cx.b d_Gr_isName_55 (by decide) ?_
      rw [← hQ]
      exact hx_reti cx.x cx.b cx.r cx.k rfl hlo (fun _ h => h) (Nat.le_of_ble_eq_true rfl) (Nat.le_of_ble_eq_true rfl) d_Gr_isName_56 (⟨by unfold isNm; rw [Bool.false_and, Bool.false_and, show decide (nameE (if false then 0 else 46) xs 0 = some xs.length) = false from decide_eq_false (fun q => c5 (he.mpr q))]; rfl, rfl⟩)
    · refine lv_iconst (v := 1) cx.x cx.b d_Gr_isName_51 (by decide) ?_
      refine lv_goto (tgt := 56) cx.x cx.b d_Gr_isName_52 (by decide) ?_
      rw [← hQ]
      exact hx_reti cx.x cx.b cx.r cx.k rfl hlo (fun _ h => h) (Nat.le_of_ble_eq_true rfl) (Nat.le_of_ble_eq_true rfl) d_Gr_isName_56 (⟨by unfold isNm; rw [Bool.false_and, Bool.false_and, show decide (nameE (if false then 0 else 46) xs 0 = some xs.length) = true from decide_eq_true (he.mp c5)]; rfl, rfl⟩)
  · refine lv_if_eq (tgt := 55) cx.x cx.b d_Gr_isName_35 (by decide) (fun _ => ?_) (fun c => absurd (by decide) c)
    refine lv_iconst (v := 0) cx.x cx.b d_Gr_isName_55 (by decide) ?_
    rw [← hQ]
    exact hx_reti cx.x cx.b cx.r cx.k rfl hlo (fun _ h => h) (Nat.le_of_ble_eq_true rfl) (Nat.le_of_ble_eq_true rfl) d_Gr_isName_56 (⟨by unfold isNm; rw [Bool.false_and, Bool.false_and]; simp [bI], rfl⟩)

set_option maxHeartbeats 4000000 in
set_option maxRecDepth 100000 in
theorem c_Gr_isName_true (l : Launch) {E : hE} (hE : EnvOk E) (hS : EnvS E) {H : Heap} {a arr cap : Nat} {xs : List Nat} {o : Bool} (h : Rw E H a arr cap xs o) (hO : Old E H) {kd : Nat} (hkd : kd < 10) : Ct l E y_Gr_isName b_Gr_isName 4 (some .boolean) (rmA 5 0 0) [.ref a, .int 1, .int (nI kd)] H (hQi (fun r H1 => r = bI ((isNm true kd xs && !o) || (true && decide (kd = 1) && decide (xs = strL 14))) ∧ H1 = H)) := by
  refine hx_enter hE (by decide) (Nat.le_of_ble_eq_true rfl) ?_
  intro p e s m args below meth c ls cx hnm hl
  have hl : lv_has ls 4 [(0, .ref a), (1, .int 1), (2, .int (nI kd))] := hl
  have hlo : hLo (eB E) [] := hLo.nil
  generalize hQ : MQ below _ args s _ _ _ = Q
  have hle := h.le
  refine lv_iload_n cx.x cx.b d_Gr_isName_0 rfl (lv_at hl 1 rfl) ?_
  refine lv_if_eq (tgt := 20) cx.x cx.b d_Gr_isName_1 (by decide) (fun c => absurd c (by decide)) (fun _ => ?_)
  refine lv_iload_n cx.x cx.b d_Gr_isName_4 rfl (lv_at hl 2 rfl) ?_
  refine lv_iconst (v := 1) cx.x cx.b d_Gr_isName_5 (by decide) ?_
  refine lv_icmp_ne (tgt := 20) cx.x cx.b d_Gr_isName_6 (by decide) (fun c1 => ?_) (fun c1 => ?_)
  · have c1 : kd ≠ 1 := fun zz => c1 ((nI_eq (a := kd) (b := 1) (by omega) (by omega)).mpr zz)
    refine lv_iload_n cx.x cx.b d_Gr_isName_20 rfl (lv_at hl 1 rfl) ?_
    refine lv_if_eq (tgt := 28) cx.x cx.b d_Gr_isName_21 (by decide) (fun c => absurd c (by decide)) (fun _ => ?_)
    refine lv_iconst (v := 0) cx.x cx.b d_Gr_isName_24 (by decide) ?_
    refine lv_goto (tgt := 30) cx.x cx.b d_Gr_isName_25 (by decide) ?_
    refine lv_istore_n (lv' := [(3, .int 0), (0, .ref a), (1, .int 1), (2, .int (nI kd))]) cx.x cx.b d_Gr_isName_30 rfl hl (by decide) rfl (fun ls hl => ?_)
    refine lv_aload_n cx.x cx.b d_Gr_isName_31 rfl (lv_at hl 1 rfl) ?_
    refine hx_calli (iv_Gr_18_Rw cx (c_Rw_fits l hE h) h.1 rfl hl.1 rfl (Nat.le_of_ble_eq_true rfl) d_Gr_isName_32 ⟨Nat.le_of_ble_eq_true rfl, Nat.le_of_ble_eq_true rfl⟩ ⟨Nat.le_of_ble_eq_true rfl, Nat.le_of_ble_eq_true rfl⟩) hlo (fun _ h => h) (fun r141 H140 locs hp139 hlo => ?_)
    obtain ⟨hp139, hH9⟩ := hp139
    have hH9 := hH9.symm
    subst hH9
    subst hp139
    cases o
    · refine lv_if_eq (tgt := 55) cx.x cx.b d_Gr_isName_35 (by decide) (fun c => absurd c (by decide)) (fun _ => ?_)
      refine lv_aload_n cx.x cx.b d_Gr_isName_38 rfl (lv_at hl 1 rfl) ?_
      refine lv_iconst (v := 0) cx.x cx.b d_Gr_isName_39 (by decide) ?_
      refine lv_iload_n cx.x cx.b d_Gr_isName_40 rfl (lv_at hl 0 rfl) ?_
      refine hx_calli (iv_Gr_22 cx (c_Gr_nameEnd l hE h (i0 := 0) (sep := 0) (Nat.zero_le _) (by omega)) rfl hl.1 rfl (Nat.le_of_ble_eq_true rfl) d_Gr_isName_41 ⟨Nat.le_of_ble_eq_true rfl, Nat.le_of_ble_eq_true rfl⟩ ⟨Nat.le_of_ble_eq_true rfl, Nat.le_of_ble_eq_true rfl⟩) hlo (fun _ h => h) (fun r144 H143 locs hp142 hlo => ?_)
      obtain ⟨hp142, hH9⟩ := hp142
      have hH9 := hH9.symm
      subst hH9
      subst hp142
      refine lv_aload_n cx.x cx.b d_Gr_isName_44 rfl (lv_at hl 1 rfl) ?_
      refine hx_calli (iv_Gr_26_Rw cx (c_Rw_length l hE h) h.1 rfl hl.1 rfl (Nat.le_of_ble_eq_true rfl) d_Gr_isName_45 ⟨Nat.le_of_ble_eq_true rfl, Nat.le_of_ble_eq_true rfl⟩ ⟨Nat.le_of_ble_eq_true rfl, Nat.le_of_ble_eq_true rfl⟩) hlo (fun _ h => h) (fun r147 H146 locs hp145 hlo => ?_)
      obtain ⟨hp145, hH9⟩ := hp145
      have hH9 := hH9.symm
      subst hH9
      subst hp145
      have he := oI_eq (o := nameE 0 xs 0) (n := xs.length) (fun z hz => by have := nameE_le (Nat.zero_le _) hz; omega) (by omega)
      refine lv_icmp_ne (tgt := 55) cx.x cx.b d_Gr_isName_48 (by decide) (fun c5 => ?_) (fun c5 => ?_)
      · refine lv_iconst (v := 0) cx.x cx.b d_Gr_isName_55 (by decide) ?_
        rw [← hQ]
        exact hx_reti cx.x cx.b cx.r cx.k rfl hlo (fun _ h => h) (Nat.le_of_ble_eq_true rfl) (Nat.le_of_ble_eq_true rfl) d_Gr_isName_56 (⟨by unfold isNm; rw [show decide (kd = 1) = false from decide_eq_false c1, Bool.and_false, Bool.false_and, show decide (nameE (if true then 0 else 46) xs 0 = some xs.length) = false from decide_eq_false (fun q => c5 (he.mpr q))]; rfl, rfl⟩)
      · refine lv_iconst (v := 1) cx.x cx.b d_Gr_isName_51 (by decide) ?_
        refine lv_goto (tgt := 56) cx.x cx.b d_Gr_isName_52 (by decide) ?_
        rw [← hQ]
        exact hx_reti cx.x cx.b cx.r cx.k rfl hlo (fun _ h => h) (Nat.le_of_ble_eq_true rfl) (Nat.le_of_ble_eq_true rfl) d_Gr_isName_56 (⟨by unfold isNm; rw [show decide (kd = 1) = false from decide_eq_false c1, Bool.and_false, Bool.false_and, show decide (nameE (if true then 0 else 46) xs 0 = some xs.length) = true from decide_eq_true (he.mp c5)]; rfl, rfl⟩)
    · refine lv_if_eq (tgt := 55) cx.x cx.b d_Gr_isName_35 (by decide) (fun _ => ?_) (fun c => absurd (by decide) c)
      refine lv_iconst (v := 0) cx.x cx.b d_Gr_isName_55 (by decide) ?_
      rw [← hQ]
      exact hx_reti cx.x cx.b cx.r cx.k rfl hlo (fun _ h => h) (Nat.le_of_ble_eq_true rfl) (Nat.le_of_ble_eq_true rfl) d_Gr_isName_56 (⟨by unfold isNm; rw [show decide (kd = 1) = false from decide_eq_false c1, Bool.and_false, Bool.false_and]; simp [bI], rfl⟩)
  · have c1 : kd = 1 := (nI_eq (a := kd) (b := 1) (by omega) (by omega)).mp c1
    refine lv_aload_n cx.x cx.b d_Gr_isName_9 rfl (lv_at hl 0 rfl) ?_
    refine va_ldcS cx.x cx.b cx.o (cx.X.2.2.2.2.2.1 ("BaselineText$Grammar", 9, "<init>", 14) (List.mem_of_getElem? (i := 14) rfl)) d_Gr_isName_10 ?_
    refine hx_calli (iv_Gr_10_Rw cx (c_Rw_isWord l hE hS hO (i := 14) (by omega) h) h.1 rfl hl.1 rfl (Nat.le_of_ble_eq_true rfl) d_Gr_isName_12 ⟨Nat.le_of_ble_eq_true rfl, Nat.le_of_ble_eq_true rfl⟩ ⟨Nat.le_of_ble_eq_true rfl, Nat.le_of_ble_eq_true rfl⟩) hlo (fun _ h => h) (fun r150 H149 locs hp148 hlo => ?_)
    obtain ⟨hp148, hH9⟩ := hp148
    have hH9 := hH9.symm
    subst hH9
    subst hp148
    by_cases hW : xs = strL 14
    · rw [show decide (xs = strL 14) = true from decide_eq_true hW]
      refine lv_if_eq (tgt := 20) cx.x cx.b d_Gr_isName_15 (by decide) (fun c => absurd c (by decide)) (fun _ => ?_)
      refine lv_iconst (v := 1) cx.x cx.b d_Gr_isName_18 (by decide) ?_
      rw [← hQ]
      exact hx_reti cx.x cx.b cx.r cx.k rfl hlo (fun _ h => h) (Nat.le_of_ble_eq_true rfl) (Nat.le_of_ble_eq_true rfl) d_Gr_isName_19 (⟨by rw [show decide (kd = 1) = true from decide_eq_true c1, show decide (xs = strL 14) = true from decide_eq_true hW]; simp [bI], rfl⟩)
    · rw [show decide (xs = strL 14) = false from decide_eq_false hW]
      refine lv_if_eq (tgt := 20) cx.x cx.b d_Gr_isName_15 (by decide) (fun _ => ?_) (fun c => absurd (by decide) c)
      refine lv_iload_n cx.x cx.b d_Gr_isName_20 rfl (lv_at hl 1 rfl) ?_
      refine lv_if_eq (tgt := 28) cx.x cx.b d_Gr_isName_21 (by decide) (fun c => absurd c (by decide)) (fun _ => ?_)
      refine lv_iconst (v := 0) cx.x cx.b d_Gr_isName_24 (by decide) ?_
      refine lv_goto (tgt := 30) cx.x cx.b d_Gr_isName_25 (by decide) ?_
      refine lv_istore_n (lv' := [(3, .int 0), (0, .ref a), (1, .int 1), (2, .int (nI kd))]) cx.x cx.b d_Gr_isName_30 rfl hl (by decide) rfl (fun ls hl => ?_)
      refine lv_aload_n cx.x cx.b d_Gr_isName_31 rfl (lv_at hl 1 rfl) ?_
      refine hx_calli (iv_Gr_18_Rw cx (c_Rw_fits l hE h) h.1 rfl hl.1 rfl (Nat.le_of_ble_eq_true rfl) d_Gr_isName_32 ⟨Nat.le_of_ble_eq_true rfl, Nat.le_of_ble_eq_true rfl⟩ ⟨Nat.le_of_ble_eq_true rfl, Nat.le_of_ble_eq_true rfl⟩) hlo (fun _ h => h) (fun r153 H152 locs hp151 hlo => ?_)
      obtain ⟨hp151, hH9⟩ := hp151
      have hH9 := hH9.symm
      subst hH9
      subst hp151
      cases o
      · refine lv_if_eq (tgt := 55) cx.x cx.b d_Gr_isName_35 (by decide) (fun c => absurd c (by decide)) (fun _ => ?_)
        refine lv_aload_n cx.x cx.b d_Gr_isName_38 rfl (lv_at hl 1 rfl) ?_
        refine lv_iconst (v := 0) cx.x cx.b d_Gr_isName_39 (by decide) ?_
        refine lv_iload_n cx.x cx.b d_Gr_isName_40 rfl (lv_at hl 0 rfl) ?_
        refine hx_calli (iv_Gr_22 cx (c_Gr_nameEnd l hE h (i0 := 0) (sep := 0) (Nat.zero_le _) (by omega)) rfl hl.1 rfl (Nat.le_of_ble_eq_true rfl) d_Gr_isName_41 ⟨Nat.le_of_ble_eq_true rfl, Nat.le_of_ble_eq_true rfl⟩ ⟨Nat.le_of_ble_eq_true rfl, Nat.le_of_ble_eq_true rfl⟩) hlo (fun _ h => h) (fun r156 H155 locs hp154 hlo => ?_)
        obtain ⟨hp154, hH9⟩ := hp154
        have hH9 := hH9.symm
        subst hH9
        subst hp154
        refine lv_aload_n cx.x cx.b d_Gr_isName_44 rfl (lv_at hl 1 rfl) ?_
        refine hx_calli (iv_Gr_26_Rw cx (c_Rw_length l hE h) h.1 rfl hl.1 rfl (Nat.le_of_ble_eq_true rfl) d_Gr_isName_45 ⟨Nat.le_of_ble_eq_true rfl, Nat.le_of_ble_eq_true rfl⟩ ⟨Nat.le_of_ble_eq_true rfl, Nat.le_of_ble_eq_true rfl⟩) hlo (fun _ h => h) (fun r159 H158 locs hp157 hlo => ?_)
        obtain ⟨hp157, hH9⟩ := hp157
        have hH9 := hH9.symm
        subst hH9
        subst hp157
        have he := oI_eq (o := nameE 0 xs 0) (n := xs.length) (fun z hz => by have := nameE_le (Nat.zero_le _) hz; omega) (by omega)
        refine lv_icmp_ne (tgt := 55) cx.x cx.b d_Gr_isName_48 (by decide) (fun c5 => ?_) (fun c5 => ?_)
        · refine lv_iconst (v := 0) cx.x cx.b d_Gr_isName_55 (by decide) ?_
          rw [← hQ]
          exact hx_reti cx.x cx.b cx.r cx.k rfl hlo (fun _ h => h) (Nat.le_of_ble_eq_true rfl) (Nat.le_of_ble_eq_true rfl) d_Gr_isName_56 (⟨by unfold isNm; rw [show decide (xs = strL 14) = false from decide_eq_false hW, Bool.and_false, show decide (nameE (if true then 0 else 46) xs 0 = some xs.length) = false from decide_eq_false (fun q => c5 (he.mpr q))]; rfl, rfl⟩)
        · refine lv_iconst (v := 1) cx.x cx.b d_Gr_isName_51 (by decide) ?_
          refine lv_goto (tgt := 56) cx.x cx.b d_Gr_isName_52 (by decide) ?_
          rw [← hQ]
          exact hx_reti cx.x cx.b cx.r cx.k rfl hlo (fun _ h => h) (Nat.le_of_ble_eq_true rfl) (Nat.le_of_ble_eq_true rfl) d_Gr_isName_56 (⟨by unfold isNm; rw [show decide (xs = strL 14) = false from decide_eq_false hW, Bool.and_false, show decide (nameE (if true then 0 else 46) xs 0 = some xs.length) = true from decide_eq_true (he.mp c5)]; rfl, rfl⟩)
      · refine lv_if_eq (tgt := 55) cx.x cx.b d_Gr_isName_35 (by decide) (fun _ => ?_) (fun c => absurd (by decide) c)
        refine lv_iconst (v := 0) cx.x cx.b d_Gr_isName_55 (by decide) ?_
        rw [← hQ]
        exact hx_reti cx.x cx.b cx.r cx.k rfl hlo (fun _ h => h) (Nat.le_of_ble_eq_true rfl) (Nat.le_of_ble_eq_true rfl) d_Gr_isName_56 (⟨by unfold isNm; rw [show decide (xs = strL 14) = false from decide_eq_false hW, Bool.and_false]; simp [bI], rfl⟩)
