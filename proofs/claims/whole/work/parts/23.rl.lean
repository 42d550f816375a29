/-! WHAT IS READ: types in the order of reading, each with its members in the order of reading -/
theorem cmpL_swap : ∀ (a b : List Nat), cmpL a b = - cmpL b a
  | [], b => by rw [cmpL_nil, cmpL_nil2]
  | x :: a, [] => by rw [cmpL_nil, cmpL_nil2]; omega
  | x :: a, y :: b => by
    show (if x = y then cmpL a b else (x : Int) - y) = - (if y = x then cmpL b a else (y : Int) - x)
    by_cases c : x = y
    · rw [if_pos c, if_pos c.symm]; exact cmpL_swap a b
    · rw [if_neg c, if_neg (fun z => c z.symm)]; omega
theorem cmpL_zero : ∀ {a b : List Nat}, cmpL a b = 0 ↔ a = b
  | [], b => by rw [cmpL_nil]; cases b with
    | nil => simp
    | cons y b => rw [List.length_cons]; constructor; intro h; omega; intro h; cases h
  | x :: a, [] => by rw [cmpL_nil2, List.length_cons]; constructor; intro h; omega; intro h; cases h
  | x :: a, y :: b => by
    show (if x = y then cmpL a b else (x : Int) - y) = 0 ↔ _
    by_cases c : x = y
    · rw [if_pos c, cmpL_zero (a := a) (b := b), c]; simp
    · rw [if_neg c]; constructor; intro h; omega; intro h; cases h; exact absurd rfl c
theorem cmpL_trans : ∀ {a b c : List Nat}, cmpL a b < 0 → cmpL b c < 0 → cmpL a c < 0
  | a, b, [], _, h2 => by rw [cmpL_nil2] at h2; omega
  | a, [], z :: c, h1, _ => by rw [cmpL_nil2] at h1; omega
  | [], y :: b, z :: c, _, _ => by rw [cmpL_nil, List.length_cons]; omega
  | x :: a, y :: b, z :: c, h1, h2 => by
    have h1 : (if x = y then cmpL a b else (x : Int) - y) < 0 := h1
    have h2 : (if y = z then cmpL b c else (y : Int) - z) < 0 := h2
    show (if x = z then cmpL a c else (x : Int) - z) < 0
    by_cases c1 : x = y
    · rw [if_pos c1] at h1
      by_cases c2 : y = z
      · rw [if_pos c2] at h2; rw [if_pos (c1.trans c2)]; exact cmpL_trans h1 h2
      · rw [if_neg c2] at h2; rw [if_neg (by rw [c1]; exact c2)]; omega
    · rw [if_neg c1] at h1
      by_cases c2 : y = z
      · rw [if_pos c2] at h2; rw [if_neg (by rw [← c2]; exact c1)]; omega
      · rw [if_neg c2] at h2; rw [if_neg (by omega)]; omega
theorem cmpD_swap (a b : DV) : cmpD a b = - cmpD b a := by
  unfold cmpD
  rw [cmpL_swap a.1 b.1, cmpL_swap a.2.1 b.2.1]
  by_cases c : cmpL b.1 a.1 = 0
  · rw [if_neg (show ¬ (-cmpL b.1 a.1 ≠ 0) from fun z => z (by omega)), if_neg (show ¬ (cmpL b.1 a.1 ≠ 0) from fun z => z c)]
    by_cases c2 : a.2.2.1 = b.2.2.1
    · rw [if_neg (show ¬ (a.2.2.1 ≠ b.2.2.1) from fun z => z c2), if_neg (show ¬ (b.2.2.1 ≠ a.2.2.1) from fun z => z c2.symm)]
    · rw [if_pos (show a.2.2.1 ≠ b.2.2.1 from c2), if_pos (show b.2.2.1 ≠ a.2.2.1 from fun z => c2 z.symm)]; omega
  · rw [if_pos (by omega), if_pos c]
theorem cmpD_name {a b : DV} (h : cmpL a.1 b.1 ≠ 0) : cmpD a b = cmpL a.1 b.1 := by unfold cmpD; rw [if_pos h]
theorem cmpD_zero {a b : DV} : cmpD a b = 0 ↔ a.1 = b.1 ∧ a.2.2.1 = b.2.2.1 ∧ a.2.1 = b.2.1 := by
  unfold cmpD
  by_cases c : cmpL a.1 b.1 = 0
  · rw [if_neg (fun z => z c)]
    have e := cmpL_zero.mp c
    by_cases c2 : a.2.2.1 = b.2.2.1
    · rw [if_neg (fun z => z c2), cmpL_zero]; exact ⟨fun h => ⟨e, c2, h⟩, fun h => h.2.2⟩
    · rw [if_pos c2]; exact ⟨fun h => by omega, fun h => absurd h.2.1 c2⟩
  · rw [if_pos c]; exact ⟨fun h => absurd h c, fun h => absurd (cmpL_zero.mpr h.1) c⟩
theorem cmpD_lt {a b : DV} : cmpD a b < 0 ↔ cmpL a.1 b.1 < 0 ∨ (a.1 = b.1 ∧ (a.2.2.1 < b.2.2.1 ∨ (a.2.2.1 = b.2.2.1 ∧ cmpL a.2.1 b.2.1 < 0))) := by
  unfold cmpD
  by_cases c : cmpL a.1 b.1 = 0
  · rw [if_neg (fun z => z c)]
    have e := cmpL_zero.mp c
    by_cases c2 : a.2.2.1 = b.2.2.1
    · rw [if_neg (fun z => z c2)]; constructor
      · intro h; exact Or.inr ⟨e, Or.inr ⟨c2, h⟩⟩
      · intro h; rcases h with h | ⟨_, h | h⟩; omega; omega; exact h.2
    · rw [if_pos c2]; constructor
      · intro h; exact Or.inr ⟨e, Or.inl (by omega)⟩
      · intro h; rcases h with h | ⟨_, h | h⟩; omega; omega; omega
  · rw [if_pos c]; constructor
    · intro h; exact Or.inl h
    · intro h; rcases h with h | ⟨h, _⟩; exact h; exact absurd (cmpL_zero.mpr h) c
theorem cmpD_trans {a b c : DV} (h1 : cmpD a b < 0) (h2 : cmpD b c < 0) : cmpD a c < 0 := by
  rw [cmpD_lt] at h1 h2 ⊢
  rcases h1 with h1 | ⟨e1, h1⟩
  · rcases h2 with h2 | ⟨e2, h2⟩
    · exact Or.inl (cmpL_trans h1 h2)
    · rw [← e2]; exact Or.inl h1
  · rcases h2 with h2 | ⟨e2, h2⟩
    · rw [e1]; exact Or.inl h2
    · refine Or.inr ⟨e1.trans e2, ?_⟩
      rcases h1 with h1 | ⟨k1, h1⟩
      · rcases h2 with h2 | ⟨k2, h2⟩
        · exact Or.inl (by omega)
        · exact Or.inl (by omega)
      · rcases h2 with h2 | ⟨k2, h2⟩
        · exact Or.inl (by omega)
        · exact Or.inr ⟨by omega, cmpL_trans h1 h2⟩
abbrev TU : Type := DV × List DV
def vwT (t : TV) : TU := (t.1.2.2, t.2.2.1.map (·.2.2))
def plcD (x : DV) : List DV → Nat → Nat → Nat
  | [], _, p => p
  | d :: r, i, p => plcD x r (i + 1) (if cmpD d x < 0 then i + 1 else p)
def insD (ds : List DV) (d : DV) : List DV := ds.take (plcD d ds 0 0) ++ d :: ds.drop (plcD d ds 0 0)
/-- members in their order -/
def srtM (ms : List DV) : List DV := ms.foldl insD []
theorem plcD_map (x : DV) : ∀ (ds : List EL) (i p : Nat), plcD x (ds.map (·.2.2)) i p = plc x ds i p
  | [], _, _ => rfl
  | d :: r, i, p => plcD_map x r (i + 1) (if cmpD d.2.2 x < 0 then i + 1 else p)
theorem insE_map (ds : List EL) (d : EL) : (insE ds d).map (·.2.2) = insD (ds.map (·.2.2)) d.2.2 := by
  unfold insE insD
  rw [plcD_map, List.map_append, List.map_cons, List.map_take, List.map_drop]
theorem insD_perm (ds : List DV) (d : DV) : (insD ds d).Perm (d :: ds) := by
  unfold insD
  have h := List.perm_middle (a := d) (l₁ := ds.take (plcD d ds 0 0)) (l₂ := ds.drop (plcD d ds 0 0))
  rw [List.take_append_drop] at h
  exact h
theorem srtM_perm0 : ∀ (ms acc : List DV), (ms.foldl insD acc).Perm (acc ++ ms)
  | [], acc => by rw [List.append_nil]; exact List.Perm.refl _
  | x :: ms, acc => ((srtM_perm0 ms (insD acc x)).trans ((insD_perm acc x).append_right ms)).trans (by rw [List.cons_append]; exact (List.perm_middle).symm)
theorem srtM_perm (ms : List DV) : (srtM ms).Perm ms := srtM_perm0 ms []
theorem srtM_snoc (ms : List DV) (x : DV) : srtM (ms ++ [x]) = insD (srtM ms) x := by unfold srtM; rw [List.foldl_append]; rfl
theorem plcD_no {x : DV} : ∀ (ds : List DV) (i p : Nat), (∀ d ∈ ds, ¬ cmpD d x < 0) → plcD x ds i p = p
  | [], _, _, _ => rfl
  | d :: r, i, p, h => by
    unfold plcD
    rw [if_neg (h d List.mem_cons_self)]
    exact plcD_no r (i + 1) p (fun e he => h e (List.mem_cons_of_mem _ he))
theorem plcD_srt {x : DV} : ∀ (ds : List DV) (i : Nat), ds.Pairwise (fun a b => cmpD a b < 0) → ∃ k, k ≤ ds.length ∧ plcD x ds i i = i + k ∧ (∀ d ∈ ds.take k, cmpD d x < 0) ∧ ∀ d ∈ ds.drop k, ¬ cmpD d x < 0
  | [], i, _ => ⟨0, Nat.le_refl _, rfl, fun d h => by simp at h, fun d h => by simp at h⟩
  | d :: r, i, h => by
    rw [List.pairwise_cons] at h
    unfold plcD
    by_cases c : cmpD d x < 0
    · rw [if_pos c]
      obtain ⟨k, h1, h2, h3, h4⟩ := plcD_srt r (i + 1) h.2
      refine ⟨k + 1, by rw [List.length_cons]; omega, by rw [h2]; omega, fun e he => ?_, fun e he => h4 e he⟩
      rw [List.take_succ_cons] at he
      rcases List.mem_cons.mp he with e1 | e1
      · rw [e1]; exact c
      · exact h3 e e1
    · rw [if_neg c]
      have hr : ∀ e ∈ r, ¬ cmpD e x < 0 := fun e he z => c (cmpD_trans (h.1 e he) z)
      refine ⟨0, Nat.zero_le _, plcD_no r (i + 1) i hr, fun e he => by simp at he, fun e he => ?_⟩
      rcases List.mem_cons.mp he with e1 | e1
      · rw [e1]; exact c
      · exact hr e e1
theorem insD_srt {ds : List DV} {x : DV} (h : ds.Pairwise (fun a b => cmpD a b < 0)) (hx : ∀ d ∈ ds, cmpD d x ≠ 0) : (insD ds x).Pairwise (fun a b => cmpD a b < 0) := by
  obtain ⟨k, h1, h2, h3, h4⟩ := plcD_srt (x := x) ds 0 h
  rw [Nat.zero_add] at h2
  unfold insD
  rw [h2]
  have hd : ∀ e ∈ ds.drop k, cmpD x e < 0 := fun e he => by
    have a1 := h4 e he
    have a2 := hx e (List.mem_of_mem_drop he)
    rw [cmpD_swap]; omega
  rw [List.pairwise_append]
  have hs := h
  rw [← List.take_append_drop k ds, List.pairwise_append] at hs
  refine ⟨hs.1, List.pairwise_cons.mpr ⟨hd, hs.2.1⟩, fun a ha b hb => ?_⟩
  rcases List.mem_cons.mp hb with e | e
  · rw [e]; exact h3 a ha
  · exact hs.2.2 a ha b e
theorem srtM_srt0 : ∀ (ms acc : List DV), acc.Pairwise (fun a b => cmpD a b < 0) → (acc ++ ms).Pairwise (fun a b => cmpD a b ≠ 0) → (ms.foldl insD acc).Pairwise (fun a b => cmpD a b < 0)
  | [], acc, h, _ => h
  | x :: ms, acc, h, hd => by
    have hd2 := hd
    rw [List.pairwise_append] at hd2
    refine srtM_srt0 ms (insD acc x) (insD_srt h (fun d hdm => hd2.2.2 d hdm x List.mem_cons_self)) ?_
    have hp : (insD acc x ++ ms).Perm (acc ++ x :: ms) := ((insD_perm acc x).append_right ms).trans (by rw [List.cons_append]; exact (List.perm_middle).symm)
    exact hp.symm.pairwise hd (fun {a b} hab z => hab (by rw [cmpD_swap]; omega))
theorem srtM_srt {ms : List DV} (h : ms.Pairwise (fun a b => cmpD a b ≠ 0)) : (srtM ms).Pairwise (fun a b => cmpD a b < 0) := srtM_srt0 ms [] List.Pairwise.nil h
/-- what the class holds is what was read, in order -/
def RelT (us : List TV) (U : List TU) : Prop := (us.map vwT).Perm (U.map (fun u => (u.1, srtM u.2))) ∧ (us.map (fun t => t.1.2.2)).Pairwise (fun a b => cmpD a b < 0)
/-- the type that members go to is the last that was read -/
def OwR (us : List TV) (U : List TU) (ow : Option Nat) : Prop := match U.getLast? with
  | none => ow = none
  | some u => ∃ t ∈ us, ow = some (tad t) ∧ vwT t = (u.1, srtM u.2)
/-- whether a type, a member is taken; what then was read -/
def tkT (U : List TU) (x : DV) : Nat := if ∃ u ∈ U, cmpL u.1.1 x.1 = 0 then 7 else if 12 ≤ U.length then 8 else 0
def tkM (U : List TU) (x : DV) : Nat := match U.getLast? with
  | none => 9
  | some u => if ∃ d ∈ u.2, cmpD d x = 0 then 7 else if 8 ≤ u.2.length then 8 else 0
def adM (U : List TU) (x : DV) : List TU := match U.getLast? with
  | none => U
  | some u => U.dropLast ++ [(u.1, u.2 ++ [x])]
def totM (U : List TU) : Nat := (U.map (fun u => u.2.length)).sum
def cC (U : List TU) : Nat := 8 * U.length + 6 * totM U
def cN (U : List TU) : Nat := 72 * U.length + 65 * totM U
theorem RelT.len {us : List TV} {U : List TU} (h : RelT us U) : us.length = U.length := by
  have := h.1.length_eq
  rw [List.length_map, List.length_map] at this
  exact this
theorem RelT.name {us : List TV} {U : List TU} (h : RelT us U) {x : List Nat} : (∃ t ∈ us, cmpL t.1.2.2.1 x = 0) ↔ ∃ u ∈ U, cmpL u.1.1 x = 0 := by
  constructor
  · rintro ⟨t, ht, e⟩
    have := h.1.mem_iff.mp (List.mem_map.mpr ⟨t, ht, rfl⟩)
    obtain ⟨u, hu, e2⟩ := List.mem_map.mp this
    exact ⟨u, hu, by rw [show u.1 = t.1.2.2 from congrArg Prod.fst e2]; exact e⟩
  · rintro ⟨u, hu, e⟩
    have := h.1.mem_iff.mpr (List.mem_map.mpr ⟨u, hu, rfl⟩)
    obtain ⟨t, ht, e2⟩ := List.mem_map.mp this
    exact ⟨t, ht, by rw [show t.1.2.2 = u.1 from congrArg Prod.fst e2]; exact e⟩
theorem nmd_none {x : List Nat} : ∀ {us : List TV}, nmd x us = none ↔ ¬ ∃ t ∈ us, cmpL t.1.2.2.1 x = 0
  | [] => by unfold nmd; simp
  | t :: r => by
    unfold nmd
    by_cases c : cmpL t.1.2.2.1 x = 0
    · rw [if_pos c]; constructor; intro h; cases h; intro h; exact absurd ⟨t, List.mem_cons_self, c⟩ h
    · rw [if_neg c, nmd_none (us := r)]
      constructor
      · rintro h ⟨s, hs, e⟩
        rcases List.mem_cons.mp hs with e1 | e1
        · rw [e1] at e; exact c e
        · exact h ⟨s, e1, e⟩
      · rintro h ⟨s, hs, e⟩
        exact h ⟨s, List.mem_cons_of_mem _ hs, e⟩
theorem alk_none {x : DV} : ∀ {ds : List EL}, alk x ds = none ↔ ¬ ∃ d ∈ ds.map (·.2.2), cmpD d x = 0
  | [] => by unfold alk; simp
  | t :: r => by
    unfold alk
    by_cases c : cmpD t.2.2 x = 0
    · rw [if_pos c]; constructor; intro h; cases h; intro h; exact absurd ⟨t.2.2, by rw [List.map_cons]; exact List.mem_cons_self, c⟩ h
    · rw [if_neg c, alk_none (ds := r), List.map_cons]
      constructor
      · rintro h ⟨s, hs, e⟩
        rcases List.mem_cons.mp hs with e1 | e1
        · rw [e1] at e; exact c e
        · exact h ⟨s, e1, e⟩
      · rintro h ⟨s, hs, e⟩
        exact h ⟨s, List.mem_cons_of_mem _ hs, e⟩
theorem insT_dv (us : List TV) (t : TV) : (insT us t).map (fun t => t.1.2.2) = insD (us.map (fun t => t.1.2.2)) t.1.2.2 := by
  have h := congrArg (List.map (fun d : EL => d.2.2)) (insT_map us t)
  rw [List.map_map, insE_map, List.map_map] at h
  exact h
theorem RelT.addT {us : List TV} {U : List TU} (h : RelT us U) {t : TV} {x : DV} (h1 : t.1.2.2 = x) (h2 : t.2.2.1 = []) (hx : ¬ ∃ u ∈ U, cmpL u.1.1 x.1 = 0) : RelT (insT us t) (U ++ [(x, [])]) := by
  refine ⟨?_, ?_⟩
  · rw [List.map_append]
    have e : vwT t = (x, srtM []) := by unfold vwT; rw [h1, h2]; rfl
    refine ((insT_perm us t).map vwT).trans ?_
    rw [List.map_cons, e]
    refine (h.1.cons _).trans ?_
    exact (List.perm_append_comm (l₁ := [(x, srtM [])]) (l₂ := U.map (fun u => (u.1, srtM u.2))))
  · rw [insT_dv, h1]
    refine insD_srt h.2 (fun d hd z => ?_)
    obtain ⟨t, ht, rfl⟩ := List.mem_map.mp hd
    exact hx (h.name.mp ⟨t, ht, cmpL_zero.mpr (cmpD_zero.mp z).1⟩)
theorem RelT.addM {A B : List TV} {t t2 : TV} {V : List TU} {u : TU} {x : DV} (h : RelT (A ++ t :: B) (V ++ [u])) (hv : vwT t = (u.1, srtM u.2)) (h1 : t2.1 = t.1) (h2 : t2.2.2.1.map (·.2.2) = insD (t.2.2.1.map (·.2.2)) x) : RelT (A ++ t2 :: B) (V ++ [(u.1, u.2 ++ [x])]) := by
  refine ⟨?_, ?_⟩
  · have hp := h.1
    rw [List.map_append, List.map_append, List.map_cons, List.map_cons, List.map_nil, hv] at hp
    have hq : (A.map vwT ++ B.map vwT).Perm (V.map (fun u => (u.1, srtM u.2))) := by
      have a1 := (List.perm_middle (a := (u.1, srtM u.2)) (l₁ := A.map vwT) (l₂ := B.map vwT)).symm.trans hp
      have a2 := a1.trans (List.perm_append_comm (l₁ := V.map (fun u => (u.1, srtM u.2))) (l₂ := [(u.1, srtM u.2)]))
      exact (List.perm_cons _).mp a2
    have e2 : vwT t2 = (u.1, srtM (u.2 ++ [x])) := by
      have hv2 : t.2.2.1.map (·.2.2) = srtM u.2 := congrArg Prod.snd hv
      have hv1 : t.1.2.2 = u.1 := congrArg Prod.fst hv
      unfold vwT
      rw [h1, hv1, h2, hv2, srtM_snoc]
    rw [List.map_append, List.map_append, List.map_cons, List.map_cons, List.map_nil, e2]
    refine (List.perm_middle (a := (u.1, srtM (u.2 ++ [x]))) (l₁ := A.map vwT) (l₂ := B.map vwT)).trans ?_
    refine (hq.cons _).trans ?_
    exact (List.perm_append_comm (l₁ := [(u.1, srtM (u.2 ++ [x]))]) (l₂ := V.map (fun u => (u.1, srtM u.2))))
  · have hp := h.2
    rw [List.map_append, List.map_cons] at hp ⊢
    rw [show t2.1.2.2 = t.1.2.2 by rw [h1]]
    exact hp
theorem OwR.last {us : List TV} {U : List TU} {u : TU} {ow : Option Nat} (h : OwR us (U ++ [u]) ow) : ∃ t ∈ us, ow = some (tad t) ∧ vwT t = (u.1, srtM u.2) := by
  unfold OwR at h
  rw [List.getLast?_concat] at h
  exact h
theorem OwR.mk1 {us : List TV} {U : List TU} {u : TU} {ow : Option Nat} {t : TV} (h1 : t ∈ us) (h2 : ow = some (tad t)) (h3 : vwT t = (u.1, srtM u.2)) : OwR us (U ++ [u]) ow := by
  unfold OwR
  rw [List.getLast?_concat]
  exact ⟨t, h1, h2, h3⟩
theorem totM_app (U V : List TU) : totM (U ++ V) = totM U + totM V := by unfold totM; rw [List.map_append, List.sum_append]
theorem tkM_snoc (U : List TU) (u : TU) (x : DV) : tkM (U ++ [u]) x = if ∃ d ∈ u.2, cmpD d x = 0 then 7 else if 8 ≤ u.2.length then 8 else 0 := by
  unfold tkM
  rw [List.getLast?_concat]
theorem adM_snoc (U : List TU) (u : TU) (x : DV) : adM (U ++ [u]) x = U ++ [(u.1, u.2 ++ [x])] := by
  unfold adM
  rw [List.getLast?_concat, List.dropLast_concat]
