/-! WHAT IS READ: no character is 0, everything can be written -/
def nz (x : DV) : Prop := 0 ∉ x.1 ∧ 0 ∉ x.2.1
def nzU (U : List TU) : Prop := ∀ u ∈ U, nz u.1 ∧ ∀ d ∈ u.2, nz d
theorem cnF_nz {fm : Nat} {txt : List Nat} (h : 0 ∉ txt) : ∀ (n i : Nat), i + n ≤ txt.length → 0 ∉ cnF fm txt n i
  | 0, i, _ => by intro z; cases z
  | n + 1, i, hi => by
    have ih := cnF_nz (fm := fm) h n (i + 1) (by omega)
    intro z
    have z : 0 ∈ (cn fm txt i).toList ++ cnF fm txt n (i + 1) := z
    rcases List.mem_append.mp z with e | e
    · unfold cn at e
      by_cases c1 : fm = 1 ∧ txt.getD i 0 = 37 ∧ txt.getD (i + 1) 0 = 36
      · rw [if_pos c1] at e; cases e
      · rw [if_neg c1] at e
        by_cases c2 : fm = 1 ∧ txt.getD i 0 = 36 ∧ ¬ (0 < i ∧ txt.getD (i - 1) 0 = 37)
        · rw [if_pos c2] at e; revert e; decide
        · rw [if_neg c2] at e
          have e : 0 ∈ [txt.getD i 0] := e
          rw [List.mem_singleton] at e
          exact h (e ▸ getD_mem (by omega))
    · exact ih e
theorem cnR_nz {fm : Nat} {txt : List Nat} {ws we : Nat} (h : 0 ∉ txt) (h1 : ws ≤ we) (h2 : we ≤ txt.length) : 0 ∉ (cnR fm txt ws we).1 := by
  unfold cnR
  have hc := cnF_nz (fm := fm) h (we - ws) ws (by omega)
  have : ∀ (ys : List Nat) (r : List Nat × Bool), 0 ∉ ys → 0 ∉ r.1 → 0 ∉ (ys.foldl (addR 20) r).1 := by
    intro ys
    induction ys with
    | nil => intro r _ h; exact h
    | cons y ys ih =>
      intro r hy hr
      refine ih _ (fun z => hy (List.mem_cons_of_mem _ z)) ?_
      unfold addR
      by_cases c : r.1.length < 20
      · rw [if_pos c]
        intro z
        rcases List.mem_append.mp z with e | e
        · exact hr e
        · rw [List.mem_singleton] at e; exact hy (e ▸ List.mem_cons_self)
      · rw [if_neg c]; exact hr
  exact this _ _ hc (by simp)
theorem rdW_nz {mem : Bool} {fm : Nat} {txt : List Nat} {en ws we : Nat} (h0 : 0 ∉ txt) (hen : en ≤ txt.length) (hw1 : ws ≤ we) (hw2 : we ≤ en) (h : (rdW mem fm txt en ws we).1 = 0) : nz (rdW mem fm txt en ws we).2.2.2 := by
  have hl := len_take hen
  have hrk := rmk_le (mem := mem) hen (nMarks mem + 1) 0 ws we (by omega) hw1 hw2
  revert h
  unfold rdW rdW0
  generalize rmk mem txt en (nMarks mem + 1) 0 ws we = M at hrk
  by_cases c1 : M.1 = true
  · rw [if_pos c1]
    cases hk : kdH mem (wdO txt M.2.2.1 M.2.2.2) with
    | none => intro h; exact absurd (show (3 : Nat) = 0 from h) (by decide)
    | some k =>
      simp only
      unfold rdW1
      have hM := hrk.2.2.1
      generalize M.2.2.2 = we1 at hM
      have a1 := wdS_le (L := txt.take en) (i := we1) (by omega)
      have a2 := wdE_le (L := txt.take en) (i := wdS (txt.take en) we1) (by omega)
      have hnz := cnR_nz (fm := fm) h0 a2.1 (show wdE (txt.take en) (wdS (txt.take en) we1) ≤ txt.length by omega)
      generalize cnR fm txt (wdS (txt.take en) we1) (wdE (txt.take en) (wdS (txt.take en) we1)) = r at hnz
      by_cases c2 : okN mem k r = true
      · rw [if_pos c2]
        unfold rdW2
        generalize wdE (txt.take en) (wdS (txt.take en) we1) = we2 at a2
        cases mem with
        | false =>
          intro _
          exact ⟨hnz, fun hc => (by cases hc)⟩
        | true =>
          rw [if_pos rfl]
          have b1 := wdS_le (L := txt.take en) (i := we2) (by omega)
          have b2 := wdE_le (L := txt.take en) (i := wdS (txt.take en) we2) (by omega)
          have hnz2 := cnR_nz (fm := fm) h0 b2.1 (show wdE (txt.take en) (wdS (txt.take en) we2) ≤ txt.length by omega)
          generalize cnR fm txt (wdS (txt.take en) we2) (wdE (txt.take en) (wdS (txt.take en) we2)) = r2 at hnz2
          by_cases c3 : okD k r2 = true
          · rw [if_pos c3]
            intro _
            exact ⟨hnz, hnz2⟩
          · rw [if_neg c3]; intro h; exact absurd (show (5 : Nat) = 0 from h) (by decide)
      · rw [if_neg c2]; intro h; exact absurd (show (4 : Nat) = 0 from h) (by decide)
  · rw [if_neg c1]; intro h; exact absurd (show (2 : Nat) = 0 from h) (by decide)
theorem nzU.addM {U : List TU} {x : DV} (h : nzU U) (hx : nz x) : nzU (adM U x) := by
  rcases List.eq_nil_or_concat U with e | ⟨V, u, e⟩
  · subst e; exact h
  · rw [List.concat_eq_append] at e
    subst e
    rw [adM_snoc]
    intro y hy
    rcases List.mem_append.mp hy with e | e
    · exact h y (List.mem_append_left _ e)
    · rw [List.mem_singleton.mp e]
      have hu := h u (List.mem_append_right _ (List.mem_singleton.mpr rfl))
      refine ⟨hu.1, fun d hd => ?_⟩
      rcases List.mem_append.mp hd with e2 | e2
      · exact hu.2 d e2
      · rw [List.mem_singleton.mp e2]; exact hx
theorem rdLn_all {txt : List Nat} {num i j : Nat} {s : RSt} (h0 : 0 ∉ txt) (h : UInv s.2.2.2.1 ∧ nzU s.2.2.2.1) (hij : i ≤ j) (hj : j ≤ txt.length) : UInv (rdLn txt num i j s).2.2.2.1 ∧ nzU (rdLn txt num i j s).2.2.2.1 :=
  rdLn_inv (P := fun U => UInv U ∧ nzU U) h (fun fm en ws we _ he hw1 hw2 h9 k => ⟨h.1.addT k (rdW_ok h9), fun u hu => by
    rcases List.mem_append.mp hu with e | e
    · exact h.2 u e
    · rw [List.mem_singleton.mp e]; exact ⟨rdW_nz h0 (by omega) hw1 hw2 h9, fun d hd => (by cases hd)⟩⟩) (fun fm en ws we _ he hw1 hw2 h9 k => ⟨h.1.addM k (rdW_ok h9), h.2.addM (rdW_nz h0 (by omega) hw1 hw2 h9)⟩) hij hj
theorem rdLp_all {txt : List Nat} (h0 : 0 ∉ txt) : ∀ (k i st num : Nat) (s : RSt), i + k = txt.length + 1 → st ≤ i → num ≤ i → (UInv s.2.2.2.1 ∧ nzU s.2.2.2.1) → (s.1 = 1 ∨ s.1 = 2) → s.2.2.2.2.length ≤ num + pastN s.2.1 → (UInv (rdLp txt k i st num s).2.2.2.1 ∧ nzU (rdLp txt k i st num s).2.2.2.1) ∧ ((rdLp txt k i st num s).1 = 1 ∨ (rdLp txt k i st num s).1 = 2) ∧ (rdLp txt k i st num s).2.2.2.2.length ≤ txt.length + 2
  | 0, i, st, num, s, hk, hst, hn, h1, h2, h3 => by
    have hp : pastN s.2.1 ≤ 1 := by cases s.2.1 <;> decide
    exact ⟨h1, h2, by show s.2.2.2.2.length ≤ _; omega⟩
  | k + 1, i, st, num, s, hk, hst, hn, h1, h2, h3 => by
    unfold rdLp
    by_cases c : i = txt.length ∨ txt.getD i 0 = 10
    · rw [if_pos c]
      have f := rdLn_fix (txt := txt) (num := num) (i := st) (j := i) h2 h3
      exact rdLp_all h0 k (i + 1) (i + 1) (num + 1) _ (by omega) (Nat.le_refl _) (by omega) (rdLn_all h0 h1 hst (by omega)) f.1 f.2
    · rw [if_neg c]
      exact rdLp_all h0 k (i + 1) st num s (by omega) (by omega) (by omega) h1 h2 h3
theorem rdA_all {txt : List Nat} (h0 : 0 ∉ txt) : (UInv (rdA txt).2.2.2.1 ∧ nzU (rdA txt).2.2.2.1) ∧ ((rdA txt).1 = 1 ∨ (rdA txt).1 = 2) ∧ (rdA txt).2.2.2.2.length ≤ txt.length + 2 :=
  rdLp_all h0 (txt.length + 1) 0 0 0 (2, false, false, [], []) (by omega) (Nat.le_refl _) (Nat.le_refl _) ⟨UInv.nil, fun u hu => (by cases hu)⟩ (Or.inr rfl) (Nat.zero_le _)
theorem vch_ok {c : Nat} (h : vch c = true) (h0 : c ≠ 0) : okC c = true := by
  unfold vch isLt isDg at h
  unfold okC
  simp only [Bool.or_eq_true, decide_eq_true_eq] at h ⊢
  omega
theorem str_ok : ∀ i, i < 17 → ∀ c ∈ strL i, okC c = true := by decide
theorem mkW_ok (m : Bool) (mk : Nat) : ∀ n, ∀ c ∈ mkW m mk n, okC c = true
  | 0 => by intro c hc; cases hc
  | n + 1 => by
    unfold mkW
    intro c hc
    rcases List.mem_append.mp hc with e | e
    · by_cases q : mk / 2 ^ (nMarks m - (n + 1)) % 2 = 1
      · rw [if_pos q] at e
        rcases List.mem_append.mp e with e2 | e2
        · exact str_ok _ (by have := mkS_lt m (nMarks m - (n + 1)); omega) c e2
        · rw [List.mem_singleton.mp e2]; rfl
      · rw [if_neg q] at e; cases e
    · exact mkW_ok m mk n c e
theorem esc_ok {fm : Nat} {x : List Nat} (h : ∀ c ∈ x, vch c = true) (h0 : 0 ∉ x) : ∀ c ∈ escN fm x, okC c = true := by
  intro c hc
  obtain ⟨y, hy, e⟩ := List.mem_flatMap.mp hc
  unfold addN at e
  by_cases q : fm = 1 ∧ y = 36
  · rw [if_pos q] at e
    simp only [List.mem_cons, List.not_mem_nil, or_false] at e
    rcases e with e | e <;> (rw [e]; rfl)
  · rw [if_neg q] at e
    rw [List.mem_singleton.mp e]
    exact vch_ok (h y hy) (fun z => h0 (z ▸ hy))
theorem lnT_ok {fm : Nat} {x : Bool × DV} (h : OkD x.1 x.2) (h0 : nz x.2) : ∀ c ∈ lnT fm x, okC c = true := by
  obtain ⟨m, x⟩ := x
  intro c hc
  unfold lnT at hc
  simp only at hc
  rcases List.mem_append.mp hc with e | e
  · cases m
    · cases e
    · simp only [if_true, List.mem_cons, List.not_mem_nil, or_false] at e
      rcases e with e | e <;> (rw [e]; rfl)
  · rcases List.mem_append.mp e with e | e
    · exact mkW_ok _ _ _ c e
    · rcases List.mem_append.mp e with e | e
      · exact str_ok _ (by have := kdS_lt m x.2.2.1; omega) c e
      · rcases List.mem_cons.mp e with e | e
        · rw [e]; rfl
        · rcases List.mem_append.mp e with e | e
          · exact esc_ok h.1 h0.1 c e
          · cases m
            · cases e
            · rcases List.mem_cons.mp e with e | e
              · rw [e]; rfl
              · exact esc_ok h.2.1 h0.2 c e
theorem dcl_nz {C : List TU} (h : nzU C) : ∀ x ∈ dcl C, nz x.2 := by
  intro x hx
  obtain ⟨c, hc, e⟩ := List.mem_flatMap.mp hx
  rcases List.mem_cons.mp e with e | e
  · rw [e]; exact (h c hc).1
  · obtain ⟨d, hd, e⟩ := List.mem_map.mp e
    rw [← e]; exact (h c hc).2 d hd
theorem lns_ok {fm : Nat} {C : List TU} (h : UOk C) (h0 : nzU C) (hf : fm = 1 ∨ fm = 2) : ∀ x ∈ lns fm C, ∀ c ∈ x, okC c = true := by
  intro x hx c hc
  rcases List.mem_cons.mp hx with e | e
  · rw [e] at hc
    rcases List.mem_append.mp hc with e | e
    · exact str_ok 15 (by decide) c e
    · rw [List.mem_singleton.mp e]
      rcases hf with e | e <;> (rw [e]; rfl)
  · obtain ⟨y, hy, e⟩ := List.mem_map.mp e
    rw [← e] at hc
    exact lnT_ok (dcl_ok h y hy) (dcl_nz h0 y hy) c hc
theorem lns_big {fm : Nat} {C : List TU} (h : ∀ x ∈ lns fm C, ∀ c ∈ x, okC c = true) : ∀ x ∈ lns fm C, ∀ i, x.getD i 0 < 2 ^ 31 := by
  intro x hx i
  by_cases c : i < x.length
  · have := h x hx _ (getD_mem c)
    unfold okC at this
    rw [decide_eq_true_eq] at this
    omega
  · rw [List.getD_eq_getElem?_getD, List.getElem?_eq_none (by omega)]; decide
theorem Srt.all {C U : List TU} (h : Srt C U) (hI : UInv U) (h0 : nzU U) : UOk C ∧ nzU C := by
  have hm : ∀ c ∈ C, ∃ u ∈ U, srU u = c := fun c hc => List.mem_map.mp (h.1.mem_iff.mp hc)
  refine ⟨fun c hc => ?_, fun c hc => ?_⟩
  · obtain ⟨u, hu, e⟩ := hm c hc
    obtain ⟨o1, o2⟩ := hI.2.2.2 u hu
    rw [← e]
    exact ⟨o1, fun d hd => o2 d ((srtM_perm u.2).mem_iff.mp hd)⟩
  · obtain ⟨u, hu, e⟩ := hm c hc
    obtain ⟨o1, o2⟩ := h0 u hu
    rw [← e]
    exact ⟨o1, fun d hd => o2 d ((srtM_perm u.2).mem_iff.mp hd)⟩
theorem RelT.sr {us : List TV} {U : List TU} (h : RelT us U) (hI : UInv U) : Srt (us.map vwT) U := h.srt hI.2.1
theorem KOk_of {us : List TV} {U : List TU} (h : RelT us U) (hI : UInv U) (h0 : nzU U) : KOk us := by
  intro t ht
  have := ((h.sr hI).all hI h0).1 (vwT t) (List.mem_map.mpr ⟨t, ht, rfl⟩)
  refine ⟨this.1.2.2.2.2.1, fun d hd => ?_⟩
  exact (this.2 d.2.2 (List.mem_map.mpr ⟨d, hd, rfl⟩)).2.2.2.2.1
theorem form_ok {us : List TV} {U : List TU} {fm : Nat} (h : RelT us U) (hI : UInv U) (h0 : nzU U) (hf : fm = 1 ∨ fm = 2) : ∀ c ∈ formL fm us, okC c = true := by
  rw [formL_lns]
  intro c hc
  obtain ⟨x, hx, e⟩ := List.mem_flatMap.mp hc
  obtain ⟨o1, o2⟩ := (h.sr hI).all hI h0
  rcases List.mem_append.mp e with e | e
  · exact lns_ok o1 o2 hf x hx c e
  · rw [List.mem_singleton.mp e]; rfl
theorem okC_0 {txt : List Nat} (h : ∀ x ∈ txt, okC x = true) : 0 ∉ txt := fun z => by have := h 0 z; revert this; decide
