/-! what a run of lines keeps -/
theorem rdC_inv {P : List TU → Prop} {mem : Bool} {num i ws : Nat} {V : Nat × Nat × Nat × DV} {s : RSt} (hP : P s.2.2.2.1) (hT : mem = false → V.1 = 0 → tkT s.2.2.2.1 V.2.2.2 = 0 → P (s.2.2.2.1 ++ [(V.2.2.2, [])])) (hM : mem = true → V.1 = 0 → tkM s.2.2.2.1 V.2.2.2 = 0 → P (adM s.2.2.2.1 V.2.2.2)) : P (rdC mem num i ws V s).2.2.2.1 := by
  unfold rdC
  by_cases c : (rdK mem s.2.2.2.1 V ws).1 = 0
  · rw [if_pos c]
    unfold rdK at c
    by_cases c1 : V.1 = 0
    · rw [if_pos c1] at c
      cases mem with
      | false => exact hT rfl c1 c
      | true => exact hM rfl c1 c
    · rw [if_neg c1] at c; exact absurd c c1
  · rw [if_neg c]; exact hP
theorem rdC_fix {mem : Bool} {num i ws : Nat} {V : Nat × Nat × Nat × DV} {s : RSt} : (rdC mem num i ws V s).1 = s.1 ∧ (rdC mem num i ws V s).2.1 = s.2.1 ∧ (rdC mem num i ws V s).2.2.2.2.length ≤ s.2.2.2.2.length + 1 := by
  unfold rdC
  by_cases c : (rdK mem s.2.2.2.1 V ws).1 = 0
  · rw [if_pos c]; exact ⟨rfl, rfl, by show s.2.2.2.2.length ≤ _; omega⟩
  · rw [if_neg c]; exact ⟨rfl, rfl, by show (s.2.2.2.2 ++ [_]).length ≤ _; rw [List.length_append, List.length_singleton]; exact Nat.le_refl _⟩
theorem rdB_fix {txt : List Nat} {num i en ws we : Nat} {s : RSt} : (rdB txt num i en ws we s).1 = s.1 ∧ (rdB txt num i en ws we s).2.1 = s.2.1 ∧ (rdB txt num i en ws we s).2.2.2.2.length ≤ s.2.2.2.2.length + 1 := by
  unfold rdB
  by_cases c : (decide (i < ws) && s.2.2.1) = true
  · rw [if_pos c]; exact ⟨rfl, rfl, by omega⟩
  · rw [if_neg c]; exact rdC_fix
theorem rdB_inv {P : List TU → Prop} {txt : List Nat} {num i en ws we : Nat} {s : RSt} (hP : P s.2.2.2.1) (hT : (rdW false s.1 txt en ws we).1 = 0 → tkT s.2.2.2.1 (rdW false s.1 txt en ws we).2.2.2 = 0 → P (s.2.2.2.1 ++ [((rdW false s.1 txt en ws we).2.2.2, [])])) (hM : (rdW true s.1 txt en ws we).1 = 0 → tkM s.2.2.2.1 (rdW true s.1 txt en ws we).2.2.2 = 0 → P (adM s.2.2.2.1 (rdW true s.1 txt en ws we).2.2.2)) : P (rdB txt num i en ws we s).2.2.2.1 := by
  unfold rdB
  by_cases c : (decide (i < ws) && s.2.2.1) = true
  · rw [if_pos c]; exact hP
  · rw [if_neg c]
    refine rdC_inv hP (fun e => ?_) (fun e => ?_)
    · rw [e]; exact hT
    · rw [e]; exact hM
/-- what is kept by taking a type or a member is kept by a line -/
theorem rdLn_inv {P : List TU → Prop} {txt : List Nat} {num i j : Nat} {s : RSt} (hP : P s.2.2.2.1) (hT : ∀ (fm en ws we : Nat), (fm = s.1 ∨ fm = 1 ∨ fm = 2) → en ≤ j → ws ≤ we → we ≤ en → (rdW false fm txt en ws we).1 = 0 → tkT s.2.2.2.1 (rdW false fm txt en ws we).2.2.2 = 0 → P (s.2.2.2.1 ++ [((rdW false fm txt en ws we).2.2.2, [])])) (hM : ∀ (fm en ws we : Nat), (fm = s.1 ∨ fm = 1 ∨ fm = 2) → en ≤ j → ws ≤ we → we ≤ en → (rdW true fm txt en ws we).1 = 0 → tkM s.2.2.2.1 (rdW true fm txt en ws we).2.2.2 = 0 → P (adM s.2.2.2.1 (rdW true fm txt en ws we).2.2.2)) (hij : i ≤ j) (hj : j ≤ txt.length) : P (rdLn txt num i j s).2.2.2.1 := by
  unfold rdLn rdL1
  have ht1 := trimE_le txt i j
  have hen : trimE txt i j ≤ txt.length := by omega
  have hlen := len_take hen
  have hst := ht1.2 hij
  have a1 := wdS_le (L := txt.take (trimE txt i j)) (i := i) (by omega)
  have a2 := wdE_le (L := txt.take (trimE txt i j)) (i := wdS (txt.take (trimE txt i j)) i) (by omega)
  generalize trimE txt i j = en at *
  generalize wdS (txt.take en) i = ws at *
  generalize wdE (txt.take en) ws = we at *
  by_cases c : we ≤ ws ∨ txt.getD ws 0 = 33
  · rw [if_pos c]; exact hP
  · rw [if_neg c]
    by_cases c2 : s.2.1 = true
    · rw [if_pos c2]
      exact rdB_inv hP (hT s.1 en ws we (Or.inl rfl) ht1.1 a2.1 (by omega)) (hM s.1 en ws we (Or.inl rfl) ht1.1 a2.1 (by omega))
    · rw [if_neg c2]
      unfold rdL2
      cases hf : (rdF txt en ws we).1 with
      | some f => exact hP
      | none => exact rdB_inv (s := (s.1, true, s.2.2.1, s.2.2.2.1, s.2.2.2.2 ++ [(1, num, ws - i + 1)])) hP (hT s.1 en ws we (Or.inl rfl) ht1.1 a2.1 (by omega)) (hM s.1 en ws we (Or.inl rfl) ht1.1 a2.1 (by omega))
def pastN (b : Bool) : Nat := if b then 1 else 0
theorem rdLn_fix {txt : List Nat} {num i j : Nat} {s : RSt} (hf : s.1 = 1 ∨ s.1 = 2) (hd : s.2.2.2.2.length ≤ num + pastN s.2.1) : ((rdLn txt (num + 1) i j s).1 = 1 ∨ (rdLn txt (num + 1) i j s).1 = 2) ∧ (rdLn txt (num + 1) i j s).2.2.2.2.length ≤ num + 1 + pastN (rdLn txt (num + 1) i j s).2.1 := by
  unfold rdLn rdL1
  generalize trimE txt i j = en
  generalize wdS (txt.take en) i = ws
  generalize wdE (txt.take en) ws = we
  by_cases c : we ≤ ws ∨ txt.getD ws 0 = 33
  · rw [if_pos c]; exact ⟨hf, by omega⟩
  · rw [if_neg c]
    by_cases c2 : s.2.1 = true
    · rw [if_pos c2]
      have h := rdB_fix (txt := txt) (num := num + 1) (i := i) (en := en) (ws := ws) (we := we) (s := s)
      rw [h.1, h.2.1]
      exact ⟨hf, by omega⟩
    · rw [if_neg c2]
      have c3 : s.2.1 = false := by cases h : s.2.1; rfl; exact absurd h c2
      rw [c3] at hd
      have hd : s.2.2.2.2.length ≤ num + 0 := hd
      unfold rdL2
      have hff := rdF_fm txt en ws we
      cases hq : (rdF txt en ws we).1 with
      | some f =>
        rw [hq] at hff
        refine ⟨?_, ?_⟩
        · rcases hff with e | e | e <;> cases e
          · exact Or.inl rfl
          · exact Or.inr rfl
        · show s.2.2.2.2.length ≤ num + 1 + 1
          omega
      | none =>
        have h := rdB_fix (txt := txt) (num := num + 1) (i := i) (en := en) (ws := ws) (we := we) (s := (s.1, true, s.2.2.1, s.2.2.2.1, s.2.2.2.2 ++ [(1, num + 1, ws - i + 1)]))
        show ((rdB txt (num + 1) i en ws we (s.1, true, s.2.2.1, s.2.2.2.1, s.2.2.2.2 ++ [(1, num + 1, ws - i + 1)])).1 = 1 ∨ (rdB txt (num + 1) i en ws we (s.1, true, s.2.2.1, s.2.2.2.1, s.2.2.2.2 ++ [(1, num + 1, ws - i + 1)])).1 = 2) ∧ (rdB txt (num + 1) i en ws we (s.1, true, s.2.2.1, s.2.2.2.1, s.2.2.2.2 ++ [(1, num + 1, ws - i + 1)])).2.2.2.2.length ≤ num + 1 + pastN (rdB txt (num + 1) i en ws we (s.1, true, s.2.2.1, s.2.2.2.1, s.2.2.2.2 ++ [(1, num + 1, ws - i + 1)])).2.1
        rw [h.1, h.2.1]
        refine ⟨hf, ?_⟩
        have h3 : _ ≤ (s.2.2.2.2 ++ [(1, num + 1, ws - i + 1)]).length + 1 := h.2.2
        rw [List.length_append, List.length_singleton] at h3
        show _ ≤ num + 1 + 1
        omega
/-- at most 12 types, at most 8 members each -/
def Ulen (U : List TU) : Prop := U.length ≤ 12 ∧ ∀ u ∈ U, u.2.length ≤ 8
theorem Ulen.addT {U : List TU} {x : DV} (h : Ulen U) (k : tkT U x = 0) : Ulen (U ++ [(x, [])]) := by
  refine ⟨?_, fun u hu => ?_⟩
  · rw [List.length_append, List.length_singleton]
    unfold tkT at k
    by_cases c : ∃ u ∈ U, cmpL u.1.1 x.1 = 0
    · rw [if_pos c] at k; exact absurd k (by decide)
    · rw [if_neg c] at k
      by_cases c2 : 12 ≤ U.length
      · rw [if_pos c2] at k; exact absurd k (by decide)
      · omega
  · rcases List.mem_append.mp hu with e | e
    · exact h.2 u e
    · rw [List.mem_singleton.mp e]; exact Nat.zero_le _
theorem Ulen.addM {U : List TU} {x : DV} (h : Ulen U) (k : tkM U x = 0) : Ulen (adM U x) := by
  rcases List.eq_nil_or_concat U with e | ⟨V, u, e⟩
  · subst e; exact absurd (show (9 : Nat) = 0 from k) (by decide)
  · rw [List.concat_eq_append] at e
    subst e
    rw [adM_snoc]
    rw [tkM_snoc] at k
    refine ⟨?_, fun y hy => ?_⟩
    · have := h.1
      rw [List.length_append, List.length_singleton] at this ⊢
      exact this
    · rcases List.mem_append.mp hy with e | e
      · exact h.2 y (List.mem_append_left _ e)
      · rw [List.mem_singleton.mp e]
        show (u.2 ++ [x]).length ≤ 8
        rw [List.length_append, List.length_singleton]
        by_cases c : ∃ d ∈ u.2, cmpD d x = 0
        · rw [if_pos c] at k; exact absurd k (by decide)
        · rw [if_neg c] at k
          by_cases c2 : 8 ≤ u.2.length
          · rw [if_pos c2] at k; exact absurd k (by decide)
          · omega
theorem totM_le : ∀ {U : List TU}, (∀ u ∈ U, u.2.length ≤ 8) → totM U ≤ 8 * U.length
  | [], _ => Nat.le_refl _
  | u :: U, h => by
    have h1 := totM_le (U := U) (fun v hv => h v (List.mem_cons_of_mem _ hv))
    have h2 := h u List.mem_cons_self
    show u.2.length + totM U ≤ _
    rw [List.length_cons]
    omega
theorem Ulen.cost {U : List TU} (h : Ulen U) : cC U ≤ 672 ∧ cN U ≤ 7104 := by
  have := totM_le h.2
  have := h.1
  unfold cC cN
  omega
theorem cost_mono {txt : List Nat} {num i j : Nat} {s : RSt} (hij : i ≤ j) (hj : j ≤ txt.length) : cC s.2.2.2.1 ≤ cC (rdLn txt num i j s).2.2.2.1 ∧ cN s.2.2.2.1 ≤ cN (rdLn txt num i j s).2.2.2.1 := by
  refine rdLn_inv (P := fun U => cC s.2.2.2.1 ≤ cC U ∧ cN s.2.2.2.1 ≤ cN U) ⟨Nat.le_refl _, Nat.le_refl _⟩ (fun fm en ws we _ _ _ _ _ _ => ?_) (fun fm en ws we _ _ _ _ _ k => ?_) hij hj
  · have := cost_T s.2.2.2.1 (rdW false fm txt en ws we).2.2.2
    omega
  · have := cost_M s.2.2.2.1 (rdW true fm txt en ws we).2.2.2 k
    omega
/-- all lines: i the place, st the line's start, num how many were read -/
def rdLp (txt : List Nat) : Nat → Nat → Nat → Nat → RSt → RSt
  | 0, _, _, _, s => s
  | k + 1, i, st, num, s => if i = txt.length ∨ txt.getD i 0 = 10 then rdLp txt k (i + 1) (i + 1) (num + 1) (rdLn txt (num + 1) st i s) else rdLp txt k (i + 1) st num s
def rdA (txt : List Nat) : RSt := rdLp txt (txt.length + 1) 0 0 0 (2, false, false, [], [])
theorem addR_fold {cap : Nat} : ∀ (ys : List Nat) (xs : List Nat) (o : Bool), xs.length + ys.length ≤ cap → ys.foldl (addR cap) (xs, o) = (xs ++ ys, o)
  | [], xs, o, _ => by rw [List.append_nil]; rfl
  | y :: ys, xs, o, h => by
    rw [List.length_cons] at h
    rw [List.foldl_cons]
    have e : addR cap (xs, o) y = (xs ++ [y], o) := by unfold addR; rw [if_pos (show xs.length < cap by omega)]
    rw [e, addR_fold ys (xs ++ [y]) o (by rw [List.length_append, List.length_singleton]; omega), List.append_assoc]
    rfl
theorem addR_t {cap : Nat} : ∀ (ys : List Nat) (r : List Nat × Bool), r.2 = true → (ys.foldl (addR cap) r).2 = true
  | [], r, h => h
  | y :: ys, r, h => by
    refine addR_t ys _ ?_
    unfold addR
    by_cases c : r.1.length < cap
    · rw [if_pos c]; exact h
    · rw [if_neg c]
theorem addR_over {cap : Nat} : ∀ (ys : List Nat) (xs : List Nat) (o : Bool), xs.length ≤ cap → cap < xs.length + ys.length → (ys.foldl (addR cap) (xs, o)).2 = true
  | [], xs, o, h, h2 => by rw [List.length_nil] at h2; omega
  | y :: ys, xs, o, h, h2 => by
    rw [List.length_cons] at h2
    rw [List.foldl_cons]
    by_cases c : xs.length < cap
    · have e : addR cap (xs, o) y = (xs ++ [y], o) := by unfold addR; rw [if_pos c]
      rw [e]
      exact addR_over ys (xs ++ [y]) o (by rw [List.length_append, List.length_singleton]; omega) (by rw [List.length_append, List.length_singleton]; omega)
    · have e : addR cap (xs, o) y = (xs, true) := by unfold addR; rw [if_neg c]
      rw [e]
      exact addR_t ys _ rfl
def bytD (v : Int64) : Nat → List Nat
  | 0 => []
  | m + 1 => byt v m :: bytD v m
theorem bytD_len (v : Int64) : ∀ m, (bytD v m).length = m
  | 0 => rfl
  | m + 1 => by show (bytD v m).length + 1 = _; rw [bytD_len v m]
/-- type: the answer, the text -/
def tyR (v : Int64) (n : Int32) (txt : List Nat) : Int32 × List Nat := if n.toNatClampNeg < 9 ∧ n = nI n.toNatClampNeg ∧ 1 ≤ n.toNatClampNeg ∧ txt.length + n.toNatClampNeg ≤ 480 ∧ ∀ k, k < n.toNatClampNeg → okC (byt v k) = true then (nI (txt.length + n.toNatClampNeg), txt ++ bytD v n.toNatClampNeg) else (-1, txt)
theorem tyR_ok {v : Int64} {m : Nat} {txt : List Nat} (h1 : 1 ≤ m) (h2 : m ≤ 8) (h3 : txt.length + m ≤ 480) (h4 : ∀ k, k < m → okC (byt v k) = true) : tyR v (nI m) txt = (nI (txt.length + m), txt ++ bytD v m) := by
  unfold tyR
  have e : (nI m).toNatClampNeg = m := nI_clamp (by omega)
  rw [e, if_pos ⟨by omega, rfl, h1, h3, h4⟩]
theorem tyR_no {v : Int64} {n : Int32} {txt : List Nat} (h : ∀ m : Nat, n = nI m → 1 ≤ m → m ≤ 8 → txt.length + m ≤ 480 → ¬ ∀ k, k < m → okC (byt v k) = true) : tyR v n txt = (-1, txt) := by
  unfold tyR
  rw [if_neg (fun ⟨a, b, c, d, e⟩ => h _ b c (by omega) d e)]
theorem okC_lt {x : Nat} (h : okC x = true) : x < 128 := by unfold okC at h; rw [decide_eq_true_eq] at h; omega
theorem grB_swap {E : hE} {a tr tarr fr farr dg n1 n2 n3 bl bm : Nat} {sa sb : SA} {us sp vs sq : List TV} (h : (grB E a tr tarr fr farr dg n1 n2 n3 bl bm sa sb us sp vs sq).flatten.Nodup) : (grB E a tr tarr fr farr dg n1 n2 n3 bm bl sb sa vs sq us sp).flatten.Nodup := by
  have hp : (grB E a tr tarr fr farr dg n1 n2 n3 bl bm sa sb us sp vs sq).flatten.Perm (grB E a tr tarr fr farr dg n1 n2 n3 bm bl sb sa vs sq us sp).flatten := by
    show ((a :: tr :: tarr :: fr :: farr :: dg :: n1 :: n2 :: [n3]) ++ (fpB E bl sa us sp ++ (fpB E bm sb vs sq ++ []))).Perm ((a :: tr :: tarr :: fr :: farr :: dg :: n1 :: n2 :: [n3]) ++ (fpB E bm sb vs sq ++ (fpB E bl sa us sp ++ [])))
    rw [List.append_nil, List.append_nil]
    exact List.Perm.append_left _ List.perm_append_comm
  exact hp.nodup_iff.mp h
theorem grB_mem {E : hE} {a tr tarr fr farr dg n1 n2 n3 bl bm : Nat} {sa sb : SA} {us sp vs sq : List TV} (i : Nat) {A : List Nat} (hi : (grB E a tr tarr fr farr dg n1 n2 n3 bl bm sa sb us sp vs sq)[i]? = some A) {q : Nat} (hq : q ∈ A) : q ∈ (grB E a tr tarr fr farr dg n1 n2 n3 bl bm sa sb us sp vs sq).flatten := List.mem_flatten.mpr ⟨A, List.mem_of_getElem? hi, hq⟩
def fmN (f : Int32) : Nat := if f = 1 then 1 else 2
theorem rS_mem {a b q : Nat} : q ∈ [a, b] ↔ rS a b q := by unfold rS; simp
set_option maxHeartbeats 4000000 in
set_option maxRecDepth 100000 in
theorem c_B_clear (l : Launch) {E : hE} (hE : EnvOk E) {H : Heap} {a tr tarr fr farr dg n1 n2 n3 bl bm fm fn : Nat} {sa sb : SA} {us sp vs sq : List TV} {txt fx : List Nat} {ot fo : Bool} {ds : List (Nat × Nat × Nat)} (h : BTx E H a tr tarr fr farr dg n1 n2 n3 bl bm sa sb us sp vs sq txt ot fx fo ds fm fn) : Ct l E y_B_clear b_B_clear 2 (some .int) (rmA 1 0 0) [.ref a] H (hQi (fun r H1 => r = nI txt.length ∧ BTx E H1 a tr tarr fr farr dg n1 n2 n3 bl bm sa sb us sp vs sq [] false fx fo ds fm fn ∧ hCh (fun q => q ∈ (grB E a tr tarr fr farr dg n1 n2 n3 bl bm sa sb us sp vs sq).flatten) H H1)) := by
  refine hx_enter hE (by decide) (Nat.le_of_ble_eq_true rfl) ?_
  intro p e s m args below meth c ls cx hnm hl
  have hl : lv_has ls 2 [(0, .ref a)] := hl
  have hlo : hLo (eB E) [] := hLo.nil
  generalize hQ : MQ below _ args s _ _ _ = Q
  obtain ⟨h1, hBa, h3, h4, h5, h6, h7, hN⟩ := h
  refine lv_aload_n cx.x cx.b d_B_clear_0 rfl (lv_at hl 0 rfl) ?_
  refine gf_B_14_B cx h1 rfl d_B_clear_1 ?_
  refine hx_calli (iv_B_38_Rw cx (c_Rw_length l hE h3) h3.1 rfl hl.1 rfl (Nat.le_of_ble_eq_true rfl) d_B_clear_4 ⟨Nat.le_of_ble_eq_true rfl, Nat.le_of_ble_eq_true rfl⟩ ⟨Nat.le_of_ble_eq_true rfl, Nat.le_of_ble_eq_true rfl⟩) hlo (fun _ h => h) (fun r68 H67 locs hp66 hlo => ?_)
  obtain ⟨hp66, hH9⟩ := hp66
  have hH9 := hH9.symm
  subst hH9
  subst hp66
  refine lv_istore_n (lv' := [(1, .int (nI txt.length)), (0, .ref a)]) cx.x cx.b d_B_clear_7 rfl hl (by decide) rfl (fun ls hl => ?_)
  refine lv_aload_n cx.x cx.b d_B_clear_8 rfl (lv_at hl 1 rfl) ?_
  refine gf_B_14_B cx h1 rfl d_B_clear_9 ?_
  refine hx_callv (iv_B_53_Rw cx (c_Rw_empty l hE h3) h3.1 rfl hl.1 rfl (Nat.le_of_ble_eq_true rfl) d_B_clear_12 ⟨Nat.le_of_ble_eq_true rfl, Nat.le_of_ble_eq_true rfl⟩ ⟨Nat.le_of_ble_eq_true rfl, Nat.le_of_ble_eq_true rfl⟩) hlo (fun _ h => h) (fun H70 locs hp69 hlo => ?_)
  obtain ⟨r1, k1, z1⟩ := hp69
  refine lv_iload_n cx.x cx.b d_B_clear_15 rfl (lv_at hl 0 rfl) ?_
  rw [← hQ]
  exact hx_reti cx.x cx.b cx.r cx.k rfl hlo (fun _ h => h) (Nat.le_of_ble_eq_true rfl) (Nat.le_of_ble_eq_true rfl) d_B_clear_16 (⟨rfl, ⟨h1.ch k1 (fun z => by exact gdj hN 0 1 rfl rfl (by decide) (List.mem_singleton.mpr rfl) (rS_mem.mpr z)), hBa, r1, h4.ch k1 (fun z => by exact gdj hN 2 1 rfl rfl (by decide) List.mem_cons_self (rS_mem.mpr z)) (fun z => by exact gdj hN 2 1 rfl rfl (by decide) (List.mem_cons_of_mem _ List.mem_cons_self) (rS_mem.mpr z)), h5.ch k1 (fun q hq z => by exact gdj hN 3 1 rfl rfl (by decide) (dS_mem.mpr hq) (rS_mem.mpr z)), h6.ch k1 (fun q hq z => by exact gdj hN 4 1 rfl rfl (by decide) hq (rS_mem.mpr z)), h7.ch k1 (fun q hq z => by exact gdj hN 5 1 rfl rfl (by decide) hq (rS_mem.mpr z)), hN⟩, (k1.mono (S' := fun q => q ∈ (grB E a tr tarr fr farr dg n1 n2 n3 bl bm sa sb us sp vs sq).flatten) (fun q _ z => grB_mem 1 rfl (rS_mem.mpr z)))⟩)

set_option maxHeartbeats 4000000 in
set_option maxRecDepth 100000 in
theorem c_B_swap (l : Launch) {E : hE} (hE : EnvOk E) {H : Heap} {a tr tarr fr farr dg n1 n2 n3 bl bm fm fn : Nat} {sa sb : SA} {us sp vs sq : List TV} {txt fx : List Nat} {ot fo : Bool} {ds : List (Nat × Nat × Nat)} (h : BTx E H a tr tarr fr farr dg n1 n2 n3 bl bm sa sb us sp vs sq txt ot fx fo ds fm fn) : Ct l E y_B_swap b_B_swap 2 none (rmA 0 0 0) [.ref a] H (hQv (fun H1 => BTx E H1 a tr tarr fr farr dg n1 n2 n3 bm bl sb sa vs sq us sp txt ot fx fo ds fn fm ∧ hCh (fun q => q ∈ (grB E a tr tarr fr farr dg n1 n2 n3 bl bm sa sb us sp vs sq).flatten) H H1)) := by
  refine hx_enter hE (by decide) (Nat.le_of_ble_eq_true rfl) ?_
  intro p e s m args below meth c ls cx hnm hl
  have hl : lv_has ls 2 [(0, .ref a)] := hl
  have hlo : hLo (eB E) [] := hLo.nil
  generalize hQ : MQ below _ args s _ _ _ = Q
  obtain ⟨h1, hBa, h3, h4, h5, h6, h7, hN⟩ := h
  refine lv_aload_n cx.x cx.b d_B_swap_0 rfl (lv_at hl 0 rfl) ?_
  refine gf_B_31_B cx h1 rfl d_B_swap_1 ?_
  refine lv_astore_n (lv' := [(1, .ref bl), (0, .ref a)]) cx.x cx.b d_B_swap_4 rfl hl (by decide) rfl (fun ls hl => ?_)
  refine lv_aload_n cx.x cx.b d_B_swap_5 rfl (lv_at hl 1 rfl) ?_
  refine lv_aload_n cx.x cx.b d_B_swap_6 rfl (lv_at hl 1 rfl) ?_
  refine gf_B_35_B cx h1 rfl d_B_swap_7 ?_
  refine pf_B_31_B (x := (some bm)) cx h1 hlo hBa (Nat.le_of_ble_eq_true rfl) d_B_swap_10 (fun H71 locs ho72 z_H71 o_H71 hlo => ?_)
  have ho72 : hOb (eD E) classes H71 a 9 [.ref tr, .ref fr, .ref dg, .ref bm, .ref bm] := ho72
  refine lv_aload_n cx.x cx.b d_B_swap_13 rfl (lv_at hl 1 rfl) ?_
  refine lv_aload_n cx.x cx.b d_B_swap_14 rfl (lv_at hl 0 rfl) ?_
  refine pf_B_35_B (x := (some bl)) cx ho72 hlo hBa (Nat.le_of_ble_eq_true rfl) d_B_swap_15 (fun H73 locs ho74 z_H73 o_H73 hlo => ?_)
  have ho74 : hOb (eD E) classes H73 a 9 [.ref tr, .ref fr, .ref dg, .ref bm, .ref bl] := ho74
  have k1 : hCh (fun q => q = a) H H73 := hCh.tr (S := fun q => q = a) (hCh.put z_H71 o_H71 rfl) (hCh.put z_H73 o_H73 rfl)
  rw [← hQ]
  exact hx_retv cx.x cx.b cx.r cx.k hlo (fun _ h => h) (Nat.le_of_ble_eq_true rfl) (Nat.le_of_ble_eq_true rfl) d_B_swap_18 (⟨⟨ho74, hBa, h3.ch k1 (fun z => by exact gdj hN 1 0 rfl rfl (by decide) List.mem_cons_self (List.mem_singleton.mpr z)) (fun z => by exact gdj hN 1 0 rfl rfl (by decide) (List.mem_cons_of_mem _ List.mem_cons_self) (List.mem_singleton.mpr z)), h4.ch k1 (fun z => by exact gdj hN 2 0 rfl rfl (by decide) List.mem_cons_self (List.mem_singleton.mpr z)) (fun z => by exact gdj hN 2 0 rfl rfl (by decide) (List.mem_cons_of_mem _ List.mem_cons_self) (List.mem_singleton.mpr z)), h5.ch k1 (fun q hq z => by exact gdj hN 3 0 rfl rfl (by decide) (dS_mem.mpr hq) (List.mem_singleton.mpr z)), h7.ch k1 (fun q hq z => by exact gdj hN 5 0 rfl rfl (by decide) hq (List.mem_singleton.mpr z)), h6.ch k1 (fun q hq z => by exact gdj hN 4 0 rfl rfl (by decide) hq (List.mem_singleton.mpr z)), grB_swap hN⟩, (k1.mono (S' := fun q => q ∈ (grB E a tr tarr fr farr dg n1 n2 n3 bl bm sa sb us sp vs sq).flatten) (fun q _ z => grB_mem 0 rfl (List.mem_singleton.mpr z)))⟩)

set_option maxHeartbeats 4000000 in
set_option maxRecDepth 100000 in
theorem c_B_format0 (l : Launch) {E : hE} (hE : EnvOk E) {H : Heap} {a tr tarr fr farr dg n1 n2 n3 bl bm fm fn : Nat} {sa sb : SA} {us sp vs sq : List TV} {txt fx : List Nat} {ot fo : Bool} {ds : List (Nat × Nat × Nat)} (h : BTx E H a tr tarr fr farr dg n1 n2 n3 bl bm sa sb us sp vs sq txt ot fx fo ds fm fn) {f : Int32} (hf : f = 1 ∨ f = 2) : Ct l E y_B_format b_B_format 5 (some .int) (rmA 1 0 0) [.ref a, .int 0, .int f] H (hQi (fun r H1 => r = nI fm ∧ BTx E H1 a tr tarr fr farr dg n1 n2 n3 bl bm sa sb us sp vs sq txt ot fx fo ds (fmN f) fn ∧ hCh (fun q => q ∈ (grB E a tr tarr fr farr dg n1 n2 n3 bl bm sa sb us sp vs sq).flatten) H H1)) := by
  refine hx_enter hE (by decide) (Nat.le_of_ble_eq_true rfl) ?_
  intro p e s m args below meth c ls cx hnm hl
  have hl : lv_has ls 5 [(0, .ref a), (1, .int 0), (2, .int f)] := hl
  have hlo : hLo (eB E) [] := hLo.nil
  generalize hQ : MQ below _ args s _ _ _ = Q
  obtain ⟨h1, hBa, h3, h4, h5, h6, h7, hN⟩ := h
  refine lv_aload_n cx.x cx.b d_B_format_0 rfl (lv_at hl 0 rfl) ?_
  refine lv_iload_n cx.x cx.b d_B_format_1 rfl (lv_at hl 1 rfl) ?_
  refine hx_callr (iv_B_56_B cx (c_B_chosen l hE ⟨h1, hBa, h3, h4, h5, h6, h7, hN⟩ 0) h1 rfl hl.1 rfl (Nat.le_of_ble_eq_true rfl) d_B_format_2 ⟨Nat.le_of_ble_eq_true rfl, Nat.le_of_ble_eq_true rfl⟩ ⟨Nat.le_of_ble_eq_true rfl, Nat.le_of_ble_eq_true rfl⟩) hlo (fun _ h => h) (fun r77 H76 locs hp75 hlo => ?_)
  obtain ⟨hp75, hH9⟩ := hp75
  have hH9 := hH9.symm
  subst hH9
  have hp75 : r77 = some bl := hp75
  subst hp75
  show W p l e _ s m args below meth c H locs _ _ _ (F0 m 5 ls [.ref bl])
  refine lv_astore_n (lv' := [(3, .ref bl), (0, .ref a), (1, .int 0), (2, .int f)]) cx.x cx.b d_B_format_5 rfl hl (by decide) rfl (fun ls hl => ?_)
  refine lv_aload_n cx.x cx.b d_B_format_6 rfl (lv_at hl 0 rfl) ?_
  refine lv_ifnull cx.x cx.b d_B_format_7 ?_
  refine lv_iload_n cx.x cx.b d_B_format_10 rfl (lv_at hl 3 rfl) ?_
  refine lv_iconst (v := 1) cx.x cx.b d_B_format_11 (by decide) ?_
  rcases hf with e | e
  · subst e
    refine lv_icmp_eq (tgt := 22) cx.x cx.b d_B_format_12 (by decide) (fun _ => ?_) (fun c => absurd (by decide) c)
    refine lv_aload_n cx.x cx.b d_B_format_22 rfl (lv_at hl 0 rfl) ?_
    refine gf_B_89_Bl cx h6.1 rfl d_B_format_23 ?_
    refine lv_istore (lv' := [(4, .int (nI fm)), (3, .ref bl), (0, .ref a), (1, .int 0), (2, .int 1)]) cx.x cx.b d_B_format_26 hl (by decide) rfl (fun ls hl => ?_)
    refine lv_aload_n cx.x cx.b d_B_format_28 rfl (lv_at hl 1 rfl) ?_
    refine lv_iload_n cx.x cx.b d_B_format_29 rfl (lv_at hl 4 rfl) ?_
    refine pf_B_89_Bl cx h6.1 hlo h6.2.1 (Nat.le_of_ble_eq_true rfl) d_B_format_30 (fun H78 locs ho79 z_H78 o_H78 hlo => ?_)
    have ho79 : hOb (eD E) classes H78 bl 5 [.ref sa.1, .int 1] := ho79
    refine lv_iload cx.x cx.b d_B_format_33 (lv_at hl 0 rfl) ?_
    have k1 : hCh (fun q => q = bl) H H78 := hCh.put z_H78 o_H78 rfl
    rw [← hQ]
    exact hx_reti cx.x cx.b cx.r cx.k rfl hlo (fun _ h => h) (Nat.le_of_ble_eq_true rfl) (Nat.le_of_ble_eq_true rfl) d_B_format_35 (⟨rfl, ⟨h1.ch k1 (fun z => by exact gdj hN 0 4 rfl rfl (by decide) (List.mem_singleton.mpr rfl) (by rw [z]; exact List.mem_cons_self)), hBa, h3.ch k1 (fun z => by exact gdj hN 1 4 rfl rfl (by decide) List.mem_cons_self (by rw [z]; exact List.mem_cons_self)) (fun z => by exact gdj hN 1 4 rfl rfl (by decide) (List.mem_cons_of_mem _ List.mem_cons_self) (by rw [z]; exact List.mem_cons_self)), h4.ch k1 (fun z => by exact gdj hN 2 4 rfl rfl (by decide) List.mem_cons_self (by rw [z]; exact List.mem_cons_self)) (fun z => by exact gdj hN 2 4 rfl rfl (by decide) (List.mem_cons_of_mem _ List.mem_cons_self) (by rw [z]; exact List.mem_cons_self)), h5.ch k1 (fun q hq z => by exact gdj hN 3 4 rfl rfl (by decide) (dS_mem.mpr hq) (by rw [z]; exact List.mem_cons_self)), ⟨ho79, h6.2.1, by unfold fmN; first | exact Or.inl rfl | exact Or.inr rfl, h6.2.2.2.1.ch k1 (fun q hq e => h6.2.2.2.2 (e ▸ hq)), h6.2.2.2.2⟩, h7.ch k1 (fun q hq z => by exact gdj hN 5 4 rfl rfl (by decide) hq (by rw [z]; exact List.mem_cons_self)), hN⟩, (k1.mono (S' := fun q => q ∈ (grB E a tr tarr fr farr dg n1 n2 n3 bl bm sa sb us sp vs sq).flatten) (fun q _ z => grB_mem 4 rfl (by rw [z]; exact List.mem_cons_self)))⟩)
  · subst e
    refine lv_icmp_eq (tgt := 22) cx.x cx.b d_B_format_12 (by decide) (fun c => absurd c (by decide)) (fun _ => ?_)
    refine lv_iload_n cx.x cx.b d_B_format_15 rfl (lv_at hl 3 rfl) ?_
    refine lv_iconst (v := 2) cx.x cx.b d_B_format_16 (by decide) ?_
    refine lv_icmp_eq (tgt := 22) cx.x cx.b d_B_format_17 (by decide) (fun _ => ?_) (fun c => absurd (by decide) c)
    refine lv_aload_n cx.x cx.b d_B_format_22 rfl (lv_at hl 0 rfl) ?_
    refine gf_B_89_Bl cx h6.1 rfl d_B_format_23 ?_
    refine lv_istore (lv' := [(4, .int (nI fm)), (3, .ref bl), (0, .ref a), (1, .int 0), (2, .int 2)]) cx.x cx.b d_B_format_26 hl (by decide) rfl (fun ls hl => ?_)
    refine lv_aload_n cx.x cx.b d_B_format_28 rfl (lv_at hl 1 rfl) ?_
    refine lv_iload_n cx.x cx.b d_B_format_29 rfl (lv_at hl 4 rfl) ?_
    refine pf_B_89_Bl cx h6.1 hlo h6.2.1 (Nat.le_of_ble_eq_true rfl) d_B_format_30 (fun H80 locs ho81 z_H80 o_H80 hlo => ?_)
    have ho81 : hOb (eD E) classes H80 bl 5 [.ref sa.1, .int 2] := ho81
    refine lv_iload cx.x cx.b d_B_format_33 (lv_at hl 0 rfl) ?_
    have k1 : hCh (fun q => q = bl) H H80 := hCh.put z_H80 o_H80 rfl
    rw [← hQ]
    exact hx_reti cx.x cx.b cx.r cx.k rfl hlo (fun _ h => h) (Nat.le_of_ble_eq_true rfl) (Nat.le_of_ble_eq_true rfl) d_B_format_35 (⟨rfl, ⟨h1.ch k1 (fun z => by exact gdj hN 0 4 rfl rfl (by decide) (List.mem_singleton.mpr rfl) (by rw [z]; exact List.mem_cons_self)), hBa, h3.ch k1 (fun z => by exact gdj hN 1 4 rfl rfl (by decide) List.mem_cons_self (by rw [z]; exact List.mem_cons_self)) (fun z => by exact gdj hN 1 4 rfl rfl (by decide) (List.mem_cons_of_mem _ List.mem_cons_self) (by rw [z]; exact List.mem_cons_self)), h4.ch k1 (fun z => by exact gdj hN 2 4 rfl rfl (by decide) List.mem_cons_self (by rw [z]; exact List.mem_cons_self)) (fun z => by exact gdj hN 2 4 rfl rfl (by decide) (List.mem_cons_of_mem _ List.mem_cons_self) (by rw [z]; exact List.mem_cons_self)), h5.ch k1 (fun q hq z => by exact gdj hN 3 4 rfl rfl (by decide) (dS_mem.mpr hq) (by rw [z]; exact List.mem_cons_self)), ⟨ho81, h6.2.1, by unfold fmN; first | exact Or.inl rfl | exact Or.inr rfl, h6.2.2.2.1.ch k1 (fun q hq e => h6.2.2.2.2 (e ▸ hq)), h6.2.2.2.2⟩, h7.ch k1 (fun q hq z => by exact gdj hN 5 4 rfl rfl (by decide) hq (by rw [z]; exact List.mem_cons_self)), hN⟩, (k1.mono (S' := fun q => q ∈ (grB E a tr tarr fr farr dg n1 n2 n3 bl bm sa sb us sp vs sq).flatten) (fun q _ z => grB_mem 4 rfl (by rw [z]; exact List.mem_cons_self)))⟩)

set_option maxHeartbeats 4000000 in
set_option maxRecDepth 100000 in
theorem c_B_format1 (l : Launch) {E : hE} (hE : EnvOk E) {H : Heap} {a tr tarr fr farr dg n1 n2 n3 bl bm fm fn : Nat} {sa sb : SA} {us sp vs sq : List TV} {txt fx : List Nat} {ot fo : Bool} {ds : List (Nat × Nat × Nat)} (h : BTx E H a tr tarr fr farr dg n1 n2 n3 bl bm sa sb us sp vs sq txt ot fx fo ds fm fn) {f : Int32} (hf : f = 1 ∨ f = 2) : Ct l E y_B_format b_B_format 5 (some .int) (rmA 1 0 0) [.ref a, .int 1, .int f] H (hQi (fun r H1 => r = nI fn ∧ BTx E H1 a tr tarr fr farr dg n1 n2 n3 bl bm sa sb us sp vs sq txt ot fx fo ds fm (fmN f) ∧ hCh (fun q => q ∈ (grB E a tr tarr fr farr dg n1 n2 n3 bl bm sa sb us sp vs sq).flatten) H H1)) := by
  refine hx_enter hE (by decide) (Nat.le_of_ble_eq_true rfl) ?_
  intro p e s m args below meth c ls cx hnm hl
  have hl : lv_has ls 5 [(0, .ref a), (1, .int 1), (2, .int f)] := hl
  have hlo : hLo (eB E) [] := hLo.nil
  generalize hQ : MQ below _ args s _ _ _ = Q
  obtain ⟨h1, hBa, h3, h4, h5, h6, h7, hN⟩ := h
  refine lv_aload_n cx.x cx.b d_B_format_0 rfl (lv_at hl 0 rfl) ?_
  refine lv_iload_n cx.x cx.b d_B_format_1 rfl (lv_at hl 1 rfl) ?_
  refine hx_callr (iv_B_56_B cx (c_B_chosen l hE ⟨h1, hBa, h3, h4, h5, h6, h7, hN⟩ 1) h1 rfl hl.1 rfl (Nat.le_of_ble_eq_true rfl) d_B_format_2 ⟨Nat.le_of_ble_eq_true rfl, Nat.le_of_ble_eq_true rfl⟩ ⟨Nat.le_of_ble_eq_true rfl, Nat.le_of_ble_eq_true rfl⟩) hlo (fun _ h => h) (fun r84 H83 locs hp82 hlo => ?_)
  obtain ⟨hp82, hH9⟩ := hp82
  have hH9 := hH9.symm
  subst hH9
  have hp82 : r84 = some bm := hp82
  subst hp82
  show W p l e _ s m args below meth c H locs _ _ _ (F0 m 5 ls [.ref bm])
  refine lv_astore_n (lv' := [(3, .ref bm), (0, .ref a), (1, .int 1), (2, .int f)]) cx.x cx.b d_B_format_5 rfl hl (by decide) rfl (fun ls hl => ?_)
  refine lv_aload_n cx.x cx.b d_B_format_6 rfl (lv_at hl 0 rfl) ?_
  refine lv_ifnull cx.x cx.b d_B_format_7 ?_
  refine lv_iload_n cx.x cx.b d_B_format_10 rfl (lv_at hl 3 rfl) ?_
  refine lv_iconst (v := 1) cx.x cx.b d_B_format_11 (by decide) ?_
  rcases hf with e | e
  · subst e
    refine lv_icmp_eq (tgt := 22) cx.x cx.b d_B_format_12 (by decide) (fun _ => ?_) (fun c => absurd (by decide) c)
    refine lv_aload_n cx.x cx.b d_B_format_22 rfl (lv_at hl 0 rfl) ?_
    refine gf_B_89_Bl cx h7.1 rfl d_B_format_23 ?_
    refine lv_istore (lv' := [(4, .int (nI fn)), (3, .ref bm), (0, .ref a), (1, .int 1), (2, .int 1)]) cx.x cx.b d_B_format_26 hl (by decide) rfl (fun ls hl => ?_)
    refine lv_aload_n cx.x cx.b d_B_format_28 rfl (lv_at hl 1 rfl) ?_
    refine lv_iload_n cx.x cx.b d_B_format_29 rfl (lv_at hl 4 rfl) ?_
    refine pf_B_89_Bl cx h7.1 hlo h7.2.1 (Nat.le_of_ble_eq_true rfl) d_B_format_30 (fun H85 locs ho86 z_H85 o_H85 hlo => ?_)
    have ho86 : hOb (eD E) classes H85 bm 5 [.ref sb.1, .int 1] := ho86
    refine lv_iload cx.x cx.b d_B_format_33 (lv_at hl 0 rfl) ?_
    have k1 : hCh (fun q => q = bm) H H85 := hCh.put z_H85 o_H85 rfl
    rw [← hQ]
    exact hx_reti cx.x cx.b cx.r cx.k rfl hlo (fun _ h => h) (Nat.le_of_ble_eq_true rfl) (Nat.le_of_ble_eq_true rfl) d_B_format_35 (⟨rfl, ⟨h1.ch k1 (fun z => by exact gdj hN 0 5 rfl rfl (by decide) (List.mem_singleton.mpr rfl) (by rw [z]; exact List.mem_cons_self)), hBa, h3.ch k1 (fun z => by exact gdj hN 1 5 rfl rfl (by decide) List.mem_cons_self (by rw [z]; exact List.mem_cons_self)) (fun z => by exact gdj hN 1 5 rfl rfl (by decide) (List.mem_cons_of_mem _ List.mem_cons_self) (by rw [z]; exact List.mem_cons_self)), h4.ch k1 (fun z => by exact gdj hN 2 5 rfl rfl (by decide) List.mem_cons_self (by rw [z]; exact List.mem_cons_self)) (fun z => by exact gdj hN 2 5 rfl rfl (by decide) (List.mem_cons_of_mem _ List.mem_cons_self) (by rw [z]; exact List.mem_cons_self)), h5.ch k1 (fun q hq z => by exact gdj hN 3 5 rfl rfl (by decide) (dS_mem.mpr hq) (by rw [z]; exact List.mem_cons_self)), h6.ch k1 (fun q hq z => by exact gdj hN 4 5 rfl rfl (by decide) hq (by rw [z]; exact List.mem_cons_self)), ⟨ho86, h7.2.1, by unfold fmN; first | exact Or.inl rfl | exact Or.inr rfl, h7.2.2.2.1.ch k1 (fun q hq e => h7.2.2.2.2 (e ▸ hq)), h7.2.2.2.2⟩, hN⟩, (k1.mono (S' := fun q => q ∈ (grB E a tr tarr fr farr dg n1 n2 n3 bl bm sa sb us sp vs sq).flatten) (fun q _ z => grB_mem 5 rfl (by rw [z]; exact List.mem_cons_self)))⟩)
  · subst e
    refine lv_icmp_eq (tgt := 22) cx.x cx.b d_B_format_12 (by decide) (fun c => absurd c (by decide)) (fun _ => ?_)
    refine lv_iload_n cx.x cx.b d_B_format_15 rfl (lv_at hl 3 rfl) ?_
    refine lv_iconst (v := 2) cx.x cx.b d_B_format_16 (by decide) ?_
    refine lv_icmp_eq (tgt := 22) cx.x cx.b d_B_format_17 (by decide) (fun _ => ?_) (fun c => absurd (by decide) c)
    refine lv_aload_n cx.x cx.b d_B_format_22 rfl (lv_at hl 0 rfl) ?_
    refine gf_B_89_Bl cx h7.1 rfl d_B_format_23 ?_
    refine lv_istore (lv' := [(4, .int (nI fn)), (3, .ref bm), (0, .ref a), (1, .int 1), (2, .int 2)]) cx.x cx.b d_B_format_26 hl (by decide) rfl (fun ls hl => ?_)
    refine lv_aload_n cx.x cx.b d_B_format_28 rfl (lv_at hl 1 rfl) ?_
    refine lv_iload_n cx.x cx.b d_B_format_29 rfl (lv_at hl 4 rfl) ?_
    refine pf_B_89_Bl cx h7.1 hlo h7.2.1 (Nat.le_of_ble_eq_true rfl) d_B_format_30 (fun H87 locs ho88 z_H87 o_H87 hlo => ?_)
    have ho88 : hOb (eD E) classes H87 bm 5 [.ref sb.1, .int 2] := ho88
    refine lv_iload cx.x cx.b d_B_format_33 (lv_at hl 0 rfl) ?_
    have k1 : hCh (fun q => q = bm) H H87 := hCh.put z_H87 o_H87 rfl
    rw [← hQ]
    exact hx_reti cx.x cx.b cx.r cx.k rfl hlo (fun _ h => h) (Nat.le_of_ble_eq_true rfl) (Nat.le_of_ble_eq_true rfl) d_B_format_35 (⟨rfl, ⟨h1.ch k1 (fun z => by exact gdj hN 0 5 rfl rfl (by decide) (List.mem_singleton.mpr rfl) (by rw [z]; exact List.mem_cons_self)), hBa, h3.ch k1 (fun z => by exact gdj hN 1 5 rfl rfl (by decide) List.mem_cons_self (by rw [z]; exact List.mem_cons_self)) (fun z => by exact gdj hN 1 5 rfl rfl (by decide) (List.mem_cons_of_mem _ List.mem_cons_self) (by rw [z]; exact List.mem_cons_self)), h4.ch k1 (fun z => by exact gdj hN 2 5 rfl rfl (by decide) List.mem_cons_self (by rw [z]; exact List.mem_cons_self)) (fun z => by exact gdj hN 2 5 rfl rfl (by decide) (List.mem_cons_of_mem _ List.mem_cons_self) (by rw [z]; exact List.mem_cons_self)), h5.ch k1 (fun q hq z => by exact gdj hN 3 5 rfl rfl (by decide) (dS_mem.mpr hq) (by rw [z]; exact List.mem_cons_self)), h6.ch k1 (fun q hq z => by exact gdj hN 4 5 rfl rfl (by decide) hq (by rw [z]; exact List.mem_cons_self)), ⟨ho88, h7.2.1, by unfold fmN; first | exact Or.inl rfl | exact Or.inr rfl, h7.2.2.2.1.ch k1 (fun q hq e => h7.2.2.2.2 (e ▸ hq)), h7.2.2.2.2⟩, hN⟩, (k1.mono (S' := fun q => q ∈ (grB E a tr tarr fr farr dg n1 n2 n3 bl bm sa sb us sp vs sq).flatten) (fun q _ z => grB_mem 5 rfl (by rw [z]; exact List.mem_cons_self)))⟩)

set_option maxHeartbeats 4000000 in
set_option maxRecDepth 100000 in
theorem c_B_formatN (l : Launch) {E : hE} (hE : EnvOk E) {H : Heap} {a tr tarr fr farr dg n1 n2 n3 bl bm fm fn : Nat} {sa sb : SA} {us sp vs sq : List TV} {txt fx : List Nat} {ot fo : Bool} {ds : List (Nat × Nat × Nat)} (h : BTx E H a tr tarr fr farr dg n1 n2 n3 bl bm sa sb us sp vs sq txt ot fx fo ds fm fn) {b f : Int32} (hb : ¬ ((b = 0 ∨ b = 1) ∧ (f = 1 ∨ f = 2))) : Ct l E y_B_format b_B_format 5 (some .int) (rmA 1 0 0) [.ref a, .int b, .int f] H (hQi (fun r H1 => r = -1 ∧ H1 = H)) := by
  refine hx_enter hE (by decide) (Nat.le_of_ble_eq_true rfl) ?_
  intro p e s m args below meth c ls cx hnm hl
  have hl : lv_has ls 5 [(0, .ref a), (1, .int b), (2, .int f)] := hl
  have hlo : hLo (eB E) [] := hLo.nil
  generalize hQ : MQ below _ args s _ _ _ = Q
  obtain ⟨h1, hBa, h3, h4, h5, h6, h7, hN⟩ := h
  refine lv_aload_n cx.x cx.b d_B_format_0 rfl (lv_at hl 0 rfl) ?_
  refine lv_iload_n cx.x cx.b d_B_format_1 rfl (lv_at hl 1 rfl) ?_
  refine hx_callr (iv_B_56_B cx (c_B_chosen l hE ⟨h1, hBa, h3, h4, h5, h6, h7, hN⟩ b) h1 rfl hl.1 rfl (Nat.le_of_ble_eq_true rfl) d_B_format_2 ⟨Nat.le_of_ble_eq_true rfl, Nat.le_of_ble_eq_true rfl⟩ ⟨Nat.le_of_ble_eq_true rfl, Nat.le_of_ble_eq_true rfl⟩) hlo (fun _ h => h) (fun r91 H90 locs hp89 hlo => ?_)
  obtain ⟨hp89, hH9⟩ := hp89
  have hH9 := hH9.symm
  subst hH9
  unfold selC at hp89
  by_cases hbb : b = 0 ∨ b = 1
  · have hs9 : ∃ z, r91 = some z := by rcases hbb with e | e; rw [if_pos e] at hp89; exact ⟨_, hp89⟩; rw [if_neg (by rw [e]; decide), if_pos e] at hp89; exact ⟨_, hp89⟩
    obtain ⟨z9, hz9⟩ := hs9
    clear hp89
    subst hz9
    show W p l e _ s m args below meth c H locs _ _ _ (F0 m 5 ls [.ref z9])
    refine lv_astore_n (lv' := [(3, .ref z9), (0, .ref a), (1, .int b), (2, .int f)]) cx.x cx.b d_B_format_5 rfl hl (by decide) rfl (fun ls hl => ?_)
    refine lv_aload_n cx.x cx.b d_B_format_6 rfl (lv_at hl 0 rfl) ?_
    refine lv_ifnull cx.x cx.b d_B_format_7 ?_
    refine lv_iload_n cx.x cx.b d_B_format_10 rfl (lv_at hl 3 rfl) ?_
    refine lv_iconst (v := 1) cx.x cx.b d_B_format_11 (by decide) ?_
    refine lv_icmp_eq (tgt := 22) cx.x cx.b d_B_format_12 (by decide) (fun c1 => ?_) (fun c1 => ?_)
    · exact absurd ⟨hbb, Or.inl c1⟩ hb
    · refine lv_iload_n cx.x cx.b d_B_format_15 rfl (lv_at hl 3 rfl) ?_
      refine lv_iconst (v := 2) cx.x cx.b d_B_format_16 (by decide) ?_
      refine lv_icmp_eq (tgt := 22) cx.x cx.b d_B_format_17 (by decide) (fun c2 => ?_) (fun c2 => ?_)
      · exact absurd ⟨hbb, Or.inr c2⟩ hb
      · refine lv_iconst (v := (-1)) cx.x cx.b d_B_format_20 (by decide) ?_
        rw [← hQ]
        exact hx_reti cx.x cx.b cx.r cx.k rfl hlo (fun _ h => h) (Nat.le_of_ble_eq_true rfl) (Nat.le_of_ble_eq_true rfl) d_B_format_21 (⟨rfl, rfl⟩)
  · rw [if_neg (fun e => hbb (Or.inl e)), if_neg (fun e => hbb (Or.inr e))] at hp89
    subst hp89
    show W p l e _ s m args below meth c H locs _ _ _ (F0 m 5 ls [.null])
    refine lv_astore_nN (lv' := [(3, .null), (0, .ref a), (1, .int b), (2, .int f)]) cx.x cx.b d_B_format_5 rfl hl (by decide) rfl (fun ls hl => ?_)
    refine lv_aload_nN cx.x cx.b d_B_format_6 rfl (lv_at hl 0 rfl) ?_
    refine lv_ifnullN (tgt := 20) cx.x cx.b d_B_format_7 (by decide) ?_
    refine lv_iconst (v := (-1)) cx.x cx.b d_B_format_20 (by decide) ?_
    rw [← hQ]
    exact hx_reti cx.x cx.b cx.r cx.k rfl hlo (fun _ h => h) (Nat.le_of_ble_eq_true rfl) (Nat.le_of_ble_eq_true rfl) d_B_format_21 (⟨rfl, rfl⟩)

set_option maxHeartbeats 4000000 in
set_option maxRecDepth 100000 in
theorem c_B_type (l : Launch) {E : hE} (hE : EnvOk E) {H : Heap} {a tr tarr fr farr dg n1 n2 n3 bl bm fm fn : Nat} {sa sb : SA} {us sp vs sq : List TV} {txt fx : List Nat} {ot fo : Bool} {ds : List (Nat × Nat × Nat)} (h : BTx E H a tr tarr fr farr dg n1 n2 n3 bl bm sa sb us sp vs sq txt ot fx fo ds fm fn) (v : Int64) (n : Int32) : Ct l E y_B_type b_B_type 5 (some .int) (rmA 1 0 0) [.ref a, .long v, .int n] H (hQi (fun r H1 => r = (tyR v n txt).1 ∧ (∃ o2, BTx E H1 a tr tarr fr farr dg n1 n2 n3 bl bm sa sb us sp vs sq (tyR v n txt).2 o2 fx fo ds fm fn) ∧ hCh (fun q => q ∈ (grB E a tr tarr fr farr dg n1 n2 n3 bl bm sa sb us sp vs sq).flatten) H H1)) := by
  refine hx_enter hE (by decide) (Nat.le_of_ble_eq_true rfl) ?_
  intro p e s m args below meth c ls cx hnm hl
  have hl : lv_has ls 5 [(0, .ref a), (1, .long v), (3, .int n)] := hl
  have hlo : hLo (eB E) [] := hLo.nil
  generalize hQ : MQ below _ args s _ _ _ = Q
  obtain ⟨h1, hBa, h3, h4, h5, h6, h7, hN⟩ := h
  have hle := h3.le
  refine lv_iload_n cx.x cx.b d_B_type_0 rfl (lv_at hl 2 rfl) ?_
  refine lv_iconst (v := 1) cx.x cx.b d_B_type_1 (by decide) ?_
  refine lv_icmp_lt (tgt := 26) cx.x cx.b d_B_type_2 (by decide) (fun c1 => ?_) (fun c1 => ?_)
  · rw [tyR_no (fun m e m1 m8 _ _ => absurd c1 (by rw [e]; exact fun z => absurd ((nI_ltI (a := m) (b := 1) (by omega) (by omega)).mp z) (by omega)))] at hQ
    refine lv_iconst (v := (-1)) cx.x cx.b d_B_type_26 (by decide) ?_
    rw [← hQ]
    exact hx_reti cx.x cx.b cx.r cx.k rfl hlo (fun _ h => h) (Nat.le_of_ble_eq_true rfl) (Nat.le_of_ble_eq_true rfl) d_B_type_27 (⟨rfl, ⟨_, h1, hBa, h3, h4, h5, h6, h7, hN⟩, hCh.rf⟩)
  · refine lv_iload_n cx.x cx.b d_B_type_5 rfl (lv_at hl 2 rfl) ?_
    refine lv_bipush (v := 8) cx.x cx.b d_B_type_6 (by decide) ?_
    refine lv_icmp_gt (tgt := 26) cx.x cx.b d_B_type_8 (by decide) (fun c2 => ?_) (fun c2 => ?_)
    · rw [tyR_no (fun m e m1 m8 _ _ => absurd c2 (by rw [e]; exact fun z => absurd ((nI_ltI (a := 8) (b := m) (by omega) (by omega)).mp z) (by omega)))] at hQ
      refine lv_iconst (v := (-1)) cx.x cx.b d_B_type_26 (by decide) ?_
      rw [← hQ]
      exact hx_reti cx.x cx.b cx.r cx.k rfl hlo (fun _ h => h) (Nat.le_of_ble_eq_true rfl) (Nat.le_of_ble_eq_true rfl) d_B_type_27 (⟨rfl, ⟨_, h1, hBa, h3, h4, h5, h6, h7, hN⟩, hCh.rf⟩)
    · rcases pk_ix n (n := 9) (by omega) with z | z | ⟨m9, hm9, z⟩
      · exact absurd (Int32.lt_of_lt_of_le (c := 1) z (by decide)) c1
      · exact absurd (Int32.lt_of_lt_of_le (b := nI 9) (show (8 : Int32) < nI 9 by decide) z) c2
      subst z
      have hm1 : 1 ≤ m9 := Decidable.byContradiction (fun z => c1 ((nI_ltI (a := m9) (b := 1) (by omega) (by omega)).mpr (by omega)))
      refine lv_aload_n cx.x cx.b d_B_type_11 rfl (lv_at hl 0 rfl) ?_
      refine gf_B_14_B cx h1 rfl d_B_type_12 ?_
      refine hx_calli (iv_B_38_Rw cx (c_Rw_length l hE h3) h3.1 rfl hl.1 rfl (Nat.le_of_ble_eq_true rfl) d_B_type_15 ⟨Nat.le_of_ble_eq_true rfl, Nat.le_of_ble_eq_true rfl⟩ ⟨Nat.le_of_ble_eq_true rfl, Nat.le_of_ble_eq_true rfl⟩) hlo (fun _ h => h) (fun r94 H93 locs hp92 hlo => ?_)
      obtain ⟨hp92, hH9⟩ := hp92
      have hH9 := hH9.symm
      subst hH9
      subst hp92
      refine lv_iload_n cx.x cx.b d_B_type_18 rfl (lv_at hl 2 rfl) ?_
      refine lv_iadd cx.x cx.b d_B_type_19 ?_
      refine lv_topi (fun x95 e_x95 => ?_)
      have e_x95 : x95 = nI (txt.length + m9) := e_x95.trans (nI_add txt.length m9)
      subst e_x95
      refine lv_sipush (v := 480) cx.x cx.b d_B_type_20 (by decide) ?_
      refine lv_icmp_le (tgt := 28) cx.x cx.b d_B_type_23 (by decide) (fun c3 => ?_) (fun c3 => ?_)
      · have c3 : (txt.length + m9) ≤ 480 := (nI_leI (a := (txt.length + m9)) (b := 480) (by omega) (by omega)).mp c3
        have LP2 : ∀ (k : Nat) (locs : List Loc) (x : Int32) (xs1 : List Nat) (o1 : Bool) (H2 : Heap), hLo (eB E) locs → x = nI k + (-1) → k ≤ m9 → Rw E H2 tr tarr 480 xs1 o1 → hCh (rS tr tarr) H H2 → xs1 ++ bytD v k = txt ++ bytD v m9 → (∀ j, j < m9 → okC (byt v j) = true) → ∀ ls, lv_has ls 5 [(4, .int x), (0, .ref a), (1, .long v), (3, .int (nI m9))] → W p l e (rmA 1 0 0) s m args below meth c H2 locs 0 0 Q (F0 m 62 ls []) := by
          intro k
          induction k with
          | zero =>
            intro locs x xs1 o1 H2 hlo hx hk hr2 hk2 hj hall ls hl
            have h1x := h1.ch hk2 (fun z => by exact gdj hN 0 1 rfl rfl (by decide) (List.mem_singleton.mpr rfl) (rS_mem.mpr z))
            have hx : x = -1 := hx
            subst hx
            refine lv_iload cx.x cx.b d_B_type_62 (lv_at hl 0 rfl) ?_
            refine lv_if_lt (tgt := 86) cx.x cx.b d_B_type_64 (by decide) (fun _ => ?_) (fun c => absurd (by decide) c)
            refine lv_aload_n cx.x cx.b d_B_type_86 rfl (lv_at hl 1 rfl) ?_
            refine gf_B_14_B cx h1x rfl d_B_type_87 ?_
            refine hx_calli (iv_B_38_Rw cx (c_Rw_length l hE hr2) hr2.1 rfl hl.1 rfl (Nat.le_of_ble_eq_true rfl) d_B_type_90 ⟨Nat.le_of_ble_eq_true rfl, Nat.le_of_ble_eq_true rfl⟩ ⟨Nat.le_of_ble_eq_true rfl, Nat.le_of_ble_eq_true rfl⟩) hlo (fun _ h => h) (fun r98 H97 locs hp96 hlo => ?_)
            obtain ⟨hp96, hH9⟩ := hp96
            have hH9 := hH9.symm
            subst hH9
            subst hp96
            have hj : xs1 = txt ++ bytD v m9 := by rw [← hj]; exact (List.append_nil xs1).symm
            rw [tyR_ok hm1 (by omega) c3 hall] at hQ
            rw [← hQ]
            exact hx_reti cx.x cx.b cx.r cx.k rfl hlo (fun _ h => h) (Nat.le_of_ble_eq_true rfl) (Nat.le_of_ble_eq_true rfl) d_B_type_93 (⟨by rw [hj, List.length_append, bytD_len], ⟨_, h1x, hBa, hj ▸ hr2, h4.ch hk2 (fun z => by exact gdj hN 2 1 rfl rfl (by decide) List.mem_cons_self (rS_mem.mpr z)) (fun z => by exact gdj hN 2 1 rfl rfl (by decide) (List.mem_cons_of_mem _ List.mem_cons_self) (rS_mem.mpr z)), h5.ch hk2 (fun q hq z => by exact gdj hN 3 1 rfl rfl (by decide) (dS_mem.mpr hq) (rS_mem.mpr z)), h6.ch hk2 (fun q hq z => by exact gdj hN 4 1 rfl rfl (by decide) hq (rS_mem.mpr z)), h7.ch hk2 (fun q hq z => by exact gdj hN 5 1 rfl rfl (by decide) hq (rS_mem.mpr z)), hN⟩, (hk2.mono (S' := fun q => q ∈ (grB E a tr tarr fr farr dg n1 n2 n3 bl bm sa sb us sp vs sq).flatten) (fun q _ z => grB_mem 1 rfl (rS_mem.mpr z)))⟩)
          | succ k ih =>
            intro locs x xs1 o1 H2 hlo hx hk hr2 hk2 hj hall ls hl
            have h1x := h1.ch hk2 (fun z => by exact gdj hN 0 1 rfl rfl (by decide) (List.mem_singleton.mpr rfl) (rS_mem.mpr z))
            rw [pk_m1] at hx
            subst hx
            have hbl := okC_lt (hall k (by omega))
            refine lv_iload cx.x cx.b d_B_type_62 (lv_at hl 0 rfl) ?_
            refine lv_if_lt (tgt := 86) cx.x cx.b d_B_type_64 (by decide) (fun c => absurd c (nI_pos (by omega))) (fun _ => ?_)
            refine lv_aload_n cx.x cx.b d_B_type_67 rfl (lv_at hl 1 rfl) ?_
            refine gf_B_14_B cx h1x rfl d_B_type_68 ?_
            refine lv_lload_n cx.x cx.b d_B_type_71 rfl (lv_at hl 2 rfl) ?_
            refine lv_iload cx.x cx.b d_B_type_72 (lv_at hl 0 rfl) ?_
            refine hx_calli (iv_B_42 cx (c_B_byteOf l hE (H := H2) v (k := k) (by omega)) rfl hl.1 rfl (Nat.le_of_ble_eq_true rfl) d_B_type_74 ⟨Nat.le_of_ble_eq_true rfl, Nat.le_of_ble_eq_true rfl⟩ ⟨Nat.le_of_ble_eq_true rfl, Nat.le_of_ble_eq_true rfl⟩) hlo (fun _ h => h) (fun r101 H100 locs hp99 hlo => ?_)
            obtain ⟨hp99, hH9⟩ := hp99
            have hH9 := hH9.symm
            subst hH9
            subst hp99
            refine hx_callv (iv_B_50_Rw cx (c_Rw_add l hE hr2 hbl) hr2.1 rfl hl.1 rfl (Nat.le_of_ble_eq_true rfl) d_B_type_77 ⟨Nat.le_of_ble_eq_true rfl, Nat.le_of_ble_eq_true rfl⟩ ⟨Nat.le_of_ble_eq_true rfl, Nat.le_of_ble_eq_true rfl⟩) hlo (fun _ h => h) (fun H103 locs hp102 hlo => ?_)
            obtain ⟨r3, k3, z3⟩ := hp102
            have hxl : xs1.length + (k + 1) = txt.length + m9 := by have := congrArg List.length hj; rw [List.length_append, List.length_append, bytD_len, bytD_len] at this; exact this
            have ea : addR 480 (xs1, o1) (byt v k) = (xs1 ++ [byt v k], o1) := by unfold addR; rw [if_pos (show xs1.length < 480 by omega)]
            rw [ea] at r3
            obtain ⟨x104, e_x104⟩ : ∃ y : Int32, y = nI k + (-1) := ⟨_, rfl⟩
            refine lv_iinc (v := x104) (lv' := [(4, .int x104), (0, .ref a), (1, .long v), (3, .int (nI m9))]) cx.x cx.b d_B_type_80 hl (k := 0) rfl (by rw [e_x104]; rfl) (by decide) rfl (fun ls hl => ?_)
            refine lv_goto (tgt := 62) cx.x cx.b d_B_type_83 (by decide) ?_
            exact ih _ _ _ _ _ hlo e_x104 (by omega) r3 (hk2.tr k3) (by rw [List.append_assoc]; exact hj) hall _ hl
        have LP : ∀ (k : Nat) (locs : List Loc) (i : Nat), hLo (eB E) locs → (m9 - i < k) → (i ≤ m9) → (∀ j, j < i → okC (byt v j) = true) → ∀ ls, lv_has ls 5 [(4, .int (nI i)), (0, .ref a), (1, .long v), (3, .int (nI m9))] → W p l e (rmA 1 0 0) s m args below meth c H locs 0 0 Q (F0 m 31 ls []) := by
          intro k
          induction k with
          | zero => intro locs i hlo hk hi hall; exact absurd hk (by omega)
          | succ k ih =>
            intro locs i hlo hk hi hall ls hl
            refine lv_iload cx.x cx.b d_B_type_31 (lv_at hl 0 rfl) ?_
            refine lv_iload_n cx.x cx.b d_B_type_33 rfl (lv_at hl 3 rfl) ?_
            refine lv_icmp_ge (tgt := 57) cx.x cx.b d_B_type_34 (by decide) (fun c4 => ?_) (fun c4 => ?_)
            · have c4 : m9 ≤ i := (nI_leI (a := m9) (b := i) (by omega) (by omega)).mp c4
              refine lv_iload_n cx.x cx.b d_B_type_57 rfl (lv_at hl 3 rfl) ?_
              refine lv_iconst (v := 1) cx.x cx.b d_B_type_58 (by decide) ?_
              refine lv_isub cx.x cx.b d_B_type_59 ?_
              refine lv_topi (fun x105 e_x105 => ?_)
              refine lv_istore (lv' := [(4, .int x105), (0, .ref a), (1, .long v), (3, .int (nI m9))]) cx.x cx.b d_B_type_60 hl (by decide) rfl (fun ls hl => ?_)
              exact LP2 m9 _ _ txt ot H hlo (by rw [e_x105]; obtain ⟨y9, hy9⟩ : ∃ y9, m9 = y9 + 1 := ⟨m9 - 1, by omega⟩; rw [hy9, pk_m1]; exact pk_sub (a := y9 + 1) (b := 1) (by omega)) (Nat.le_refl _) h3 hCh.rf rfl (fun j hj => hall j (by omega)) _ hl
            · have c4 : i < m9 := Nat.not_le.mp (fun zz => c4 ((nI_leI (a := m9) (b := i) (by omega) (by omega)).mpr zz))
              refine lv_lload_n cx.x cx.b d_B_type_37 rfl (lv_at hl 2 rfl) ?_
              refine lv_iload cx.x cx.b d_B_type_38 (lv_at hl 0 rfl) ?_
              refine hx_calli (iv_B_42 cx (c_B_byteOf l hE (H := H) v (k := i) (by omega)) rfl hl.1 rfl (Nat.le_of_ble_eq_true rfl) d_B_type_40 ⟨Nat.le_of_ble_eq_true rfl, Nat.le_of_ble_eq_true rfl⟩ ⟨Nat.le_of_ble_eq_true rfl, Nat.le_of_ble_eq_true rfl⟩) hlo (fun _ h => h) (fun r108 H107 locs hp106 hlo => ?_)
              obtain ⟨hp106, hH9⟩ := hp106
              have hH9 := hH9.symm
              subst hH9
              subst hp106
              have hb9 : byt v i < 256 := Nat.mod_lt _ (by decide)
              refine hx_calli (iv_B_46 cx (c_B_isTextCode l hE (H := H) hb9) rfl hl.1 rfl (Nat.le_of_ble_eq_true rfl) d_B_type_43 ⟨Nat.le_of_ble_eq_true rfl, Nat.le_of_ble_eq_true rfl⟩ ⟨Nat.le_of_ble_eq_true rfl, Nat.le_of_ble_eq_true rfl⟩) hlo (fun _ h => h) (fun r111 H110 locs hp109 hlo => ?_)
              obtain ⟨hp109, hH9⟩ := hp109
              have hH9 := hH9.symm
              subst hH9
              subst hp109
              cases hok : okC (byt v i)
              · refine lv_if_ne (tgt := 51) cx.x cx.b d_B_type_46 (by decide) (fun c => absurd (by decide) c) (fun _ => ?_)
                rw [tyR_no (fun m e m1 m8 hl9 hz => by have := (nI_eq (a := m9) (b := m) (by omega) (by omega)).mp e; have := hz i (by omega); rw [hok] at this; cases this)] at hQ
                refine lv_iconst (v := (-1)) cx.x cx.b d_B_type_49 (by decide) ?_
                rw [← hQ]
                exact hx_reti cx.x cx.b cx.r cx.k rfl hlo (fun _ h => h) (Nat.le_of_ble_eq_true rfl) (Nat.le_of_ble_eq_true rfl) d_B_type_50 (⟨rfl, ⟨_, h1, hBa, h3, h4, h5, h6, h7, hN⟩, hCh.rf⟩)
              · refine lv_if_ne (tgt := 51) cx.x cx.b d_B_type_46 (by decide) (fun _ => ?_) (fun c => absurd c (by decide))
                obtain ⟨x112, e_x112⟩ : ∃ y : Int32, y = nI i + 1 := ⟨_, rfl⟩
                refine lv_iinc (v := x112) (lv' := [(4, .int x112), (0, .ref a), (1, .long v), (3, .int (nI m9))]) cx.x cx.b d_B_type_51 hl (k := 0) rfl (by rw [e_x112]; rfl) (by decide) rfl (fun ls hl => ?_)
                refine lv_goto (tgt := 31) cx.x cx.b d_B_type_54 (by decide) ?_
                rw [nI_1] at e_x112
                subst e_x112
                exact ih _ (i + 1) hlo (by omega) (by omega) (fun j hj => by rcases Nat.lt_or_ge j i with z | z; exact hall j z; rw [show j = i by omega]; exact hok) _ hl
        refine lv_iconst (v := 0) cx.x cx.b d_B_type_28 (by decide) ?_
        refine lv_istore (lv' := [(4, .int 0), (0, .ref a), (1, .long v), (3, .int (nI m9))]) cx.x cx.b d_B_type_29 hl (by decide) rfl (fun ls hl => ?_)
        exact LP (m9 + 1) _ 0 hlo (by omega) (Nat.zero_le _) (fun j hj => absurd hj (Nat.not_lt_zero j)) _ hl
      · have c3 : 480 < (txt.length + m9) := Nat.not_le.mp (fun zz => c3 ((nI_leI (a := (txt.length + m9)) (b := 480) (by omega) (by omega)).mpr zz))
        rw [tyR_no (fun m e m1 m8 hl9 _ => by have := (nI_eq (a := m9) (b := m) (by omega) (by omega)).mp e; omega)] at hQ
        refine lv_iconst (v := (-1)) cx.x cx.b d_B_type_26 (by decide) ?_
        rw [← hQ]
        exact hx_reti cx.x cx.b cx.r cx.k rfl hlo (fun _ h => h) (Nat.le_of_ble_eq_true rfl) (Nat.le_of_ble_eq_true rfl) d_B_type_27 (⟨rfl, ⟨_, h1, hBa, h3, h4, h5, h6, h7, hN⟩, hCh.rf⟩)
