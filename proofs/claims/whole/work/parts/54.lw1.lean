/-! THE LAW: what the class and the model hold is the same -/
def LR (us vs : List TV) (txt : List Nat) (ds : List (Nat × Nat × Nat)) (fm fn : Nat) (g : MS) (U V : List TU) : Prop :=
  (RelT us U ∧ UInv U ∧ nzU U) ∧ (RelT vs V ∧ UInv V ∧ nzU V) ∧ ((∀ x ∈ txt, okC x = true) ∧ txt.length ≤ 480 ∧ Tx (g.1 0) txt ∧ g.2 0 = txt.length) ∧ (g.2 2 = 0 ∨ g.2 2 = 1) ∧ (Rows g.1 (if g.2 2 = 0 then 0 else 1 - 0) U ∧ g.1 3 (if g.2 2 = 0 then 0 else 1 - 0) = fm ∧ (fm = 1 ∨ fm = 2)) ∧ (Rows g.1 (if g.2 2 = 0 then 1 else 1 - 1) V ∧ g.1 3 (if g.2 2 = 0 then 1 else 1 - 1) = fn ∧ (fn = 1 ∨ fn = 2)) ∧ DgR (g.1 1) (g.2 1) ds ∧ ds.length ≤ 600
theorem Rows.cg {f f2 : Nat → Nat → Nat} {b : Nat} {U : List TU} (h : Rows f b U) (e2 : f2 2 = f 2) (e4 : f2 4 = f 4) (e5 : f2 5 = f 5) (e6 : f2 6 = f 6) (e7 : f2 7 = f 7) (e8 : f2 8 = f 8) (e9 : f2 9 = f 9) (e10 : f2 10 = f 10) : Rows f2 b U :=
  h.fr (by rw [e2]) (fun t _ => by rw [e10]) (fun r _ _ => ⟨by rw [e6], by rw [e7], by rw [e8], by rw [e9], fun i _ => ⟨by rw [e4], by rw [e5]⟩⟩)
theorem LR.mv {us vs : List TV} {txt txt2 : List Nat} {ds : List (Nat × Nat × Nat)} {fm fn : Nat} {g g2 : MS} {U V : List TU} (h : LR us vs txt ds fm fn g U V) (e1 : g2.1 1 = g.1 1) (e2 : g2.1 2 = g.1 2) (e3 : g2.1 3 = g.1 3) (e4 : g2.1 4 = g.1 4) (e5 : g2.1 5 = g.1 5) (e6 : g2.1 6 = g.1 6) (e7 : g2.1 7 = g.1 7) (e8 : g2.1 8 = g.1 8) (e9 : g2.1 9 = g.1 9) (e10 : g2.1 10 = g.1 10) (f1 : g2.2 1 = g.2 1) (f2 : g2.2 2 = g.2 2) (ht : (∀ x ∈ txt2, okC x = true) ∧ txt2.length ≤ 480 ∧ Tx (g2.1 0) txt2 ∧ g2.2 0 = txt2.length) : LR us vs txt2 ds fm fn g2 U V := by
  obtain ⟨h1, h2, h3, h4, h5, h6, h7, h8⟩ := h
  refine ⟨h1, h2, ht, by rw [f2]; exact h4, ?_, ?_, by rw [e1, f1]; exact h7, h8⟩
  · rw [f2, e3]; exact ⟨h5.1.cg e2 e4 e5 e6 e7 e8 e9 e10, h5.2⟩
  · rw [f2, e3]; exact ⟨h6.1.cg e2 e4 e5 e6 e7 e8 e9 e10, h6.2⟩
theorem LR.fm {us vs : List TV} {txt : List Nat} {ds : List (Nat × Nat × Nat)} {fm fn : Nat} {g : MS} {U V : List TU} (h : LR us vs txt ds fm fn g U V) : g.1 3 0 < 10 ∧ g.1 3 1 < 10 ∧ (decide (g.1 3 0 = g.1 3 1) = decide (fm = fn)) := by
  obtain ⟨-, -, -, h4, ⟨-, h5, h51⟩, ⟨-, h6, h61⟩, -, -⟩ := h
  rcases h4 with e | e
  · rw [if_pos e] at h5 h6
    rw [h5, h6]
    exact ⟨by omega, by omega, rfl⟩
  · rw [if_neg (by omega)] at h5 h6
    have h5 : g.1 3 1 = fm := h5
    have h6 : g.1 3 0 = fn := h6
    rw [h5, h6]
    refine ⟨by omega, by omega, ?_⟩
    by_cases c : fm = fn
    · rw [decide_eq_true c, decide_eq_true c.symm]
    · rw [decide_eq_false c, decide_eq_false (fun z => c z.symm)]
theorem BTx.ch {E : hE} {H H1 : Heap} {a tr tarr fr farr dg n1 n2 n3 bl bm fm fn : Nat} {sa sb : SA} {us sp vs sq : List TV} {txt fx : List Nat} {ot fo : Bool} {ds : List (Nat × Nat × Nat)} {S : Nat → Prop} (h : BTx E H a tr tarr fr farr dg n1 n2 n3 bl bm sa sb us sp vs sq txt ot fx fo ds fm fn) (k : hCh S H H1) (hs : ∀ q ∈ (grB E a tr tarr fr farr dg n1 n2 n3 bl bm sa sb us sp vs sq).flatten, ¬ S q) : BTx E H1 a tr tarr fr farr dg n1 n2 n3 bl bm sa sb us sp vs sq txt ot fx fo ds fm fn := by
  obtain ⟨h1, hB, h3, h4, h5, h6, h7, hN⟩ := h
  have m : ∀ (i : Nat) {A : List Nat}, (grB E a tr tarr fr farr dg n1 n2 n3 bl bm sa sb us sp vs sq)[i]? = some A → ∀ q ∈ A, ¬ S q := fun i A hi q hq => hs q (grB_mem i hi hq)
  exact ⟨h1.ch k (m 0 rfl a List.mem_cons_self), hB, h3.ch k (m 1 rfl tr List.mem_cons_self) (m 1 rfl tarr (List.mem_cons_of_mem _ List.mem_cons_self)), h4.ch k (m 2 rfl fr List.mem_cons_self) (m 2 rfl farr (List.mem_cons_of_mem _ List.mem_cons_self)), h5.ch k (fun q hq => m 3 rfl q (dS_mem.mpr hq)), h6.ch k (fun q hq => m 4 rfl q hq), h7.ch k (fun q hq => m 5 rfl q hq), hN⟩
/-- the class's object at a, the model's at ma: apart, and alike -/
def LI (E : hE) (H : Heap) (a ma : Nat) (ad : Nat → Nat) : Prop := ∃ (tr tarr fr farr dg n1 n2 n3 bl bm : Nat) (sa sb : SA) (us sp vs sq : List TV) (txt : List Nat) (ot : Bool) (fx : List Nat) (fo : Bool) (ds : List (Nat × Nat × Nat)) (fm fn : Nat) (g : MS) (U V : List TU), BTx E H a tr tarr fr farr dg n1 n2 n3 bl bm sa sb us sp vs sq txt ot fx fo ds fm fn ∧ Mo E H ma ad g ∧ (∀ q ∈ (grB E a tr tarr fr farr dg n1 n2 n3 bl bm sa sb us sp vs sq).flatten, ¬ moS ma ad q) ∧ LR us vs txt ds fm fn g U V ∧ Old E H
section LIS
variable {E : hE} {H H1 : Heap} {a ma : Nat} {ad : Nat → Nat} {tr tarr fr farr dg n1 n2 n3 bl bm fm fn : Nat} {sa sb : SA} {us sp vs sq : List TV} {txt fx : List Nat} {ot fo : Bool} {ds : List (Nat × Nat × Nat)} {g g2 : MS} {U V : List TU}
/-- behind a call of the model -/
theorem LI.model (hB : BTx E H a tr tarr fr farr dg n1 n2 n3 bl bm sa sb us sp vs sq txt ot fx fo ds fm fn) (hM : Mw E H H1 ma ad g2) (hdj : ∀ q ∈ (grB E a tr tarr fr farr dg n1 n2 n3 bl bm sa sb us sp vs sq).flatten, ¬ moS ma ad q) (hR : LR us vs txt ds fm fn g2 U V) (hO : Old E H) : LI E H1 a ma ad :=
  ⟨tr, tarr, fr, farr, dg, n1, n2, n3, bl, bm, sa, sb, us, sp, vs, sq, txt, ot, fx, fo, ds, fm, fn, g2, U, V, hB.ch hM.2.1 hdj, hM.1, hdj, hR, hO.ch hM.2.1 hM.1.lo⟩
theorem LI.same (hB : BTx E H a tr tarr fr farr dg n1 n2 n3 bl bm sa sb us sp vs sq txt ot fx fo ds fm fn) (hM : Mo E H ma ad g) (hdj : ∀ q ∈ (grB E a tr tarr fr farr dg n1 n2 n3 bl bm sa sb us sp vs sq).flatten, ¬ moS ma ad q) (hR : LR us vs txt ds fm fn g U V) (hO : Old E H) : LI E H a ma ad :=
  ⟨tr, tarr, fr, farr, dg, n1, n2, n3, bl, bm, sa, sb, us, sp, vs, sq, txt, ot, fx, fo, ds, fm, fn, g, U, V, hB, hM, hdj, hR, hO⟩
/-- the model behind a call of the class -/
theorem Mo.cls (hM : Mo E H ma ad g) (k : hCh (fun q => q ∈ (grB E a tr tarr fr farr dg n1 n2 n3 bl bm sa sb us sp vs sq).flatten) H H1) (hdj : ∀ q ∈ (grB E a tr tarr fr farr dg n1 n2 n3 bl bm sa sb us sp vs sq).flatten, ¬ moS ma ad q) : Mo E H1 ma ad g := hM.ch k (fun q hq z => hdj q z hq)
end LIS
theorem grB_in {E : hE} {a tr tarr fr farr dg n1 n2 n3 bl bm q : Nat} {sa sb : SA} {us sp vs sq : List TV} : q ∈ (grB E a tr tarr fr farr dg n1 n2 n3 bl bm sa sb us sp vs sq).flatten ↔ (q ∈ [a, tr, tarr, fr, farr, dg, n1, n2, n3] ∨ q ∈ fpB E bl sa us sp ∨ q ∈ fpB E bm sb vs sq) := by
  have e : (grB E a tr tarr fr farr dg n1 n2 n3 bl bm sa sb us sp vs sq).flatten = [a, tr, tarr, fr, farr, dg, n1, n2, n3] ++ (fpB E bl sa us sp ++ (fpB E bm sb vs sq ++ [])) := rfl
  rw [e, List.append_nil, List.mem_append, List.mem_append]
/-- the class's answers and the model's -/
theorem tyV_C (us : List TV) (t : Int32) : tyC (us.map vwT) t.toInt = (tyV us t).map vwT := by
  unfold tyC tyV
  rw [List.length_map]
  by_cases c : 0 ≤ t.toInt ∧ t.toInt < us.length
  · rw [if_pos c, if_pos c]
    show some _ = some _
    congr 1
    rw [List.getD_eq_getElem?_getD, List.getElem?_map, List.getD_eq_getElem?_getD, List.getElem?_eq_getElem (by omega)]
    rfl
  · rw [if_neg c, if_neg c]; rfl
theorem abV_C (o : Option TV) (q : Int32) : abV o q = abC (o.map vwT) q := by
  cases o with
  | none => rfl
  | some t =>
    unfold abV abC
    simp only [Option.map_some]
    rw [show (vwT t).2.length = t.2.2.1.length from List.length_map _]
    rfl
theorem mbV_C (o : Option TV) (k : Int32) : (o.map vwT).bind (fun c => mbC c.2 k.toInt) = (mbV o k).map (·.2.2) := by
  cases o with
  | none => rfl
  | some t =>
    show mbC (t.2.2.1.map (·.2.2)) k.toInt = Option.map (·.2.2) (if 0 ≤ k.toInt ∧ k.toInt < t.2.2.1.length then some (t.2.2.1.getD k.toInt.toNat default) else none)
    unfold mbC
    rw [List.length_map]
    by_cases c : 0 ≤ k.toInt ∧ k.toInt < t.2.2.1.length
    · rw [if_pos c, if_pos c]
      show some _ = some _
      congr 1
      rw [List.getD_eq_getElem?_getD, List.getElem?_map, List.getD_eq_getElem?_getD, List.getElem?_eq_getElem (by omega)]
      rfl
    · rw [if_neg c, if_neg c]; rfl
theorem meV_C (o : Option EL) (q : Int32) : meV o q = meC (o.map (·.2.2)) q := by cases o <;> rfl
theorem chV_C (o : Option EL) (q i : Int32) : chV o q i = chC (o.map (·.2.2)) q i := by cases o <;> rfl
theorem tyMap1 (o : Option TV) : (o.map vwT).map (·.1) = (o.map (·.1)).map (·.2.2) := by cases o <;> rfl
theorem tySel_0 (us vs : List TV) (t : Int32) : tySel 0 us vs t = tyV us t := by unfold tySel selC; rw [if_pos rfl]; rfl
theorem tySel_1 (us vs : List TV) (t : Int32) : tySel 1 us vs t = tyV vs t := by unfold tySel selC; rw [if_neg (by decide), if_pos rfl]; rfl
theorem tySel_n {b : Int32} (h : ¬ (b = 0 ∨ b = 1)) (us vs : List TV) (t : Int32) : tySel b us vs t = none := by unfold tySel selC; rw [if_neg (fun z => h (Or.inl z)), if_neg (fun z => h (Or.inr z))]; rfl
