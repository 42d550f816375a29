theorem s_l : ∀ n, n < 32 → ((nI n &&& 31).toBitVec.smod 32).toNat = n := by decide +kernel
/-- a DECLARATION: its addresses (itself, name's row and letters, descriptor's row and letters), its value (name, descriptor, kind, marks); the shelf of members where it is a type -/
abbrev DA : Type := Nat × Nat × Nat × Nat × Nat
abbrev DV : Type := List Nat × List Nat × Nat × Nat
def DcO (E : hE) (H : Heap) (a : Nat) (v : Option Nat) (n d k mk : Nat) : Prop := match v with
  | none => hOb (eD E) classes H a 1 [.ref n, .ref d, .int (nI k), .int (nI mk)]
  | some x => hOb (eD E) classes H a 2 [.ref n, .ref d, .int (nI k), .int (nI mk), .ref x]
def Dc (E : hE) (H : Heap) (ad : DA) (v : Option Nat) (dv : DV) (o1 o2 : Bool) : Prop := DcO E H ad.1 v ad.2.1 ad.2.2.2.1 dv.2.2.1 dv.2.2.2 ∧ Rw E H ad.2.1 ad.2.2.1 20 dv.1 o1 ∧ Rw E H ad.2.2.2.1 ad.2.2.2.2 20 dv.2.1 o2 ∧ eB E ≤ ad.1 ∧ (ad.1 ≠ ad.2.1 ∧ ad.1 ≠ ad.2.2.1 ∧ ad.1 ≠ ad.2.2.2.1 ∧ ad.1 ≠ ad.2.2.2.2 ∧ ad.2.1 ≠ ad.2.2.2.1 ∧ ad.2.1 ≠ ad.2.2.2.2 ∧ ad.2.2.1 ≠ ad.2.2.2.1 ∧ ad.2.2.1 ≠ ad.2.2.2.2) ∧ dv.2.2.1 < 10 ∧ dv.2.2.2 < 64
/-- the cells of a declaration -/
def dcS (ad : DA) : Nat → Prop := fun q => q = ad.1 ∨ rS ad.2.1 ad.2.2.1 q ∨ rS ad.2.2.2.1 ad.2.2.2.2 q
theorem DcO.lt {E : hE} {H : Heap} {a n d k mk : Nat} {v : Option Nat} (h : DcO E H a v n d k mk) : a < H.size := by
  cases v with
  | none => exact hOb.lt (show hOb _ _ _ _ _ _ from h)
  | some x => exact hOb.lt (show hOb _ _ _ _ _ _ from h)
theorem DcO.eq {E : hE} {H H1 : Heap} {a n d k mk : Nat} {v : Option Nat} (h : DcO E H a v n d k mk) (hq : H1[a]? = H[a]?) : DcO E H1 a v n d k mk := by
  cases v with
  | none => exact hOb.eq (show hOb _ _ _ _ _ _ from h) hq
  | some x => exact hOb.eq (show hOb _ _ _ _ _ _ from h) hq
theorem DcO.ch {E : hE} {H H1 : Heap} {a n d k mk : Nat} {v : Option Nat} {S : Nat → Prop} (h : DcO E H a v n d k mk) (c : hCh S H H1) (hs : ¬ S a) : DcO E H1 a v n d k mk := h.eq (c.2 a h.lt hs)
theorem Dc.ch {E : hE} {H H1 : Heap} {ad : DA} {v : Option Nat} {dv : DV} {o1 o2 : Bool} {S : Nat → Prop} (h : Dc E H ad v dv o1 o2) (k : hCh S H H1) (hs : ∀ q, dcS ad q → ¬ S q) : Dc E H1 ad v dv o1 o2 := by
  obtain ⟨h0, h1, h2, r⟩ := h
  exact ⟨h0.ch k (hs _ (Or.inl rfl)), h1.ch k (hs _ (Or.inr (Or.inl (Or.inl rfl)))) (hs _ (Or.inr (Or.inl (Or.inr rfl)))), h2.ch k (hs _ (Or.inr (Or.inr (Or.inl rfl)))) (hs _ (Or.inr (Or.inr (Or.inr rfl)))), r⟩
theorem dcS.lo {E : hE} {H : Heap} {ad : DA} {v : Option Nat} {dv : DV} {o1 o2 : Bool} (h : Dc E H ad v dv o1 o2) : ∀ q, dcS ad q → eB E ≤ q := fun q hq => by
  obtain ⟨-, h1, h2, h3, -⟩ := h
  rcases hq with e | e | e
  · rw [e]; exact h3
  · exact rS.lo h1 q e
  · exact rS.lo h2 q e
/-- the order of declarations: name, kind, descriptor -/
def cmpD (x y : DV) : Int := if cmpL x.1 y.1 ≠ 0 then cmpL x.1 y.1 else if x.2.2.1 ≠ y.2.2.1 then (x.2.2.1 : Int) - y.2.2.1 else cmpL x.2.1 y.2.1
/-- the words of the marks, each with a blank behind it -/
def mkW (mem : Bool) (mk : Nat) : Nat → List Nat
  | 0 => []
  | n + 1 => (if mk / 2 ^ (nMarks mem - (n + 1)) % 2 = 1 then strL (markS mem (nMarks mem - (n + 1))) ++ [32] else []) ++ mkW mem mk n
/-- a line of the canonical form, with its line feed -/
def lineD (mem : Bool) (fm : Nat) (x : DV) : List Nat := (if mem then [32, 32] else []) ++ (mkW mem x.2.2.2 (nMarks mem) ++ (strL (kindS mem x.2.2.1) ++ (32 :: (escN fm x.1 ++ ((if mem then 32 :: escN fm x.2.1 else []) ++ [10])))))
theorem i32_ne {x : Int32} : x = 0 ↔ x.toInt = 0 := ⟨fun h => by rw [h]; rfl, fun h => Int32.toInt_inj.mp (by rw [h]; rfl)⟩
theorem addR_lt {cap : Nat} : ∀ (ys : List Nat) (r : List Nat × Bool), (∀ x ∈ r.1, x < 128) → (∀ x ∈ ys, x < 128) → ∀ x ∈ (ys.foldl (addR cap) r).1, x < 128 := by
  intro ys
  induction ys with
  | nil => intro r h _; exact h
  | cons y ys ih =>
    intro r h hy
    refine ih _ ?_ (fun x hx => hy x (List.mem_cons_of_mem _ hx))
    intro x hx
    unfold addR at hx
    by_cases c : r.1.length < cap
    · rw [if_pos c] at hx
      rcases List.mem_append.mp hx with q | q
      · exact h x q
      · rw [List.mem_singleton.mp q]; exact hy y List.mem_cons_self
    · rw [if_neg c] at hx; exact h x hx
theorem escN_cons (fm x : Nat) (xs : List Nat) : escN fm (x :: xs) = addN fm x ++ escN fm xs := rfl
theorem escN_drop {fm i : Nat} {xs : List Nat} (h : i < xs.length) : escN fm (xs.drop i) = addN fm (xs.getD i 0) ++ escN fm (xs.drop (i + 1)) := by rw [drop_cons h]; rfl
section DSITES
variable {E : hE} {p : Program} {l : Launch} {e : Env} {R : Room} {s : State} {m : MethodId} {args : Array Value} {below : List Frame} {meth : Method} {c : Code} {H : Heap} {locs : List Loc} {cells slots : Nat} {Q : State → Prop}
variable {cc : ByteArray} {nL pc : Nat} {ls : Array Slot} {rest st0 : List Value} {a b : Nat} {ret : Option FieldType} {As : List Value} {rm : Room} {Qc : Array Value → State → Outcome → State → Prop} {v : Option Nat} {n d k mk : Nat}
theorem gd_B_135 (cx : Cx E p s m args meth c "BaselineText" cc nL ret) (he : DcO E H a v n d k mk) (hdg : decode cc pc = .ok (.getfield 135, 3)) (kk : W p l e R s m args below meth c H locs cells slots Q (F0 m (pc + 3) ls (.int (nI k) :: rest))) : W p l e R s m args below meth c H locs cells slots Q (F0 m pc ls (.ref a :: rest)) := by
  cases v with
  | none => exact gf_B_135_Dc cx he rfl hdg kk
  | some x => exact gf_B_135_Tp cx he rfl hdg kk
theorem gd_B_138 (cx : Cx E p s m args meth c "BaselineText" cc nL ret) (he : DcO E H a v n d k mk) (hdg : decode cc pc = .ok (.getfield 138, 3)) (kk : W p l e R s m args below meth c H locs cells slots Q (F0 m (pc + 3) ls (.int (nI mk) :: rest))) : W p l e R s m args below meth c H locs cells slots Q (F0 m pc ls (.ref a :: rest)) := by
  cases v with
  | none => exact gf_B_138_Dc cx he rfl hdg kk
  | some x => exact gf_B_138_Tp cx he rfl hdg kk
theorem gd_B_139 (cx : Cx E p s m args meth c "BaselineText" cc nL ret) (he : DcO E H a v n d k mk) (hdg : decode cc pc = .ok (.getfield 139, 3)) (kk : W p l e R s m args below meth c H locs cells slots Q (F0 m (pc + 3) ls (.ref n :: rest))) : W p l e R s m args below meth c H locs cells slots Q (F0 m pc ls (.ref a :: rest)) := by
  cases v with
  | none => exact gf_B_139_Dc cx he rfl hdg kk
  | some x => exact gf_B_139_Tp cx he rfl hdg kk
theorem gd_B_140 (cx : Cx E p s m args meth c "BaselineText" cc nL ret) (he : DcO E H a v n d k mk) (hdg : decode cc pc = .ok (.getfield 140, 3)) (kk : W p l e R s m args below meth c H locs cells slots Q (F0 m (pc + 3) ls (.ref d :: rest))) : W p l e R s m args below meth c H locs cells slots Q (F0 m pc ls (.ref a :: rest)) := by
  cases v with
  | none => exact gf_B_140_Dc cx he rfl hdg kk
  | some x => exact gf_B_140_Tp cx he rfl hdg kk
theorem gd_Dc_14 (cx : Cx E p s m args meth c "BaselineText$Declaration" cc nL ret) (he : DcO E H a v n d k mk) (hdg : decode cc pc = .ok (.getfield 14, 3)) (kk : W p l e R s m args below meth c H locs cells slots Q (F0 m (pc + 3) ls (.ref n :: rest))) : W p l e R s m args below meth c H locs cells slots Q (F0 m pc ls (.ref a :: rest)) := by
  cases v with
  | none => exact gf_Dc_14_Dc cx he rfl hdg kk
  | some x => exact gf_Dc_14_Tp cx he rfl hdg kk
theorem gd_Dc_20 (cx : Cx E p s m args meth c "BaselineText$Declaration" cc nL ret) (he : DcO E H a v n d k mk) (hdg : decode cc pc = .ok (.getfield 20, 3)) (kk : W p l e R s m args below meth c H locs cells slots Q (F0 m (pc + 3) ls (.ref d :: rest))) : W p l e R s m args below meth c H locs cells slots Q (F0 m pc ls (.ref a :: rest)) := by
  cases v with
  | none => exact gf_Dc_20_Dc cx he rfl hdg kk
  | some x => exact gf_Dc_20_Tp cx he rfl hdg kk
theorem gd_Dc_27 (cx : Cx E p s m args meth c "BaselineText$Declaration" cc nL ret) (he : DcO E H a v n d k mk) (hdg : decode cc pc = .ok (.getfield 27, 3)) (kk : W p l e R s m args below meth c H locs cells slots Q (F0 m (pc + 3) ls (.int (nI k) :: rest))) : W p l e R s m args below meth c H locs cells slots Q (F0 m pc ls (.ref a :: rest)) := by
  cases v with
  | none => exact gf_Dc_27_Dc cx he rfl hdg kk
  | some x => exact gf_Dc_27_Tp cx he rfl hdg kk
theorem gd_Dc_31 (cx : Cx E p s m args meth c "BaselineText$Declaration" cc nL ret) (he : DcO E H a v n d k mk) (hdg : decode cc pc = .ok (.getfield 31, 3)) (kk : W p l e R s m args below meth c H locs cells slots Q (F0 m (pc + 3) ls (.int (nI mk) :: rest))) : W p l e R s m args below meth c H locs cells slots Q (F0 m pc ls (.ref a :: rest)) := by
  cases v with
  | none => exact gf_Dc_31_Dc cx he rfl hdg kk
  | some x => exact gf_Dc_31_Tp cx he rfl hdg kk
theorem gd_Rd_111 (cx : Cx E p s m args meth c "BaselineText$Reader" cc nL ret) (he : DcO E H a v n d k mk) (hdg : decode cc pc = .ok (.getfield 111, 3)) (kk : W p l e R s m args below meth c H locs cells slots Q (F0 m (pc + 3) ls (.int (nI k) :: rest))) : W p l e R s m args below meth c H locs cells slots Q (F0 m pc ls (.ref a :: rest)) := by
  cases v with
  | none => exact gf_Rd_111_Dc cx he rfl hdg kk
  | some x => exact gf_Rd_111_Tp cx he rfl hdg kk
theorem gd_Rd_114 (cx : Cx E p s m args meth c "BaselineText$Reader" cc nL ret) (he : DcO E H a v n d k mk) (hdg : decode cc pc = .ok (.getfield 114, 3)) (kk : W p l e R s m args below meth c H locs cells slots Q (F0 m (pc + 3) ls (.ref n :: rest))) : W p l e R s m args below meth c H locs cells slots Q (F0 m pc ls (.ref a :: rest)) := by
  cases v with
  | none => exact gf_Rd_114_Dc cx he rfl hdg kk
  | some x => exact gf_Rd_114_Tp cx he rfl hdg kk
theorem gd_Rd_128 (cx : Cx E p s m args meth c "BaselineText$Reader" cc nL ret) (he : DcO E H a v n d k mk) (hdg : decode cc pc = .ok (.getfield 128, 3)) (kk : W p l e R s m args below meth c H locs cells slots Q (F0 m (pc + 3) ls (.ref d :: rest))) : W p l e R s m args below meth c H locs cells slots Q (F0 m pc ls (.ref a :: rest)) := by
  cases v with
  | none => exact gf_Rd_128_Dc cx he rfl hdg kk
  | some x => exact gf_Rd_128_Tp cx he rfl hdg kk
theorem gd_Rd_143 (cx : Cx E p s m args meth c "BaselineText$Reader" cc nL ret) (he : DcO E H a v n d k mk) (hdg : decode cc pc = .ok (.getfield 143, 3)) (kk : W p l e R s m args below meth c H locs cells slots Q (F0 m (pc + 3) ls (.int (nI mk) :: rest))) : W p l e R s m args below meth c H locs cells slots Q (F0 m pc ls (.ref a :: rest)) := by
  cases v with
  | none => exact gf_Rd_143_Dc cx he rfl hdg kk
  | some x => exact gf_Rd_143_Tp cx he rfl hdg kk
theorem ivd_Bl_116 (cx : Cx E p s m args meth c "BaselineText$Baseline" cc nL ret) (hM : Ct l E y_Dc_isFormatFree b_Dc_isFormatFree 1 (some .boolean) rm (.ref b :: As) H Qc) (hrecv : DcO E H b v n d k mk) (hn : As.length = 0) (hsize : ls.size = nL) (hst : st0 = As.reverse ++ .ref b :: rest) (hW : (rest.map fun v => v.category).sum ≤ 8) (hdg : decode cc pc = .ok (.invokevirtual 116, 3)) (hR : rm.frames + 1 ≤ R.frames ∧ 8 + (1 + 11) + rm.locals ≤ R.locals) (hf : cells + rm.cells ≤ R.cells ∧ slots + rm.slots ≤ R.slots) : va_Run p l e R s m args below meth c H locs cells slots rm.cells rm.slots (F0 m pc ls st0) rest (Qc (Value.ref b :: As).toArray) (fun q => eB E ≤ q) := by
  cases v with
  | none => exact iv_Bl_116_Dc cx hM hrecv hn hsize hst hW hdg hR hf
  | some x => exact iv_Bl_116_Tp cx hM hrecv hn hsize hst hW hdg hR hf
theorem ivd_Bl_79 (cx : Cx E p s m args meth c "BaselineText$Baseline" cc nL ret) (hM : Ct l E y_Dc_addLine b_Dc_addLine 5 none rm (.ref b :: As) H Qc) (hrecv : DcO E H b v n d k mk) (hn : As.length = 3) (hsize : ls.size = nL) (hst : st0 = As.reverse ++ .ref b :: rest) (hW : (rest.map fun v => v.category).sum ≤ 8) (hdg : decode cc pc = .ok (.invokevirtual 79, 3)) (hR : rm.frames + 1 ≤ R.frames ∧ 8 + (5 + 11) + rm.locals ≤ R.locals) (hf : cells + rm.cells ≤ R.cells ∧ slots + rm.slots ≤ R.slots) : va_Run p l e R s m args below meth c H locs cells slots rm.cells rm.slots (F0 m pc ls st0) rest (Qc (Value.ref b :: As).toArray) (fun q => eB E ≤ q) := by
  cases v with
  | none => exact iv_Bl_79_Dc cx hM hrecv hn hsize hst hW hdg hR hf
  | some x => exact iv_Bl_79_Tp cx hM hrecv hn hsize hst hW hdg hR hf
theorem ivd_Bl_99 (cx : Cx E p s m args meth c "BaselineText$Baseline" cc nL ret) (hM : Ct l E y_Dc_isSame b_Dc_isSame 2 (some .boolean) rm (.ref b :: As) H Qc) (hrecv : DcO E H b v n d k mk) (hn : As.length = 1) (hsize : ls.size = nL) (hst : st0 = As.reverse ++ .ref b :: rest) (hW : (rest.map fun v => v.category).sum ≤ 8) (hdg : decode cc pc = .ok (.invokevirtual 99, 3)) (hR : rm.frames + 1 ≤ R.frames ∧ 8 + (2 + 11) + rm.locals ≤ R.locals) (hf : cells + rm.cells ≤ R.cells ∧ slots + rm.slots ≤ R.slots) : va_Run p l e R s m args below meth c H locs cells slots rm.cells rm.slots (F0 m pc ls st0) rest (Qc (Value.ref b :: As).toArray) (fun q => eB E ≤ q) := by
  cases v with
  | none => exact iv_Bl_99_Dc cx hM hrecv hn hsize hst hW hdg hR hf
  | some x => exact iv_Bl_99_Tp cx hM hrecv hn hsize hst hW hdg hR hf
theorem ivd_Dc_38 (cx : Cx E p s m args meth c "BaselineText$Declaration" cc nL ret) (hM : Ct l E y_Dc_compare b_Dc_compare 3 (some .int) rm (.ref b :: As) H Qc) (hrecv : DcO E H b v n d k mk) (hn : As.length = 1) (hsize : ls.size = nL) (hst : st0 = As.reverse ++ .ref b :: rest) (hW : (rest.map fun v => v.category).sum ≤ 8) (hdg : decode cc pc = .ok (.invokevirtual 38, 3)) (hR : rm.frames + 1 ≤ R.frames ∧ 8 + (3 + 11) + rm.locals ≤ R.locals) (hf : cells + rm.cells ≤ R.cells ∧ slots + rm.slots ≤ R.slots) : va_Run p l e R s m args below meth c H locs cells slots rm.cells rm.slots (F0 m pc ls st0) rest (Qc (Value.ref b :: As).toArray) (fun q => eB E ≤ q) := by
  cases v with
  | none => exact iv_Dc_38_Dc cx hM hrecv hn hsize hst hW hdg hR hf
  | some x => exact iv_Dc_38_Tp cx hM hrecv hn hsize hst hW hdg hR hf
theorem ivd_Sf_39 (cx : Cx E p s m args meth c "BaselineText$Shelf" cc nL ret) (hM : Ct l E y_Dc_compare b_Dc_compare 3 (some .int) rm (.ref b :: As) H Qc) (hrecv : DcO E H b v n d k mk) (hn : As.length = 1) (hsize : ls.size = nL) (hst : st0 = As.reverse ++ .ref b :: rest) (hW : (rest.map fun v => v.category).sum ≤ 8) (hdg : decode cc pc = .ok (.invokevirtual 39, 3)) (hR : rm.frames + 1 ≤ R.frames ∧ 8 + (3 + 11) + rm.locals ≤ R.locals) (hf : cells + rm.cells ≤ R.cells ∧ slots + rm.slots ≤ R.slots) : va_Run p l e R s m args below meth c H locs cells slots rm.cells rm.slots (F0 m pc ls st0) rest (Qc (Value.ref b :: As).toArray) (fun q => eB E ≤ q) := by
  cases v with
  | none => exact iv_Sf_39_Dc cx hM hrecv hn hsize hst hW hdg hR hf
  | some x => exact iv_Sf_39_Tp cx hM hrecv hn hsize hst hW hdg hR hf
theorem ivd_Tp_24 (cx : Cx E p s m args meth c "BaselineText$Type" cc nL ret) (hM : Ct l E y_Dc_copy b_Dc_copy 2 none rm (.ref b :: As) H Qc) (hrecv : DcO E H b v n d k mk) (hn : As.length = 1) (hsize : ls.size = nL) (hst : st0 = As.reverse ++ .ref b :: rest) (hW : (rest.map fun v => v.category).sum ≤ 8) (hdg : decode cc pc = .ok (.invokevirtual 24, 3)) (hR : rm.frames + 1 ≤ R.frames ∧ 8 + (2 + 11) + rm.locals ≤ R.locals) (hf : cells + rm.cells ≤ R.cells ∧ slots + rm.slots ≤ R.slots) : va_Run p l e R s m args below meth c H locs cells slots rm.cells rm.slots (F0 m pc ls st0) rest (Qc (Value.ref b :: As).toArray) (fun q => eB E ≤ q) := by
  cases v with
  | none => exact iv_Tp_24_Dc cx hM hrecv hn hsize hst hW hdg hR hf
  | some x => exact iv_Tp_24_Tp cx hM hrecv hn hsize hst hW hdg hR hf
theorem pd_Dc_27 {x : Nat} (cx : Cx E p s m args meth c "BaselineText$Declaration" cc nL ret) (he : DcO E H a v n d k mk) (hlo : hLo (eB E) locs) (hB : eB E ≤ a) (hdg : decode cc pc = .ok (.putfield 27, 3)) (kk : ∀ (H1 : Heap) (locs1 : List Loc), DcO E H1 a v n d x mk → H1.size = H.size → (∀ q : Nat, q ≠ a → H1[q]? = H[q]?) → hLo (eB E) locs1 → W p l e R s m args below meth c H1 locs1 cells slots Q (F0 m (pc + 3) ls (rest))) : W p l e R s m args below meth c H locs cells slots Q (F0 m pc ls (.int (nI x) :: .ref a :: rest)) := by
  cases v with
  | none => exact pf_Dc_27_Dc cx he hlo hB (Nat.le_of_ble_eq_true rfl) hdg kk
  | some y => exact pf_Dc_27_Tp cx he hlo hB (Nat.le_of_ble_eq_true rfl) hdg kk
theorem pd_Dc_31 {x : Nat} (cx : Cx E p s m args meth c "BaselineText$Declaration" cc nL ret) (he : DcO E H a v n d k mk) (hlo : hLo (eB E) locs) (hB : eB E ≤ a) (hdg : decode cc pc = .ok (.putfield 31, 3)) (kk : ∀ (H1 : Heap) (locs1 : List Loc), DcO E H1 a v n d k x → H1.size = H.size → (∀ q : Nat, q ≠ a → H1[q]? = H[q]?) → hLo (eB E) locs1 → W p l e R s m args below meth c H1 locs1 cells slots Q (F0 m (pc + 3) ls (rest))) : W p l e R s m args below meth c H locs cells slots Q (F0 m pc ls (.int (nI x) :: .ref a :: rest)) := by
  cases v with
  | none => exact pf_Dc_31_Dc cx he hlo hB (Nat.le_of_ble_eq_true rfl) hdg kk
  | some y => exact pf_Dc_31_Tp cx he hlo hB (Nat.le_of_ble_eq_true rfl) hdg kk
theorem pd_Rd_111 {x : Nat} (cx : Cx E p s m args meth c "BaselineText$Reader" cc nL ret) (he : DcO E H a v n d k mk) (hlo : hLo (eB E) locs) (hB : eB E ≤ a) (hdg : decode cc pc = .ok (.putfield 111, 3)) (kk : ∀ (H1 : Heap) (locs1 : List Loc), DcO E H1 a v n d x mk → H1.size = H.size → (∀ q : Nat, q ≠ a → H1[q]? = H[q]?) → hLo (eB E) locs1 → W p l e R s m args below meth c H1 locs1 cells slots Q (F0 m (pc + 3) ls (rest))) : W p l e R s m args below meth c H locs cells slots Q (F0 m pc ls (.int (nI x) :: .ref a :: rest)) := by
  cases v with
  | none => exact pf_Rd_111_Dc cx he hlo hB (Nat.le_of_ble_eq_true rfl) hdg kk
  | some y => exact pf_Rd_111_Tp cx he hlo hB (Nat.le_of_ble_eq_true rfl) hdg kk
theorem pd_Rd_143 {x : Nat} (cx : Cx E p s m args meth c "BaselineText$Reader" cc nL ret) (he : DcO E H a v n d k mk) (hlo : hLo (eB E) locs) (hB : eB E ≤ a) (hdg : decode cc pc = .ok (.putfield 143, 3)) (kk : ∀ (H1 : Heap) (locs1 : List Loc), DcO E H1 a v n d k x → H1.size = H.size → (∀ q : Nat, q ≠ a → H1[q]? = H[q]?) → hLo (eB E) locs1 → W p l e R s m args below meth c H1 locs1 cells slots Q (F0 m (pc + 3) ls (rest))) : W p l e R s m args below meth c H locs cells slots Q (F0 m pc ls (.int (nI x) :: .ref a :: rest)) := by
  cases v with
  | none => exact pf_Rd_143_Dc cx he hlo hB (Nat.le_of_ble_eq_true rfl) hdg kk
  | some y => exact pf_Rd_143_Tp cx he hlo hB (Nat.le_of_ble_eq_true rfl) hdg kk
end DSITES
set_option maxHeartbeats 4000000 in
set_option maxRecDepth 100000 in
theorem c_Rw_init (l : Launch) {E : hE} (hE : EnvOk E) {H : Heap} {a cap : Nat} (h : hOb (eD E) classes H a 0 [.null, .int 0, .int 0]) (hB : eB E ≤ a) (hH : eB E ≤ H.size) (hcap : cap ≤ 480) : Ct l E y_Rw_init b_Rw_init 2 none (rmA 1 1 cap) [.ref a, .int (nI cap)] H (hQv (fun H1 => Rw E H1 a H.size cap [] false ∧ hCh (fun q => q = a) H H1 ∧ H1.size = H.size + 1)) := by
  refine hx_enter hE (by decide) (Nat.le_of_ble_eq_true rfl) ?_
  intro p e s m args below meth c ls cx hnm hl
  have hl : lv_has ls 2 [(0, .ref a), (1, .int (nI cap))] := hl
  have hlo : hLo (eB E) [] := hLo.nil
  refine lv_aload_n cx.x cx.b d_Rw_init_0 rfl (lv_at hl 0 rfl) ?_
  refine W.objInit cx.x cx.b cx.o (cx.ts _ tw_38) (cx.ts _ tw_31) (cx.ts _ tw_32) rfl (hl.1.trans cx.ml.symm) rfl d_Rw_init_1 (Nat.le_of_ble_eq_true rfl) (Nat.le_of_ble_eq_true rfl) ?_
  refine W.eq (g2 := F0 m 4 ls []) rfl ?_
  refine lv_aload_n cx.x cx.b d_Rw_init_4 rfl (lv_at hl 0 rfl) ?_
  refine lv_iload_n cx.x cx.b d_Rw_init_5 rfl (lv_at hl 1 rfl) ?_
  refine hx_newa (atype := .char) (a0 := (cap, .inl (fun _ => 0))) cx.x cx.b (cx.ts _ tw_49) cx.K 1 rfl (fun _ => rfl) (nI_pos (by omega)) (nI_clamp (by omega)) (Nat.le_trans (Nat.mul_le_mul (show cap ≤ 5000 by omega) (show componentBytes (newarray.typeOf .char) ≤ 8 by decide)) (by decide)) (Nat.le_of_ble_eq_true rfl) (by show 0 + cap ≤ cap; omega) d_Rw_init_6 (fun H1 ha2 z_H1 o_H1 => ?_)
  have hlt := h.lt
  have h := h.eq (o_H1 _ hlt)
  refine pf_Rw_9_Rw (x := (some H.size)) cx hnm h hlo hB (Nat.le_of_ble_eq_true rfl) d_Rw_init_8 (fun H3 locs ho4 z_H3 o_H3 hlo => ?_)
  have ho4 : hOb (eD E) classes H3 a 0 [.ref H.size, .int 0, .int 0] := ho4
  exact hx_retv cx.x cx.b cx.r cx.k hlo (fun _ h => h) (Nat.le_refl _) (by show 0 + cap ≤ cap; omega) d_Rw_init_11 (⟨⟨ho4, ⟨_, hAi.eq (show hAi H1 H.size _ cap _ from ha2) (o_H3 _ (by omega)), fun i hi => absurd hi (Nat.not_lt_zero i)⟩, Nat.zero_le _, hcap, ⟨hB, hH, by omega⟩, fun x hx => absurd hx List.not_mem_nil⟩, hCh.tr (S := fun q => q = a) (hCh.new z_H1 o_H1) (hCh.put z_H3 o_H3 rfl), z_H3.trans z_H1⟩)

set_option maxHeartbeats 4000000 in
set_option maxRecDepth 100000 in
theorem c_Rw_addName (l : Launch) {E : hE} (hE : EnvOk E) {H : Heap} {a arr cap : Nat} {xs : List Nat} {o : Bool} (h : Rw E H a arr cap xs o) {b brr cbp fm : Nat} {ys : List Nat} {o2 : Bool} (h2 : Rw E H b brr cbp ys o2) (hd1 : b ≠ a) (hd2 : b ≠ arr) (hd3 : brr ≠ a) (hd4 : brr ≠ arr) (hfm : fm < 10) : Ct l E y_Rw_addName b_Rw_addName 4 none (rmA 1 0 0) [.ref a, .ref b, .int (nI fm)] H (hQv (fun H1 => Rw E H1 a arr cap ((escN fm ys).foldl (addR cap) (xs, o)).1 ((escN fm ys).foldl (addR cap) (xs, o)).2 ∧ hCh (rS a arr) H H1 ∧ H1.size = H.size)) := by
  refine hx_enter hE (by decide) (Nat.le_of_ble_eq_true rfl) ?_
  intro p e s m args below meth c ls cx hnm hl
  have hl : lv_has ls 4 [(0, .ref a), (1, .ref b), (2, .int (nI fm))] := hl
  have hlo : hLo (eB E) [] := hLo.nil
  generalize hQ : MQ below _ args s _ _ _ = Q
  have hle := h2.le
  have hx := h2.2.2.2.2.2
  have LP : ∀ (k : Nat) (locs : List Loc) (i : Nat) (xs1 : List Nat) (o1 : Bool) (H2 : Heap), hLo (eB E) locs → (ys.length - i < k) → (i ≤ ys.length) → (Rw E H2 a arr cap xs1 o1) → (hCh (rS a arr) H H2) → (H2.size = H.size) → ((escN fm (ys.drop i)).foldl (addR cap) (xs1, o1) = (escN fm ys).foldl (addR cap) (xs, o)) → ∀ ls, lv_has ls 4 [(3, .int (nI i)), (0, .ref a), (1, .ref b), (2, .int (nI fm))] → W p l e (rmA 1 0 0) s m args below meth c H2 locs 0 0 Q (F0 m 2 ls []) := by
    intro k
    induction k with
    | zero => intro locs i xs1 o1 H2 hlo hk hi hr hch hsz hj; exact absurd hk (by omega)
    | succ k ih =>
      intro locs i xs1 o1 H2 hlo hk hi hr hch hsz hj ls hl
      have h3 : Rw E H2 b brr cbp ys o2 := h2.ch hch (fun q => by rcases q with e | e; exact hd1 e; exact hd2 e) (fun q => by rcases q with e | e; exact hd3 e; exact hd4 e)
      obtain ⟨go, ⟨g, gf, gc⟩, gle, gcap, -, -⟩ := h3
      refine lv_iload_n cx.x cx.b d_Rw_addName_2 rfl (lv_at hl 0 rfl) ?_
      refine lv_aload_n cx.x cx.b d_Rw_addName_3 rfl (lv_at hl 2 rfl) ?_
      refine gf_Rw_15_Rw cx go rfl d_Rw_addName_4 ?_
      refine lv_icmp_ge (tgt := 48) cx.x cx.b d_Rw_addName_7 (by decide) (fun c1 => ?_) (fun c1 => ?_)
      · have c1 : ys.length ≤ i := (nI_leI (a := ys.length) (b := i) (by omega) (by omega)).mp c1
        rw [drop_nil c1] at hj
        have hj : (xs1, o1) = (escN fm ys).foldl (addR cap) (xs, o) := hj
        rw [← hj] at hQ
        rw [← hQ]
        exact hx_retv cx.x cx.b cx.r cx.k hlo (fun _ h => h) (Nat.le_of_ble_eq_true rfl) (Nat.le_of_ble_eq_true rfl) d_Rw_addName_48 (⟨hr, hch, hsz⟩)
      · have c1 : i < ys.length := Nat.not_le.mp (fun zz => c1 ((nI_leI (a := ys.length) (b := i) (by omega) (by omega)).mpr zz))
        have b1 := hx _ (getD_mem c1)
        rw [escN_drop c1, List.foldl_append] at hj
        refine lv_iload_n cx.x cx.b d_Rw_addName_10 rfl (lv_at hl 3 rfl) ?_
        refine lv_iconst (v := 1) cx.x cx.b d_Rw_addName_11 (by decide) ?_
        refine lv_icmp_ne (tgt := 32) cx.x cx.b d_Rw_addName_12 (by decide) (fun c2 => ?_) (fun c2 => ?_)
        · have c2 : fm ≠ 1 := fun zz => c2 ((nI_eq (a := fm) (b := 1) (by omega) (by omega)).mpr zz)
          have han : addN fm (ys.getD i 0) = [ys.getD i 0] := by unfold addN; rw [if_neg (fun z => c2 z.1)]
          refine lv_aload_n cx.x cx.b d_Rw_addName_32 rfl (lv_at hl 1 rfl) ?_
          refine lv_aload_n cx.x cx.b d_Rw_addName_33 rfl (lv_at hl 2 rfl) ?_
          refine gf_Rw_9_Rw cx go rfl d_Rw_addName_34 ?_
          refine lv_iload_n cx.x cx.b d_Rw_addName_37 rfl (lv_at hl 0 rfl) ?_
          refine hx_cald cx.x cx.b cx.K 1 gf rfl (vp_in_nI (by omega) (by omega)) d_Rw_addName_38 ?_
          refine lv_topi (fun x5 e_x5 => ?_)
          rw [nI_clamp (by omega), gc i c1] at e_x5
          subst e_x5
          refine hx_callv (iv_Rw_32_Rw cx (c_Rw_add l hE hr b1) hr.1 rfl hl.1 rfl (Nat.le_of_ble_eq_true rfl) d_Rw_addName_39 ⟨Nat.le_of_ble_eq_true rfl, Nat.le_of_ble_eq_true rfl⟩ ⟨Nat.le_of_ble_eq_true rfl, Nat.le_of_ble_eq_true rfl⟩) hlo (fun _ h => h) (fun H7 locs hp6 hlo => ?_)
          obtain ⟨q1, q2, q3⟩ := hp6
          obtain ⟨x8, e_x8⟩ : ∃ y : Int32, y = nI i + 1 := ⟨_, rfl⟩
          refine lv_iinc (v := x8) (lv' := [(3, .int x8), (0, .ref a), (1, .ref b), (2, .int (nI fm))]) cx.x cx.b d_Rw_addName_42 hl (k := 0) rfl (by rw [e_x8]; rfl) (by decide) rfl (fun ls hl => ?_)
          refine lv_goto (tgt := 2) cx.x cx.b d_Rw_addName_45 (by decide) ?_
          rw [nI_1] at e_x8
          subst e_x8
          rw [han] at hj
          exact ih _ (i + 1) _ _ _ hlo (by omega) (by omega) q1 (hch.tr q2) (q3.trans hsz) hj _ hl
        · have c2 : fm = 1 := (nI_eq (a := fm) (b := 1) (by omega) (by omega)).mp c2
          refine lv_aload_n cx.x cx.b d_Rw_addName_15 rfl (lv_at hl 2 rfl) ?_
          refine gf_Rw_9_Rw cx go rfl d_Rw_addName_16 ?_
          refine lv_iload_n cx.x cx.b d_Rw_addName_19 rfl (lv_at hl 0 rfl) ?_
          refine hx_cald cx.x cx.b cx.K 1 gf rfl (vp_in_nI (by omega) (by omega)) d_Rw_addName_20 ?_
          refine lv_topi (fun x9 e_x9 => ?_)
          rw [nI_clamp (by omega), gc i c1] at e_x9
          subst e_x9
          refine lv_bipush (v := 36) cx.x cx.b d_Rw_addName_21 (by decide) ?_
          refine lv_icmp_ne (tgt := 32) cx.x cx.b d_Rw_addName_23 (by decide) (fun c3 => ?_) (fun c3 => ?_)
          · have c3 : (ys.getD i 0) ≠ 36 := fun zz => c3 ((nI_eq (a := (ys.getD i 0)) (b := 36) (by omega) (by omega)).mpr zz)
            have han : addN fm (ys.getD i 0) = [ys.getD i 0] := by unfold addN; rw [if_neg (fun z => c3 z.2)]
            refine lv_aload_n cx.x cx.b d_Rw_addName_32 rfl (lv_at hl 1 rfl) ?_
            refine lv_aload_n cx.x cx.b d_Rw_addName_33 rfl (lv_at hl 2 rfl) ?_
            refine gf_Rw_9_Rw cx go rfl d_Rw_addName_34 ?_
            refine lv_iload_n cx.x cx.b d_Rw_addName_37 rfl (lv_at hl 0 rfl) ?_
            refine hx_cald cx.x cx.b cx.K 1 gf rfl (vp_in_nI (by omega) (by omega)) d_Rw_addName_38 ?_
            refine lv_topi (fun x10 e_x10 => ?_)
            rw [nI_clamp (by omega), gc i c1] at e_x10
            subst e_x10
            refine hx_callv (iv_Rw_32_Rw cx (c_Rw_add l hE hr b1) hr.1 rfl hl.1 rfl (Nat.le_of_ble_eq_true rfl) d_Rw_addName_39 ⟨Nat.le_of_ble_eq_true rfl, Nat.le_of_ble_eq_true rfl⟩ ⟨Nat.le_of_ble_eq_true rfl, Nat.le_of_ble_eq_true rfl⟩) hlo (fun _ h => h) (fun H12 locs hp11 hlo => ?_)
            obtain ⟨q1, q2, q3⟩ := hp11
            obtain ⟨x13, e_x13⟩ : ∃ y : Int32, y = nI i + 1 := ⟨_, rfl⟩
            refine lv_iinc (v := x13) (lv' := [(3, .int x13), (0, .ref a), (1, .ref b), (2, .int (nI fm))]) cx.x cx.b d_Rw_addName_42 hl (k := 0) rfl (by rw [e_x13]; rfl) (by decide) rfl (fun ls hl => ?_)
            refine lv_goto (tgt := 2) cx.x cx.b d_Rw_addName_45 (by decide) ?_
            rw [nI_1] at e_x13
            subst e_x13
            rw [han] at hj
            exact ih _ (i + 1) _ _ _ hlo (by omega) (by omega) q1 (hch.tr q2) (q3.trans hsz) hj _ hl
          · have c3 : (ys.getD i 0) = 36 := (nI_eq (a := (ys.getD i 0)) (b := 36) (by omega) (by omega)).mp c3
            refine lv_aload_n cx.x cx.b d_Rw_addName_26 rfl (lv_at hl 1 rfl) ?_
            refine lv_bipush (v := 37) cx.x cx.b d_Rw_addName_27 (by decide) ?_
            have hadd := c_Rw_add l hE hr (x := 37) (by omega)
            refine hx_callv (iv_Rw_32_Rw cx (hadd) hr.1 rfl hl.1 rfl (Nat.le_of_ble_eq_true rfl) d_Rw_addName_29 ⟨Nat.le_of_ble_eq_true rfl, Nat.le_of_ble_eq_true rfl⟩ ⟨Nat.le_of_ble_eq_true rfl, Nat.le_of_ble_eq_true rfl⟩) hlo (fun _ h => h) (fun H15 locs hp14 hlo => ?_)
            obtain ⟨p1, p2, p3⟩ := hp14
            have hch2 := hch.tr p2
            have hsz2 := p3.trans hsz
            have h3 : Rw E H15 b brr cbp ys o2 := h2.ch hch2 (fun q => by rcases q with e | e; exact hd1 e; exact hd2 e) (fun q => by rcases q with e | e; exact hd3 e; exact hd4 e)
            obtain ⟨go9, ⟨g9, gf9, gc9⟩, gle9, gcap9, -, -⟩ := h3
            have han : addN fm (ys.getD i 0) = [37, ys.getD i 0] := by unfold addN; rw [if_pos ⟨c2, c3⟩, c3]
            refine lv_aload_n cx.x cx.b d_Rw_addName_32 rfl (lv_at hl 1 rfl) ?_
            refine lv_aload_n cx.x cx.b d_Rw_addName_33 rfl (lv_at hl 2 rfl) ?_
            refine gf_Rw_9_Rw cx go9 rfl d_Rw_addName_34 ?_
            refine lv_iload_n cx.x cx.b d_Rw_addName_37 rfl (lv_at hl 0 rfl) ?_
            refine hx_cald cx.x cx.b cx.K 1 gf9 rfl (vp_in_nI (by omega) (by omega)) d_Rw_addName_38 ?_
            refine lv_topi (fun x16 e_x16 => ?_)
            rw [nI_clamp (by omega), gc9 i c1] at e_x16
            subst e_x16
            refine hx_callv (iv_Rw_32_Rw cx (c_Rw_add l hE p1 b1) p1.1 rfl hl.1 rfl (Nat.le_of_ble_eq_true rfl) d_Rw_addName_39 ⟨Nat.le_of_ble_eq_true rfl, Nat.le_of_ble_eq_true rfl⟩ ⟨Nat.le_of_ble_eq_true rfl, Nat.le_of_ble_eq_true rfl⟩) hlo (fun _ h => h) (fun H18 locs hp17 hlo => ?_)
            obtain ⟨q1, q2, q3⟩ := hp17
            obtain ⟨x19, e_x19⟩ : ∃ y : Int32, y = nI i + 1 := ⟨_, rfl⟩
            refine lv_iinc (v := x19) (lv' := [(3, .int x19), (0, .ref a), (1, .ref b), (2, .int (nI fm))]) cx.x cx.b d_Rw_addName_42 hl (k := 0) rfl (by rw [e_x19]; rfl) (by decide) rfl (fun ls hl => ?_)
            refine lv_goto (tgt := 2) cx.x cx.b d_Rw_addName_45 (by decide) ?_
            rw [nI_1] at e_x19
            subst e_x19
            rw [han] at hj
            exact ih _ (i + 1) _ _ _ hlo (by omega) (by omega) q1 (hch2.tr q2) (q3.trans hsz2) hj _ hl
  refine lv_iconst (v := 0) cx.x cx.b d_Rw_addName_0 (by decide) ?_
  refine lv_istore_n (lv' := [(3, .int 0), (0, .ref a), (1, .ref b), (2, .int (nI fm))]) cx.x cx.b d_Rw_addName_1 rfl hl (by decide) rfl (fun ls hl => ?_)
  exact LP (ys.length + 1) _ 0 _ _ _ hlo (by omega) (Nat.zero_le _) h hCh.rf rfl (by rw [List.drop_zero]) _ hl

set_option maxHeartbeats 4000000 in
set_option maxRecDepth 100000 in
theorem c_Dc_compare (l : Launch) {E : hE} (hE : EnvOk E) {H : Heap} {ad : DA} {v : Option Nat} {dv : DV} {o1 o2 : Bool} (h : Dc E H ad v dv o1 o2) {bd : DA} {w : Option Nat} {dw : DV} {p1 p2 : Bool} (g : Dc E H bd w dw p1 p2) : Ct l E y_Dc_compare b_Dc_compare 3 (some .int) (rmA 1 0 0) [.ref ad.1, .ref bd.1] H (hQi (fun r H1 => r.toInt = cmpD dv dw ∧ H1 = H)) := by
  refine hx_enter hE (by decide) (Nat.le_of_ble_eq_true rfl) ?_
  intro p e s m args below meth c ls cx hnm hl
  have hl : lv_has ls 3 [(0, .ref ad.1), (1, .ref bd.1)] := hl
  have hlo : hLo (eB E) [] := hLo.nil
  have k1 := h.2.2.2.2.2.1
  have k2 := g.2.2.2.2.2.1
  refine lv_aload_n cx.x cx.b d_Dc_compare_0 rfl (lv_at hl 0 rfl) ?_
  refine gd_Dc_14 cx h.1 d_Dc_compare_1 ?_
  refine lv_aload_n cx.x cx.b d_Dc_compare_4 rfl (lv_at hl 1 rfl) ?_
  refine gd_Dc_14 cx g.1 d_Dc_compare_5 ?_
  refine hx_calli (iv_Dc_34_Rw cx (c_Rw_compare l hE h.2.1 g.2.1) h.2.1.1 rfl hl.1 rfl (Nat.le_of_ble_eq_true rfl) d_Dc_compare_8 ⟨Nat.le_of_ble_eq_true rfl, Nat.le_of_ble_eq_true rfl⟩ ⟨Nat.le_of_ble_eq_true rfl, Nat.le_of_ble_eq_true rfl⟩) hlo (fun _ h => h) (fun r22 H21 locs hp20 hlo => ?_)
  obtain ⟨hp20, hH9⟩ := hp20
  have hH9 := hH9.symm
  subst hH9
  refine lv_istore_n (lv' := [(2, .int r22), (0, .ref ad.1), (1, .ref bd.1)]) cx.x cx.b d_Dc_compare_11 rfl hl (by decide) rfl (fun ls hl => ?_)
  refine lv_iload_n cx.x cx.b d_Dc_compare_12 rfl (lv_at hl 0 rfl) ?_
  refine lv_if_ne (tgt := 26) cx.x cx.b d_Dc_compare_13 (by decide) (fun c1 => ?_) (fun c1 => ?_)
  · have hz : cmpL dv.1 dw.1 ≠ 0 := fun q => c1 (i32_ne.mpr (by rw [hp20, q]))
    refine lv_iload_n cx.x cx.b d_Dc_compare_26 rfl (lv_at hl 0 rfl) ?_
    refine lv_if_ne (tgt := 44) cx.x cx.b d_Dc_compare_27 (by decide) (fun _ => ?_) (fun c => absurd c c1)
    refine lv_iload_n cx.x cx.b d_Dc_compare_44 rfl (lv_at hl 0 rfl) ?_
    exact hx_reti cx.x cx.b cx.r cx.k rfl hlo (fun _ h => h) (Nat.le_of_ble_eq_true rfl) (Nat.le_of_ble_eq_true rfl) d_Dc_compare_45 (⟨by unfold cmpD; rw [if_pos hz]; exact hp20, rfl⟩)
  · have hz : cmpL dv.1 dw.1 = 0 := by rw [← hp20]; exact i32_ne.mp c1
    refine lv_aload_n cx.x cx.b d_Dc_compare_16 rfl (lv_at hl 1 rfl) ?_
    refine gd_Dc_27 cx h.1 d_Dc_compare_17 ?_
    refine lv_aload_n cx.x cx.b d_Dc_compare_20 rfl (lv_at hl 2 rfl) ?_
    refine gd_Dc_27 cx g.1 d_Dc_compare_21 ?_
    refine lv_isub cx.x cx.b d_Dc_compare_24 ?_
    refine lv_topi (fun x23 e_x23 => ?_)
    refine lv_istore_n (lv' := [(2, .int x23), (0, .ref ad.1), (1, .ref bd.1)]) cx.x cx.b d_Dc_compare_25 rfl hl (by decide) rfl (fun ls hl => ?_)
    refine lv_iload_n cx.x cx.b d_Dc_compare_26 rfl (lv_at hl 0 rfl) ?_
    have hk : x23.toInt = (dv.2.2.1 : Int) - dw.2.2.1 := by rw [e_x23, pk_sub_toInt (by omega) (by omega)]
    refine lv_if_ne (tgt := 44) cx.x cx.b d_Dc_compare_27 (by decide) (fun c2 => ?_) (fun c2 => ?_)
    · have hk2 : dv.2.2.1 ≠ dw.2.2.1 := fun q => c2 (i32_ne.mpr (by rw [hk, q]; omega))
      refine lv_iload_n cx.x cx.b d_Dc_compare_44 rfl (lv_at hl 0 rfl) ?_
      exact hx_reti cx.x cx.b cx.r cx.k rfl hlo (fun _ h => h) (Nat.le_of_ble_eq_true rfl) (Nat.le_of_ble_eq_true rfl) d_Dc_compare_45 (⟨by unfold cmpD; rw [if_neg (fun z => z hz), if_pos hk2]; exact hk, rfl⟩)
    · have hk2 : ¬ dv.2.2.1 ≠ dw.2.2.1 := fun q => q (by have := i32_ne.mp c2; omega)
      refine lv_aload_n cx.x cx.b d_Dc_compare_30 rfl (lv_at hl 1 rfl) ?_
      refine gd_Dc_20 cx h.1 d_Dc_compare_31 ?_
      refine lv_aload_n cx.x cx.b d_Dc_compare_34 rfl (lv_at hl 2 rfl) ?_
      refine gd_Dc_20 cx g.1 d_Dc_compare_35 ?_
      refine hx_calli (iv_Dc_34_Rw cx (c_Rw_compare l hE h.2.2.1 g.2.2.1) h.2.2.1.1 rfl hl.1 rfl (Nat.le_of_ble_eq_true rfl) d_Dc_compare_38 ⟨Nat.le_of_ble_eq_true rfl, Nat.le_of_ble_eq_true rfl⟩ ⟨Nat.le_of_ble_eq_true rfl, Nat.le_of_ble_eq_true rfl⟩) hlo (fun _ h => h) (fun r26 H25 locs hp24 hlo => ?_)
      obtain ⟨hp24, hH9⟩ := hp24
      have hH9 := hH9.symm
      subst hH9
      refine lv_goto (tgt := 45) cx.x cx.b d_Dc_compare_41 (by decide) ?_
      exact hx_reti cx.x cx.b cx.r cx.k rfl hlo (fun _ h => h) (Nat.le_of_ble_eq_true rfl) (Nat.le_of_ble_eq_true rfl) d_Dc_compare_45 (⟨by unfold cmpD; rw [if_neg (fun z => z hz), if_neg hk2]; exact hp24, rfl⟩)

set_option maxHeartbeats 4000000 in
set_option maxRecDepth 100000 in
theorem c_Dc_isSame (l : Launch) {E : hE} (hE : EnvOk E) {H : Heap} {ad : DA} {v : Option Nat} {dv : DV} {o1 o2 : Bool} (h : Dc E H ad v dv o1 o2) {bd : DA} {w : Option Nat} {dw : DV} {p1 p2 : Bool} (g : Dc E H bd w dw p1 p2) : Ct l E y_Dc_isSame b_Dc_isSame 2 (some .boolean) (rmA 2 0 0) [.ref ad.1, .ref bd.1] H (hQi (fun r H1 => r = bI (decide (dv.2.2.2 = dw.2.2.2 ∧ cmpD dv dw = 0)) ∧ H1 = H)) := by
  refine hx_enter hE (by decide) (Nat.le_of_ble_eq_true rfl) ?_
  intro p e s m args below meth c ls cx hnm hl
  have hl : lv_has ls 2 [(0, .ref ad.1), (1, .ref bd.1)] := hl
  have hlo : hLo (eB E) [] := hLo.nil
  have k1 := h.2.2.2.2.2.2
  have k2 := g.2.2.2.2.2.2
  refine lv_aload_n cx.x cx.b d_Dc_isSame_0 rfl (lv_at hl 0 rfl) ?_
  refine gd_Dc_31 cx h.1 d_Dc_isSame_1 ?_
  refine lv_aload_n cx.x cx.b d_Dc_isSame_4 rfl (lv_at hl 1 rfl) ?_
  refine gd_Dc_31 cx g.1 d_Dc_isSame_5 ?_
  refine lv_icmp_ne (tgt := 23) cx.x cx.b d_Dc_isSame_8 (by decide) (fun c1 => ?_) (fun c1 => ?_)
  · have c1 : dv.2.2.2 ≠ dw.2.2.2 := fun zz => c1 ((nI_eq (a := dv.2.2.2) (b := dw.2.2.2) (by omega) (by omega)).mpr zz)
    refine lv_iconst (v := 0) cx.x cx.b d_Dc_isSame_23 (by decide) ?_
    exact hx_reti cx.x cx.b cx.r cx.k rfl hlo (fun _ h => h) (Nat.le_of_ble_eq_true rfl) (Nat.le_of_ble_eq_true rfl) d_Dc_isSame_24 (⟨by rw [show decide (dv.2.2.2 = dw.2.2.2 ∧ cmpD dv dw = 0) = false from decide_eq_false (fun z => c1 z.1)]; rfl, rfl⟩)
  · have c1 : dv.2.2.2 = dw.2.2.2 := (nI_eq (a := dv.2.2.2) (b := dw.2.2.2) (by omega) (by omega)).mp c1
    refine lv_aload_n cx.x cx.b d_Dc_isSame_11 rfl (lv_at hl 0 rfl) ?_
    refine lv_aload_n cx.x cx.b d_Dc_isSame_12 rfl (lv_at hl 1 rfl) ?_
    refine hx_calli (ivd_Dc_38 cx (c_Dc_compare l hE h g) h.1 rfl hl.1 rfl (Nat.le_of_ble_eq_true rfl) d_Dc_isSame_13 ⟨Nat.le_of_ble_eq_true rfl, Nat.le_of_ble_eq_true rfl⟩ ⟨Nat.le_of_ble_eq_true rfl, Nat.le_of_ble_eq_true rfl⟩) hlo (fun _ h => h) (fun r29 H28 locs hp27 hlo => ?_)
    obtain ⟨hp27, hH9⟩ := hp27
    have hH9 := hH9.symm
    subst hH9
    refine lv_if_ne (tgt := 23) cx.x cx.b d_Dc_isSame_16 (by decide) (fun c2 => ?_) (fun c2 => ?_)
    · refine lv_iconst (v := 0) cx.x cx.b d_Dc_isSame_23 (by decide) ?_
      exact hx_reti cx.x cx.b cx.r cx.k rfl hlo (fun _ h => h) (Nat.le_of_ble_eq_true rfl) (Nat.le_of_ble_eq_true rfl) d_Dc_isSame_24 (⟨by rw [show decide (dv.2.2.2 = dw.2.2.2 ∧ cmpD dv dw = 0) = false from decide_eq_false (fun z => c2 (i32_ne.mpr (by rw [hp27]; exact z.2)))]; rfl, rfl⟩)
    · refine lv_iconst (v := 1) cx.x cx.b d_Dc_isSame_19 (by decide) ?_
      refine lv_goto (tgt := 24) cx.x cx.b d_Dc_isSame_20 (by decide) ?_
      exact hx_reti cx.x cx.b cx.r cx.k rfl hlo (fun _ h => h) (Nat.le_of_ble_eq_true rfl) (Nat.le_of_ble_eq_true rfl) d_Dc_isSame_24 (⟨by rw [show decide (dv.2.2.2 = dw.2.2.2 ∧ cmpD dv dw = 0) = true from decide_eq_true ⟨c1, by rw [← hp27]; exact i32_ne.mp c2⟩]; rfl, rfl⟩)

set_option maxHeartbeats 4000000 in
set_option maxRecDepth 100000 in
theorem c_Dc_isFormatFree (l : Launch) {E : hE} (hE : EnvOk E) {H : Heap} {ad : DA} {v : Option Nat} {dv : DV} {o1 o2 : Bool} (h : Dc E H ad v dv o1 o2) : Ct l E y_Dc_isFormatFree b_Dc_isFormatFree 1 (some .boolean) (rmA 1 0 0) [.ref ad.1] H (hQi (fun r H1 => r = bI (decide (36 ∉ dv.1 ∧ 36 ∉ dv.2.1)) ∧ H1 = H)) := by
  refine hx_enter hE (by decide) (Nat.le_of_ble_eq_true rfl) ?_
  intro p e s m args below meth c ls cx hnm hl
  have hl : lv_has ls 1 [(0, .ref ad.1)] := hl
  have hlo : hLo (eB E) [] := hLo.nil
  refine lv_aload_n cx.x cx.b d_Dc_isFormatFree_0 rfl (lv_at hl 0 rfl) ?_
  refine gd_Dc_14 cx h.1 d_Dc_isFormatFree_1 ?_
  refine lv_bipush (v := 36) cx.x cx.b d_Dc_isFormatFree_4 (by decide) ?_
  refine hx_calli (iv_Dc_41_Rw cx (c_Rw_contains l hE h.2.1 (ch := 36) (by omega)) h.2.1.1 rfl hl.1 rfl (Nat.le_of_ble_eq_true rfl) d_Dc_isFormatFree_6 ⟨Nat.le_of_ble_eq_true rfl, Nat.le_of_ble_eq_true rfl⟩ ⟨Nat.le_of_ble_eq_true rfl, Nat.le_of_ble_eq_true rfl⟩) hlo (fun _ h => h) (fun r32 H31 locs hp30 hlo => ?_)
  obtain ⟨hp30, hH9⟩ := hp30
  have hH9 := hH9.symm
  subst hH9
  subst hp30
  by_cases c1 : 36 ∈ dv.1
  · rw [show decide (36 ∈ dv.1) = true from decide_eq_true c1]
    refine lv_if_ne (tgt := 28) cx.x cx.b d_Dc_isFormatFree_9 (by decide) (fun _ => ?_) (fun c => absurd c (by decide))
    refine lv_iconst (v := 0) cx.x cx.b d_Dc_isFormatFree_28 (by decide) ?_
    exact hx_reti cx.x cx.b cx.r cx.k rfl hlo (fun _ h => h) (Nat.le_of_ble_eq_true rfl) (Nat.le_of_ble_eq_true rfl) d_Dc_isFormatFree_29 (⟨by rw [show decide (36 ∉ dv.1 ∧ 36 ∉ dv.2.1) = false from decide_eq_false (fun z => z.1 c1)]; rfl, rfl⟩)
  · rw [show decide (36 ∈ dv.1) = false from decide_eq_false c1]
    refine lv_if_ne (tgt := 28) cx.x cx.b d_Dc_isFormatFree_9 (by decide) (fun c => absurd (by decide) c) (fun _ => ?_)
    refine lv_aload_n cx.x cx.b d_Dc_isFormatFree_12 rfl (lv_at hl 0 rfl) ?_
    refine gd_Dc_20 cx h.1 d_Dc_isFormatFree_13 ?_
    refine lv_bipush (v := 36) cx.x cx.b d_Dc_isFormatFree_16 (by decide) ?_
    refine hx_calli (iv_Dc_41_Rw cx (c_Rw_contains l hE h.2.2.1 (ch := 36) (by omega)) h.2.2.1.1 rfl hl.1 rfl (Nat.le_of_ble_eq_true rfl) d_Dc_isFormatFree_18 ⟨Nat.le_of_ble_eq_true rfl, Nat.le_of_ble_eq_true rfl⟩ ⟨Nat.le_of_ble_eq_true rfl, Nat.le_of_ble_eq_true rfl⟩) hlo (fun _ h => h) (fun r35 H34 locs hp33 hlo => ?_)
    obtain ⟨hp33, hH9⟩ := hp33
    have hH9 := hH9.symm
    subst hH9
    subst hp33
    by_cases c2 : 36 ∈ dv.2.1
    · rw [show decide (36 ∈ dv.2.1) = true from decide_eq_true c2]
      refine lv_if_ne (tgt := 28) cx.x cx.b d_Dc_isFormatFree_21 (by decide) (fun _ => ?_) (fun c => absurd c (by decide))
      refine lv_iconst (v := 0) cx.x cx.b d_Dc_isFormatFree_28 (by decide) ?_
      exact hx_reti cx.x cx.b cx.r cx.k rfl hlo (fun _ h => h) (Nat.le_of_ble_eq_true rfl) (Nat.le_of_ble_eq_true rfl) d_Dc_isFormatFree_29 (⟨by rw [show decide (36 ∉ dv.1 ∧ 36 ∉ dv.2.1) = false from decide_eq_false (fun z => z.2 c2)]; rfl, rfl⟩)
    · rw [show decide (36 ∈ dv.2.1) = false from decide_eq_false c2]
      refine lv_if_ne (tgt := 28) cx.x cx.b d_Dc_isFormatFree_21 (by decide) (fun c => absurd (by decide) c) (fun _ => ?_)
      refine lv_iconst (v := 1) cx.x cx.b d_Dc_isFormatFree_24 (by decide) ?_
      refine lv_goto (tgt := 29) cx.x cx.b d_Dc_isFormatFree_25 (by decide) ?_
      exact hx_reti cx.x cx.b cx.r cx.k rfl hlo (fun _ h => h) (Nat.le_of_ble_eq_true rfl) (Nat.le_of_ble_eq_true rfl) d_Dc_isFormatFree_29 (⟨by rw [show decide (36 ∉ dv.1 ∧ 36 ∉ dv.2.1) = true from decide_eq_true ⟨c1, c2⟩]; rfl, rfl⟩)

set_option maxHeartbeats 4000000 in
set_option maxRecDepth 100000 in
theorem c_Dc_copy (l : Launch) {E : hE} (hE : EnvOk E) {H : Heap} {ad : DA} {v : Option Nat} {dv : DV} {o1 o2 : Bool} (h : Dc E H ad v dv o1 o2) {bd : DA} {w : Option Nat} {dw : DV} {p1 p2 : Bool} (g : Dc E H bd w dw p1 p2) (hap : ∀ q, dcS bd q → ¬ dcS ad q) : Ct l E y_Dc_copy b_Dc_copy 2 none (rmA 2 0 0) [.ref ad.1, .ref bd.1] H (hQv (fun H1 => Dc E H1 ad v dw false false ∧ hCh (dcS ad) H H1 ∧ H1.size = H.size)) := by
  refine hx_enter hE (by decide) (Nat.le_of_ble_eq_true rfl) ?_
  intro p e s m args below meth c ls cx hnm hl
  have hl : lv_has ls 2 [(0, .ref ad.1), (1, .ref bd.1)] := hl
  have hlo : hLo (eB E) [] := hLo.nil
  have hB := h.2.2.2.1
  have hn := h.2.2.2.2.1
  have bl1 : dw.1.length ≤ 20 := g.2.1.2.2.1
  have bl2 : dw.2.1.length ≤ 20 := g.2.2.1.2.2.1
  refine lv_aload_n cx.x cx.b d_Dc_copy_0 rfl (lv_at hl 0 rfl) ?_
  refine gd_Dc_14 cx h.1 d_Dc_copy_1 ?_
  refine lv_aload_n cx.x cx.b d_Dc_copy_4 rfl (lv_at hl 1 rfl) ?_
  refine gd_Dc_14 cx g.1 d_Dc_copy_5 ?_
  refine hx_callv (iv_Dc_23_Rw cx (c_Rw_copy l hE h.2.1 g.2.1 (fun e => hap _ (Or.inr (Or.inl (Or.inl rfl))) (e ▸ (Or.inr (Or.inl (Or.inl rfl))))) (fun e => hap _ (Or.inr (Or.inl (Or.inl rfl))) (e ▸ (Or.inr (Or.inl (Or.inr rfl))))) (fun e => hap _ (Or.inr (Or.inl (Or.inr rfl))) (e ▸ (Or.inr (Or.inl (Or.inl rfl))))) (fun e => hap _ (Or.inr (Or.inl (Or.inr rfl))) (e ▸ (Or.inr (Or.inl (Or.inr rfl)))))) h.2.1.1 rfl hl.1 rfl (Nat.le_of_ble_eq_true rfl) d_Dc_copy_8 ⟨Nat.le_of_ble_eq_true rfl, Nat.le_of_ble_eq_true rfl⟩ ⟨Nat.le_of_ble_eq_true rfl, Nat.le_of_ble_eq_true rfl⟩) hlo (fun _ h => h) (fun H37 locs hp36 hlo => ?_)
  obtain ⟨q1, q2, q3⟩ := hp36
  rw [addR_all 20 dw.1 [] (by simpa using bl1)] at q1
  have c1 : hCh (dcS ad) H H37 := q2.mono (fun q _ hq => Or.inr (Or.inl hq))
  have g1 := g.ch c1 hap
  have a1 := h.1.ch q2 (fun e => by rcases e with e | e; exact hn.1 e; exact hn.2.1 e)
  have a2 := h.2.2.1.ch q2 (fun e => by rcases e with e | e; exact hn.2.2.2.2.1 e.symm; exact hn.2.2.2.2.2.2.1 e.symm) (fun e => by rcases e with e | e; exact hn.2.2.2.2.2.1 e.symm; exact hn.2.2.2.2.2.2.2 e.symm)
  refine lv_aload_n cx.x cx.b d_Dc_copy_11 rfl (lv_at hl 0 rfl) ?_
  refine gd_Dc_20 cx a1 d_Dc_copy_12 ?_
  refine lv_aload_n cx.x cx.b d_Dc_copy_15 rfl (lv_at hl 1 rfl) ?_
  refine gd_Dc_20 cx g1.1 d_Dc_copy_16 ?_
  refine hx_callv (iv_Dc_23_Rw cx (c_Rw_copy l hE a2 g1.2.2.1 (fun e => hap _ (Or.inr (Or.inr (Or.inl rfl))) (e ▸ (Or.inr (Or.inr (Or.inl rfl))))) (fun e => hap _ (Or.inr (Or.inr (Or.inl rfl))) (e ▸ (Or.inr (Or.inr (Or.inr rfl))))) (fun e => hap _ (Or.inr (Or.inr (Or.inr rfl))) (e ▸ (Or.inr (Or.inr (Or.inl rfl))))) (fun e => hap _ (Or.inr (Or.inr (Or.inr rfl))) (e ▸ (Or.inr (Or.inr (Or.inr rfl)))))) a2.1 rfl hl.1 rfl (Nat.le_of_ble_eq_true rfl) d_Dc_copy_19 ⟨Nat.le_of_ble_eq_true rfl, Nat.le_of_ble_eq_true rfl⟩ ⟨Nat.le_of_ble_eq_true rfl, Nat.le_of_ble_eq_true rfl⟩) hlo (fun _ h => h) (fun H39 locs hp38 hlo => ?_)
  obtain ⟨r1, r2, r3⟩ := hp38
  rw [addR_all 20 dw.2.1 [] (by simpa using bl2)] at r1
  have c2 : hCh (dcS ad) H H39 := c1.tr (r2.mono (fun q _ hq => Or.inr (Or.inr hq)))
  have g2 := g.ch c2 hap
  have a3 := a1.ch r2 (fun e => by rcases e with e | e; exact hn.2.2.1 e; exact hn.2.2.2.1 e)
  have a4 := q1.ch r2 (fun e => by rcases e with e | e; exact hn.2.2.2.2.1 e; exact hn.2.2.2.2.2.1 e) (fun e => by rcases e with e | e; exact hn.2.2.2.2.2.2.1 e; exact hn.2.2.2.2.2.2.2 e)
  refine lv_aload_n cx.x cx.b d_Dc_copy_22 rfl (lv_at hl 0 rfl) ?_
  refine lv_aload_n cx.x cx.b d_Dc_copy_23 rfl (lv_at hl 1 rfl) ?_
  refine gd_Dc_27 cx g2.1 d_Dc_copy_24 ?_
  refine pd_Dc_27 (x := dw.2.2.1) cx a3 hlo hB d_Dc_copy_27 (fun H40 locs ho41 z_H40 o_H40 hlo => ?_)
  have c3 : hCh (dcS ad) H H40 := c2.tr (hCh.put z_H40 o_H40 (Or.inl rfl))
  have g3 := g.ch c3 hap
  refine lv_aload_n cx.x cx.b d_Dc_copy_30 rfl (lv_at hl 0 rfl) ?_
  refine lv_aload_n cx.x cx.b d_Dc_copy_31 rfl (lv_at hl 1 rfl) ?_
  refine gd_Dc_31 cx g3.1 d_Dc_copy_32 ?_
  refine pd_Dc_31 (x := dw.2.2.2) cx ho41 hlo hB d_Dc_copy_35 (fun H42 locs ho43 z_H42 o_H42 hlo => ?_)
  have k3 : hCh (fun q => q = ad.1) H39 H42 := hCh.tr (S := fun q => q = ad.1) (hCh.put z_H40 o_H40 rfl) (hCh.put z_H42 o_H42 rfl)
  exact hx_retv cx.x cx.b cx.r cx.k hlo (fun _ h => h) (Nat.le_of_ble_eq_true rfl) (Nat.le_of_ble_eq_true rfl) d_Dc_copy_38 (⟨⟨ho43, a4.ch k3 (Ne.symm hn.1) (Ne.symm hn.2.1), r1.ch k3 (Ne.symm hn.2.2.1) (Ne.symm hn.2.2.2.1), hB, hn, g.2.2.2.2.2⟩, c3.tr (hCh.put z_H42 o_H42 (Or.inl rfl)), z_H42.trans (z_H40.trans (r3.trans q3))⟩)
