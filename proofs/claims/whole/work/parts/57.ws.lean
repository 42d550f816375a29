theorem LR0 : LR [] [] [] [] 2 2 g0 [] [] := by
  refine ⟨⟨⟨List.Perm.refl _, List.Pairwise.nil⟩, UInv.nil, fun u hu => (by cases hu)⟩, ⟨⟨List.Perm.refl _, List.Pairwise.nil⟩, UInv.nil, fun u hu => (by cases hu)⟩, ⟨fun x hx => (by cases hx), Nat.zero_le _, fun i hi => absurd hi (Nat.not_lt_zero i), rfl⟩, Or.inl rfl, ⟨⟨rfl, Nat.zero_le _, fun t ht => absurd ht (Nat.not_lt_zero t)⟩, rfl, Or.inr rfl⟩, ⟨⟨rfl, Nat.zero_le _, fun t ht => absurd ht (Nat.not_lt_zero t)⟩, rfl, Or.inr rfl⟩, ⟨rfl, fun i hi => absurd hi (Nat.not_lt_zero i)⟩, Nat.zero_le _⟩
set_option maxHeartbeats 8000000 in
set_option maxRecDepth 100000 in
/-- THE LAW, from its entry -/
theorem whole_start {p : Program} {e : Env} {s : State} {m : MethodId} {below : List Frame} {meth : Method} {c : Code} (l : Launch) {b L : Nat} {xs : Nat → Int32} (hL : L ≤ 3072) (C0 : lw_At p s m meth c b L xs) : W p l e room_1 s m #[Value.ref b] below meth c s.heap [] 0 0 (lw_Z below #[Value.ref b] s) (entryFrame m ([Value.ref b] : List Value).toArray 4) := by
  obtain ⟨hx, hb, hr, hml, hown, hts, hX, hbl, hlocks, hgv⟩ := C0
  obtain ⟨E, hEH, hEo, hES, hEL, hKX⟩ := start_env hts hgv
  have cx : Cx E p s m #[Value.ref b] meth c "BaselineTextLaw" code 4 (some .boolean) := ⟨⟨hx, hb, hml, hown, fun w hw => hts w (tg_lw hw)⟩, hr, hlocks, hKX, hEo⟩
  have hsz : s.heap.size = eB E := by rw [← hEH]
  have hX : va_X b L xs s (eH E) := by rw [hEH]; exact hX
  have hbl : b < eB E := by rw [← hsz]; exact hbl
  have hl := lv_entry ([.ref b] : List Value) (n := 4) (Nat.le_of_ble_eq_true rfl)
  rw [lg_entry_eq]
  generalize (lg_sl ([.ref b] : List Value) ++ List.replicate (4 - (lg_sl ([.ref b] : List Value)).length) Slot.unset).toArray = ls at hl ⊢
  have hl : lv_has ls 4 [(0, .ref b)] := hl
  have hlo : hLo (eB E) [] := hLo.nil
  have hO : Old E s.heap := ⟨Nat.le_of_eq hsz.symm, fun q _ => by rw [hEH]⟩
  refine nw_Lw_7 cx (Nat.le_of_ble_eq_true rfl) (Nat.le_of_ble_eq_true rfl) d_Lw_law_0 (fun H1 hn2 z_H1 o_H1 => ?_)
  have k1 : hCh (fun _ => False) s.heap H1 := hCh.new z_H1 o_H1
  have hO1 : Old E H1 := hO.ch k1 (fun q z => z.elim)
  refine lv_dup cx.x cx.b d_Lw_law_3 rfl ?_
  refine hx_callv (iv_Lw_9 cx (c_B_init l hEo hEL (H := H1) (a := s.heap.size) hn2 (by omega) hO1) rfl hl.1 rfl (Nat.le_of_ble_eq_true rfl) d_Lw_law_4 ⟨Nat.le_of_ble_eq_true rfl, Nat.le_of_ble_eq_true rfl⟩ ⟨Nat.le_of_ble_eq_true rfl, Nat.le_of_ble_eq_true rfl⟩) hlo (fun _ h => h) (fun H4 locs hp3 hlo => ?_)
  obtain ⟨hB, k2, z2⟩ := hp3
  have hO2 : Old E H4 := hO1.ch k2 (fun q z => by rw [z]; omega)
  refine lv_astore_n (lv' := [(1, .ref s.heap.size), (0, .ref b)]) cx.x cx.b d_Lw_law_7 rfl hl (by decide) rfl (fun ls hl => ?_)
  refine nw_Lw_10 cx (Nat.le_of_ble_eq_true rfl) (Nat.le_of_ble_eq_true rfl) d_Lw_law_8 (fun H5 hn6 z_H5 o_H5 => ?_)
  have k3 : hCh (fun _ => False) H4 H5 := hCh.new z_H5 o_H5
  have hO3 : Old E H5 := hO2.ch k3 (fun q z => z.elim)
  refine lv_dup cx.x cx.b d_Lw_law_11 rfl ?_
  refine hx_callv (iv_Lw_12 cx (c_Mo_init l hEo (H := H5) (a := H4.size) hn6 (by omega) (by omega)) rfl hl.1 rfl (Nat.le_of_ble_eq_true rfl) d_Lw_law_12 ⟨Nat.le_of_ble_eq_true rfl, Nat.le_of_ble_eq_true rfl⟩ ⟨Nat.le_of_ble_eq_true rfl, Nat.le_of_ble_eq_true rfl⟩) hlo (fun _ h => h) (fun H8 locs hp7 hlo => ?_)
  obtain ⟨hM, k4, z4⟩ := hp7
  have hO4 : Old E H8 := hO3.ch k4 (fun q z => by rw [z]; omega)
  have hlt := hB.lt hEL
  have hB3 := hB.ch k3 (fun q _ z => z)
  have hB4 := hB3.ch k4 (fun q hq (z : q = H4.size) => by have := hlt q hq; omega)
  refine lv_astore_n (lv' := [(2, .ref H4.size), (1, .ref s.heap.size), (0, .ref b)]) cx.x cx.b d_Lw_law_15 rfl hl (by decide) rfl (fun ls hl => ?_)
  refine lv_iconst (v := 0) cx.x cx.b d_Lw_law_16 (by decide) ?_
  refine lv_istore_n (lv' := [(3, .int 0), (2, .ref H4.size), (1, .ref s.heap.size), (0, .ref b)]) cx.x cx.b d_Lw_law_17 rfl hl (by decide) rfl (fun ls hl => ?_)
  refine W.widen (k := 30 + 680 * 0) (n := 11827 + 7200 * 0) (Nat.le_of_ble_eq_true rfl) (Nat.le_of_ble_eq_true rfl) ?_
  exact law_loop (a := s.heap.size) (ma := H4.size) hEo hES hEL cx hX hbl hL hsz _ _ 0 _ hlo (Nat.lt_succ_self _) (Nat.zero_le _) (LI.same hB4 hM (fun q hq z => by have h9 := hlt q hq; rcases z with z | ⟨k, hk, z⟩; omega; have z : q = H5.size + k := z; omega) LR0 hO4) _ (lv_sub hl [0, 3, 2, 1] rfl)
