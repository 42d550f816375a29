theorem nodupG {X Y D : List Nat} {rd ln N : Nat} (h : (X ++ Y).Nodup) (hl : ∀ q ∈ X ++ Y, q < N) (hD : (rd :: ln :: D).Nodup) (hg : ∀ q ∈ rd :: ln :: D, N ≤ q) : (rd :: ln :: (X ++ (D ++ Y))).Nodup := by
  have hp : ((rd :: ln :: D) ++ (X ++ Y)).Perm (rd :: ln :: (X ++ (D ++ Y))) := by
    show (rd :: ln :: (D ++ (X ++ Y))).Perm _
    refine List.Perm.cons _ (List.Perm.cons _ ?_)
    rw [← List.append_assoc, ← List.append_assoc]
    exact List.perm_append_comm.append_right _
  refine hp.nodup_iff.mp ?_
  rw [List.nodup_append]
  exact ⟨hD, h, fun x hx y hy e => by have := hg x hx; have := hl y hy; omega⟩
theorem grB_repl0 {E : hE} {a tr tarr fr farr dg n1 n2 n3 bl bm N : Nat} {sa sb : SA} {us sp vs sq : List TV} {sa2 : SA} {us2 sp2 : List TV} (h : (grB E a tr tarr fr farr dg n1 n2 n3 bl bm sa sb us sp vs sq).flatten.Nodup) (h2 : (fpB E bl sa2 us2 sp2).Nodup) (hs : ∀ q ∈ fpB E bl sa2 us2 sp2, q ∈ fpB E bl sa us sp ∨ N ≤ q) (hl : ∀ q ∈ (grB E a tr tarr fr farr dg n1 n2 n3 bl bm sa sb us sp vs sq).flatten, q < N) : (grB E a tr tarr fr farr dg n1 n2 n3 bl bm sa2 sb us2 sp2 vs sq).flatten.Nodup :=
  nodup_repl (A := a :: tr :: tarr :: fr :: farr :: dg :: n1 :: n2 :: [n3]) (X := fpB E bl sa us sp) (Y := fpB E bl sa2 us2 sp2) (B := fpB E bm sb vs sq ++ []) (N := N) h h2 hs hl
theorem grB_repl1 {E : hE} {a tr tarr fr farr dg n1 n2 n3 bl bm N : Nat} {sa sb : SA} {us sp vs sq : List TV} {sa2 : SA} {us2 sp2 : List TV} (h : (grB E a tr tarr fr farr dg n1 n2 n3 bl bm sa sb us sp vs sq).flatten.Nodup) (h2 : (fpB E bm sa2 us2 sp2).Nodup) (hs : ∀ q ∈ fpB E bm sa2 us2 sp2, q ∈ fpB E bm sb vs sq ∨ N ≤ q) (hl : ∀ q ∈ (grB E a tr tarr fr farr dg n1 n2 n3 bl bm sa sb us sp vs sq).flatten, q < N) : (grB E a tr tarr fr farr dg n1 n2 n3 bl bm sa sa2 us sp us2 sp2).flatten.Nodup := by
  have h9 := grB_repl0 (grB_swap h) h2 hs (fun q hq => hl q ?_)
  exact grB_swap h9
  obtain ⟨A, hA, hqA⟩ := List.mem_flatten.mp hq
  refine List.mem_flatten.mpr ⟨A, ?_, hqA⟩
  unfold grB at hA ⊢
  simp only [List.mem_cons, List.not_mem_nil, or_false] at hA ⊢
  rcases hA with e | e | e | e | e | e <;> simp [e]
theorem BTx.lt {E : hE} (hL : EnvL E) {H : Heap} {a tr tarr fr farr dg n1 n2 n3 bl bm fm fn : Nat} {sa sb : SA} {us sp vs sq : List TV} {txt fx : List Nat} {ot fo : Bool} {ds : List (Nat × Nat × Nat)} (h : BTx E H a tr tarr fr farr dg n1 n2 n3 bl bm sa sb us sp vs sq txt ot fx fo ds fm fn) : ∀ q ∈ (grB E a tr tarr fr farr dg n1 n2 n3 bl bm sa sb us sp vs sq).flatten, q < H.size := fun q hq => by
  obtain ⟨h1, hBa, h3, h4, h5, h6, h7, hN⟩ := h
  obtain ⟨A, hA, hqA⟩ := List.mem_flatten.mp hq
  unfold grB at hA
  simp only [List.mem_cons, List.not_mem_nil, or_false] at hA
  rcases hA with e | e | e | e | e | e <;> rw [e] at hqA
  · rw [List.mem_singleton.mp hqA]; exact h1.lt
  · exact h3.lt q (rS_mem.mp hqA)
  · exact h4.lt q (rS_mem.mp hqA)
  · exact h5.lt q hqA
  · exact h6.lt hL q hqA
  · exact h7.lt hL q hqA
theorem BTx.lo {E : hE} {H : Heap} {a tr tarr fr farr dg n1 n2 n3 bl bm fm fn : Nat} {sa sb : SA} {us sp vs sq : List TV} {txt fx : List Nat} {ot fo : Bool} {ds : List (Nat × Nat × Nat)} (h : BTx E H a tr tarr fr farr dg n1 n2 n3 bl bm sa sb us sp vs sq txt ot fx fo ds fm fn) : ∀ q ∈ (grB E a tr tarr fr farr dg n1 n2 n3 bl bm sa sb us sp vs sq).flatten, eB E ≤ q := fun q hq => by
  obtain ⟨h1, hBa, h3, h4, h5, h6, h7, hN⟩ := h
  obtain ⟨A, hA, hqA⟩ := List.mem_flatten.mp hq
  unfold grB at hA
  simp only [List.mem_cons, List.not_mem_nil, or_false] at hA
  rcases hA with e | e | e | e | e | e <;> rw [e] at hqA
  · rw [List.mem_singleton.mp hqA]; exact hBa
  · exact rS.lo h3 q (rS_mem.mp hqA)
  · exact rS.lo h4 q (rS_mem.mp hqA)
  · exact dS.lo h5 q (dS_mem.mp hqA)
  · exact h6.lo q hqA
  · exact h7.lo q hqA
set_option maxHeartbeats 4000000 in
set_option maxRecDepth 100000 in
theorem c_B_readN (l : Launch) {E : hE} (hE : EnvOk E) {H : Heap} {a tr tarr fr farr dg n1 n2 n3 bl bm fm fn : Nat} {sa sb : SA} {us sp vs sq : List TV} {txt fx : List Nat} {ot fo : Bool} {ds : List (Nat × Nat × Nat)} (h : BTx E H a tr tarr fr farr dg n1 n2 n3 bl bm sa sb us sp vs sq txt ot fx fo ds fm fn) {b : Int32} (hb : ¬ (b = 0 ∨ b = 1)) : Ct l E y_B_read b_B_read 6 (some .int) (rmA 11 0 0) [.ref a, .int b] H (hQi (fun r H1 => r = -1 ∧ H1 = H)) := by
  refine hx_enter hE (by decide) (Nat.le_of_ble_eq_true rfl) ?_
  intro p e s m args below meth c ls cx hnm hl
  have hl : lv_has ls 6 [(0, .ref a), (1, .int b)] := hl
  have hlo : hLo (eB E) [] := hLo.nil
  generalize hQ : MQ below _ args s _ _ _ = Q
  obtain ⟨h1, hBa, h3, h4, h5, h6, h7, hN⟩ := h
  refine lv_aload_n cx.x cx.b d_B_read_0 rfl (lv_at hl 0 rfl) ?_
  refine lv_iload_n cx.x cx.b d_B_read_1 rfl (lv_at hl 1 rfl) ?_
  refine hx_callr (iv_B_56_B cx (c_B_chosen l hE ⟨h1, hBa, h3, h4, h5, h6, h7, hN⟩ b) h1 rfl hl.1 rfl (Nat.le_of_ble_eq_true rfl) d_B_read_2 ⟨Nat.le_of_ble_eq_true rfl, Nat.le_of_ble_eq_true rfl⟩ ⟨Nat.le_of_ble_eq_true rfl, Nat.le_of_ble_eq_true rfl⟩) hlo (fun _ h => h) (fun r68 H67 locs hp66 hlo => ?_)
  obtain ⟨hp66, hH9⟩ := hp66
  have hH9 := hH9.symm
  subst hH9
  unfold selC at hp66
  rw [if_neg (fun e => hb (Or.inl e)), if_neg (fun e => hb (Or.inr e))] at hp66
  subst hp66
  show W p l e _ s m args below meth c H locs _ _ _ (F0 m 5 ls [.null])
  refine lv_astore_nN (lv' := [(2, .null), (0, .ref a), (1, .int b)]) cx.x cx.b d_B_read_5 rfl hl (by decide) rfl (fun ls hl => ?_)
  refine lv_aload_nN cx.x cx.b d_B_read_6 rfl (lv_at hl 0 rfl) ?_
  refine lv_ifnonnullN cx.x cx.b d_B_read_7 ?_
  refine lv_iconst (v := (-1)) cx.x cx.b d_B_read_10 (by decide) ?_
  rw [← hQ]
  exact hx_reti cx.x cx.b cx.r cx.k rfl hlo (fun _ h => h) (Nat.le_of_ble_eq_true rfl) (Nat.le_of_ble_eq_true rfl) d_B_read_11 (⟨rfl, rfl⟩)

set_option maxHeartbeats 4000000 in
set_option maxRecDepth 100000 in
theorem c_B_writeN (l : Launch) {E : hE} (hE : EnvOk E) {H : Heap} {a tr tarr fr farr dg n1 n2 n3 bl bm fm fn : Nat} {sa sb : SA} {us sp vs sq : List TV} {txt fx : List Nat} {ot fo : Bool} {ds : List (Nat × Nat × Nat)} (h : BTx E H a tr tarr fr farr dg n1 n2 n3 bl bm sa sb us sp vs sq txt ot fx fo ds fm fn) {b : Int32} (hb : ¬ (b = 0 ∨ b = 1)) : Ct l E y_B_write b_B_write 3 (some .int) (rmA 8 0 0) [.ref a, .int b] H (hQi (fun r H1 => r = -1 ∧ H1 = H)) := by
  refine hx_enter hE (by decide) (Nat.le_of_ble_eq_true rfl) ?_
  intro p e s m args below meth c ls cx hnm hl
  have hl : lv_has ls 3 [(0, .ref a), (1, .int b)] := hl
  have hlo : hLo (eB E) [] := hLo.nil
  generalize hQ : MQ below _ args s _ _ _ = Q
  obtain ⟨h1, hBa, h3, h4, h5, h6, h7, hN⟩ := h
  refine lv_aload_n cx.x cx.b d_B_write_0 rfl (lv_at hl 0 rfl) ?_
  refine lv_iload_n cx.x cx.b d_B_write_1 rfl (lv_at hl 1 rfl) ?_
  refine hx_callr (iv_B_56_B cx (c_B_chosen l hE ⟨h1, hBa, h3, h4, h5, h6, h7, hN⟩ b) h1 rfl hl.1 rfl (Nat.le_of_ble_eq_true rfl) d_B_write_2 ⟨Nat.le_of_ble_eq_true rfl, Nat.le_of_ble_eq_true rfl⟩ ⟨Nat.le_of_ble_eq_true rfl, Nat.le_of_ble_eq_true rfl⟩) hlo (fun _ h => h) (fun r71 H70 locs hp69 hlo => ?_)
  obtain ⟨hp69, hH9⟩ := hp69
  have hH9 := hH9.symm
  subst hH9
  unfold selC at hp69
  rw [if_neg (fun e => hb (Or.inl e)), if_neg (fun e => hb (Or.inr e))] at hp69
  subst hp69
  show W p l e _ s m args below meth c H locs _ _ _ (F0 m 5 ls [.null])
  refine lv_astore_nN (lv' := [(2, .null), (0, .ref a), (1, .int b)]) cx.x cx.b d_B_write_5 rfl hl (by decide) rfl (fun ls hl => ?_)
  refine lv_aload_nN cx.x cx.b d_B_write_6 rfl (lv_at hl 0 rfl) ?_
  refine lv_ifnonnullN cx.x cx.b d_B_write_7 ?_
  refine lv_iconst (v := (-1)) cx.x cx.b d_B_write_10 (by decide) ?_
  rw [← hQ]
  exact hx_reti cx.x cx.b cx.r cx.k rfl hlo (fun _ h => h) (Nat.le_of_ble_eq_true rfl) (Nat.le_of_ble_eq_true rfl) d_B_write_11 (⟨rfl, rfl⟩)

set_option maxHeartbeats 4000000 in
set_option maxRecDepth 100000 in
theorem c_B_write0 (l : Launch) {E : hE} (hE : EnvOk E) (hS : EnvS E) {H : Heap} {a tr tarr fr farr dg n1 n2 n3 bl bm fm fn : Nat} {sa sb : SA} {us sp vs sq : List TV} {txt fx : List Nat} {ot fo : Bool} {ds : List (Nat × Nat × Nat)} (h : BTx E H a tr tarr fr farr dg n1 n2 n3 bl bm sa sb us sp vs sq txt ot fx fo ds fm fn) (hO : Old E H) (hk : KOk us) : Ct l E y_B_write b_B_write 3 (some .int) (rmA 8 0 0) [.ref a, .int 0] H (hQi (fun r H1 => r = (if (formL fm us).length ≤ 480 then nI (formL fm us).length else -1) ∧ (∃ o2 fx2 fo2, BTx E H1 a tr tarr fr farr dg n1 n2 n3 bl bm sa sb us sp vs sq (if (formL fm us).length ≤ 480 then (formL fm us) else txt) o2 fx2 fo2 ds fm fn) ∧ hCh (fun q => q ∈ (grB E a tr tarr fr farr dg n1 n2 n3 bl bm sa sb us sp vs sq).flatten) H H1)) := by
  refine hx_enter hE (by decide) (Nat.le_of_ble_eq_true rfl) ?_
  intro p e s m args below meth c ls cx hnm hl
  have hl : lv_has ls 3 [(0, .ref a), (1, .int 0)] := hl
  have hlo : hLo (eB E) [] := hLo.nil
  generalize hQ : MQ below _ args s _ _ _ = Q
  obtain ⟨h1, hBa, h3, h4, h5, h6, h7, hN⟩ := h
  refine lv_aload_n cx.x cx.b d_B_write_0 rfl (lv_at hl 0 rfl) ?_
  refine lv_iload_n cx.x cx.b d_B_write_1 rfl (lv_at hl 1 rfl) ?_
  refine hx_callr (iv_B_56_B cx (c_B_chosen l hE ⟨h1, hBa, h3, h4, h5, h6, h7, hN⟩ 0) h1 rfl hl.1 rfl (Nat.le_of_ble_eq_true rfl) d_B_write_2 ⟨Nat.le_of_ble_eq_true rfl, Nat.le_of_ble_eq_true rfl⟩ ⟨Nat.zero_le _, Nat.zero_le _⟩) hlo (fun _ h => h) (fun r74 H73 locs hp72 hlo => ?_)
  obtain ⟨hp72, hH9⟩ := hp72
  have hH9 := hH9.symm
  subst hH9
  have hp72 : r74 = some bl := hp72
  subst hp72
  show W p l e _ s m args below meth c H locs _ _ _ (F0 m 5 ls [.ref bl])
  refine lv_astore_n (lv' := [(2, .ref bl), (0, .ref a), (1, .int 0)]) cx.x cx.b d_B_write_5 rfl hl (by decide) rfl (fun ls hl => ?_)
  refine lv_aload_n cx.x cx.b d_B_write_6 rfl (lv_at hl 0 rfl) ?_
  refine lv_ifnonnull (tgt := 12) cx.x cx.b d_B_write_7 (by decide) ?_
  refine lv_aload_n cx.x cx.b d_B_write_12 rfl (lv_at hl 1 rfl) ?_
  refine gf_B_18_B cx h1 rfl d_B_write_13 ?_
  refine hx_callv (iv_B_53_Rw cx (c_Rw_empty l hE h4) h4.1 rfl hl.1 rfl (Nat.le_of_ble_eq_true rfl) d_B_write_16 ⟨Nat.le_of_ble_eq_true rfl, Nat.le_of_ble_eq_true rfl⟩ ⟨Nat.le_of_ble_eq_true rfl, Nat.le_of_ble_eq_true rfl⟩) hlo (fun _ h => h) (fun H76 locs hp75 hlo => ?_)
  obtain ⟨r1, k1, z1⟩ := hp75
  have a1 := h1.ch k1 (fun z => by exact gdj hN 0 2 rfl rfl (by decide) (List.mem_singleton.mpr rfl) (rS_mem.mpr z))
  have t1 := h3.ch k1 (fun z => by exact gdj hN 1 2 rfl rfl (by decide) List.mem_cons_self (rS_mem.mpr z)) (fun z => by exact gdj hN 1 2 rfl rfl (by decide) (List.mem_cons_of_mem _ List.mem_cons_self) (rS_mem.mpr z))
  have g1 := h5.ch k1 (fun q hq z => by exact gdj hN 3 2 rfl rfl (by decide) (dS_mem.mpr hq) (rS_mem.mpr z))
  have b6 := h6.ch k1 (fun q hq z => by exact gdj hN 4 2 rfl rfl (by decide) hq (rS_mem.mpr z))
  have b7 := h7.ch k1 (fun q hq z => by exact gdj hN 5 2 rfl rfl (by decide) hq (rS_mem.mpr z))
  have hO1 := hO.ch k1 (rS.lo h4)
  refine lv_aload_n cx.x cx.b d_B_write_19 rfl (lv_at hl 0 rfl) ?_
  refine lv_aload_n cx.x cx.b d_B_write_20 rfl (lv_at hl 1 rfl) ?_
  refine gf_B_18_B cx a1 rfl d_B_write_21 ?_
  refine hx_callv (iv_B_78_Bl cx (c_Bl_addForm l hE hS b6 hO1 hk r1 (fun q hq z => gdj hN 2 4 rfl rfl (by decide) (rS_mem.mpr hq) z)) b6.1 rfl hl.1 rfl (Nat.le_of_ble_eq_true rfl) d_B_write_24 ⟨Nat.le_of_ble_eq_true rfl, Nat.le_of_ble_eq_true rfl⟩ ⟨Nat.le_of_ble_eq_true rfl, Nat.le_of_ble_eq_true rfl⟩) hlo (fun _ h => h) (fun H78 locs hp77 hlo => ?_)
  obtain ⟨r2, k2, z2⟩ := hp77
  have k12 := k1.tr k2
  have a2 := h1.ch k12 (fun z => by exact gdj hN 0 2 rfl rfl (by decide) (List.mem_singleton.mpr rfl) (rS_mem.mpr z))
  have t2 := h3.ch k12 (fun z => by exact gdj hN 1 2 rfl rfl (by decide) List.mem_cons_self (rS_mem.mpr z)) (fun z => by exact gdj hN 1 2 rfl rfl (by decide) (List.mem_cons_of_mem _ List.mem_cons_self) (rS_mem.mpr z))
  have g2 := h5.ch k12 (fun q hq z => by exact gdj hN 3 2 rfl rfl (by decide) (dS_mem.mpr hq) (rS_mem.mpr z))
  have c6 := h6.ch k12 (fun q hq z => by exact gdj hN 4 2 rfl rfl (by decide) hq (rS_mem.mpr z))
  have c7 := h7.ch k12 (fun q hq z => by exact gdj hN 5 2 rfl rfl (by decide) hq (rS_mem.mpr z))
  generalize hLe : formL fm us = LL at r2 hQ
  by_cases cl : LL.length ≤ 480
  · rw [if_pos cl, if_pos cl] at hQ
    rw [addR_fold LL [] false (by rw [List.length_nil]; omega)] at r2
    have r2 : Rw E H78 fr farr 480 LL false := r2
    refine lv_aload_n cx.x cx.b d_B_write_27 rfl (lv_at hl 1 rfl) ?_
    refine gf_B_18_B cx a2 rfl d_B_write_28 ?_
    refine hx_calli (iv_B_82_Rw cx (c_Rw_fits l hE r2) r2.1 rfl hl.1 rfl (Nat.le_of_ble_eq_true rfl) d_B_write_31 ⟨Nat.le_of_ble_eq_true rfl, Nat.le_of_ble_eq_true rfl⟩ ⟨Nat.le_of_ble_eq_true rfl, Nat.le_of_ble_eq_true rfl⟩) hlo (fun _ h => h) (fun r81 H80 locs hp79 hlo => ?_)
    obtain ⟨hp79, hH9⟩ := hp79
    have hH9 := hH9.symm
    subst hH9
    subst hp79
    refine lv_if_ne (tgt := 39) cx.x cx.b d_B_write_34 (by decide) (fun _ => ?_) (fun c => absurd c (by decide))
    refine lv_aload_n cx.x cx.b d_B_write_39 rfl (lv_at hl 1 rfl) ?_
    refine gf_B_14_B cx a2 rfl d_B_write_40 ?_
    refine lv_aload_n cx.x cx.b d_B_write_43 rfl (lv_at hl 1 rfl) ?_
    refine gf_B_18_B cx a2 rfl d_B_write_44 ?_
    refine hx_callv (iv_B_86_Rw cx (c_Rw_copy l hE t2 r2 (fun e => gdj hN 2 1 rfl rfl (by decide) List.mem_cons_self (by rw [e]; exact List.mem_cons_self)) (fun e => gdj hN 2 1 rfl rfl (by decide) List.mem_cons_self (by rw [e]; exact List.mem_cons_of_mem _ List.mem_cons_self)) (fun e => gdj hN 2 1 rfl rfl (by decide) (List.mem_cons_of_mem _ List.mem_cons_self) (by rw [e]; exact List.mem_cons_self)) (fun e => gdj hN 2 1 rfl rfl (by decide) (List.mem_cons_of_mem _ List.mem_cons_self) (by rw [e]; exact List.mem_cons_of_mem _ List.mem_cons_self))) t2.1 rfl hl.1 rfl (Nat.le_of_ble_eq_true rfl) d_B_write_47 ⟨Nat.le_of_ble_eq_true rfl, Nat.le_of_ble_eq_true rfl⟩ ⟨Nat.le_of_ble_eq_true rfl, Nat.le_of_ble_eq_true rfl⟩) hlo (fun _ h => h) (fun H83 locs hp82 hlo => ?_)
    obtain ⟨r3, k3, z3⟩ := hp82
    rw [addR_fold LL [] false (by rw [List.length_nil]; omega)] at r3
    have r3 : Rw E H83 tr tarr 480 LL false := r3
    have a3 := a2.ch k3 (fun z => by exact gdj hN 0 1 rfl rfl (by decide) (List.mem_singleton.mpr rfl) (rS_mem.mpr z))
    refine lv_aload_n cx.x cx.b d_B_write_50 rfl (lv_at hl 1 rfl) ?_
    refine gf_B_14_B cx a3 rfl d_B_write_51 ?_
    refine hx_calli (iv_B_38_Rw cx (c_Rw_length l hE r3) r3.1 rfl hl.1 rfl (Nat.le_of_ble_eq_true rfl) d_B_write_54 ⟨Nat.le_of_ble_eq_true rfl, Nat.le_of_ble_eq_true rfl⟩ ⟨Nat.le_of_ble_eq_true rfl, Nat.le_of_ble_eq_true rfl⟩) hlo (fun _ h => h) (fun r86 H85 locs hp84 hlo => ?_)
    obtain ⟨hp84, hH9⟩ := hp84
    have hH9 := hH9.symm
    subst hH9
    subst hp84
    rw [← hQ]
    exact hx_reti cx.x cx.b cx.r cx.k rfl hlo (fun _ h => h) (Nat.le_of_ble_eq_true rfl) (Nat.le_of_ble_eq_true rfl) d_B_write_57 (⟨rfl, ⟨_, _, _, a3, hBa, r3, r2.ch k3 (fun z => by exact gdj hN 2 1 rfl rfl (by decide) List.mem_cons_self (rS_mem.mpr z)) (fun z => by exact gdj hN 2 1 rfl rfl (by decide) (List.mem_cons_of_mem _ List.mem_cons_self) (rS_mem.mpr z)), g2.ch k3 (fun q hq z => by exact gdj hN 3 1 rfl rfl (by decide) (dS_mem.mpr hq) (rS_mem.mpr z)), c6.ch k3 (fun q hq z => by exact gdj hN 4 1 rfl rfl (by decide) hq (rS_mem.mpr z)), c7.ch k3 (fun q hq z => by exact gdj hN 5 1 rfl rfl (by decide) hq (rS_mem.mpr z)), hN⟩, (k12.mono (S' := fun q => q ∈ (grB E a tr tarr fr farr dg n1 n2 n3 bl bm sa sb us sp vs sq).flatten) (fun q _ z => grB_mem 2 rfl (rS_mem.mpr z))).tr (k3.mono (S' := fun q => q ∈ (grB E a tr tarr fr farr dg n1 n2 n3 bl bm sa sb us sp vs sq).flatten) (fun q _ z => grB_mem 1 rfl (rS_mem.mpr z)))⟩)
  · rw [if_neg cl, if_neg cl] at hQ
    have hov := addR_over (cap := 480) LL [] false (Nat.zero_le _) (by rw [List.length_nil]; omega)
    rw [hov] at r2
    refine lv_aload_n cx.x cx.b d_B_write_27 rfl (lv_at hl 1 rfl) ?_
    refine gf_B_18_B cx a2 rfl d_B_write_28 ?_
    refine hx_calli (iv_B_82_Rw cx (c_Rw_fits l hE r2) r2.1 rfl hl.1 rfl (Nat.le_of_ble_eq_true rfl) d_B_write_31 ⟨Nat.le_of_ble_eq_true rfl, Nat.le_of_ble_eq_true rfl⟩ ⟨Nat.le_of_ble_eq_true rfl, Nat.le_of_ble_eq_true rfl⟩) hlo (fun _ h => h) (fun r89 H88 locs hp87 hlo => ?_)
    obtain ⟨hp87, hH9⟩ := hp87
    have hH9 := hH9.symm
    subst hH9
    subst hp87
    refine lv_if_ne (tgt := 39) cx.x cx.b d_B_write_34 (by decide) (fun c => absurd (by decide) c) (fun _ => ?_)
    refine lv_iconst (v := (-1)) cx.x cx.b d_B_write_37 (by decide) ?_
    rw [← hQ]
    exact hx_reti cx.x cx.b cx.r cx.k rfl hlo (fun _ h => h) (Nat.le_of_ble_eq_true rfl) (Nat.le_of_ble_eq_true rfl) d_B_write_38 (⟨rfl, ⟨_, _, _, a2, hBa, t2, r2, g2, c6, c7, hN⟩, (k12.mono (S' := fun q => q ∈ (grB E a tr tarr fr farr dg n1 n2 n3 bl bm sa sb us sp vs sq).flatten) (fun q _ z => grB_mem 2 rfl (rS_mem.mpr z)))⟩)

set_option maxHeartbeats 4000000 in
set_option maxRecDepth 100000 in
theorem c_B_read0 (l : Launch) {E : hE} (hE : EnvOk E) (hS : EnvS E) (hL : EnvL E) {H : Heap} {a tr tarr fr farr dg n1 n2 n3 bl bm fm fn : Nat} {sa sb : SA} {us sp vs sq : List TV} {txt fx : List Nat} {ot fo : Bool} {ds : List (Nat × Nat × Nat)} (h : BTx E H a tr tarr fr farr dg n1 n2 n3 bl bm sa sb us sp vs sq txt ot fx fo ds fm fn) (hO : Old E H) : Ct l E y_B_read b_B_read 6 (some .int) (rmA 11 680 7200) [.ref a, .int 0] H (hQi (fun r H1 => r = nI (rdA txt).2.2.2.2.length ∧ (∃ (sa2 : SA) (us2 sp2 : List TV), BTx E H1 a tr tarr fr farr dg n1 n2 n3 bl bm sa2 sb us2 sp2 vs sq txt ot fx fo (rdA txt).2.2.2.2 (rdA txt).1 fn ∧ RelT us2 (rdA txt).2.2.2.1 ∧ ∀ q ∈ fpB E bl sa2 us2 sp2, q ∈ fpB E bl sa us sp ∨ H.size ≤ q) ∧ hCh (fun q => q ∈ (grB E a tr tarr fr farr dg n1 n2 n3 bl bm sa sb us sp vs sq).flatten) H H1)) := by
  refine hx_enter hE (by decide) (Nat.le_of_ble_eq_true rfl) ?_
  intro p e s m args below meth c ls cx hnm hl
  have hl : lv_has ls 6 [(0, .ref a), (1, .int 0)] := hl
  have hlo : hLo (eB E) [] := hLo.nil
  generalize hQ : MQ below _ args s _ _ _ = Q
  obtain ⟨h1, hBa, h3, h4, h5, h6, h7, hN⟩ := h
  have hltF := BTx.lt hL ⟨h1, hBa, h3, h4, h5, h6, h7, hN⟩
  have hle := h3.le
  refine lv_aload_n cx.x cx.b d_B_read_0 rfl (lv_at hl 0 rfl) ?_
  refine lv_iload_n cx.x cx.b d_B_read_1 rfl (lv_at hl 1 rfl) ?_
  refine hx_callr (iv_B_56_B cx (c_B_chosen l hE ⟨h1, hBa, h3, h4, h5, h6, h7, hN⟩ 0) h1 rfl hl.1 rfl (Nat.le_of_ble_eq_true rfl) d_B_read_2 ⟨Nat.le_of_ble_eq_true rfl, Nat.le_of_ble_eq_true rfl⟩ ⟨Nat.zero_le _, Nat.zero_le _⟩) hlo (fun _ h => h) (fun r92 H91 locs hp90 hlo => ?_)
  obtain ⟨hp90, hH9⟩ := hp90
  have hH9 := hH9.symm
  subst hH9
  have hp90 : r92 = some bl := hp90
  subst hp90
  show W p l e _ s m args below meth c H locs _ _ _ (F0 m 5 ls [.ref bl])
  refine lv_astore_n (lv' := [(2, .ref bl), (0, .ref a), (1, .int 0)]) cx.x cx.b d_B_read_5 rfl hl (by decide) rfl (fun ls hl => ?_)
  refine lv_aload_n cx.x cx.b d_B_read_6 rfl (lv_at hl 0 rfl) ?_
  refine lv_ifnonnull (tgt := 12) cx.x cx.b d_B_read_7 (by decide) ?_
  refine lv_aload_n cx.x cx.b d_B_read_12 rfl (lv_at hl 0 rfl) ?_
  refine hx_callv (iv_B_60_Bl cx (c_Bl_empty l hE h6) h6.1 rfl hl.1 rfl (Nat.le_of_ble_eq_true rfl) d_B_read_13 ⟨Nat.le_of_ble_eq_true rfl, Nat.le_of_ble_eq_true rfl⟩ ⟨Nat.zero_le _, Nat.zero_le _⟩) hlo (fun _ h => h) (fun H94 locs hp93 hlo => ?_)
  obtain ⟨e1, k1, z1⟩ := hp93
  have k1 : hCh (fun q => q ∈ fpB E bl sa us sp) H H94 := k1.mono (fun q _ z => by rcases z with z | z; rw [z]; exact List.mem_cons_self; rw [z]; exact List.mem_cons_of_mem _ (List.mem_append_left _ (fpSA_sf.mpr (Or.inl rfl))))
  have a1 := h1.ch k1 (fun z => by exact gdj hN 0 4 rfl rfl (by decide) (List.mem_singleton.mpr rfl) z)
  have t1 := h3.ch k1 (fun z => by exact gdj hN 1 4 rfl rfl (by decide) List.mem_cons_self z) (fun z => by exact gdj hN 1 4 rfl rfl (by decide) (List.mem_cons_of_mem _ List.mem_cons_self) z)
  have g1 := h5.ch k1 (fun q hq z => by exact gdj hN 3 4 rfl rfl (by decide) (dS_mem.mpr hq) z)
  refine lv_aload_n cx.x cx.b d_B_read_16 rfl (lv_at hl 1 rfl) ?_
  refine gf_B_24_B cx a1 rfl d_B_read_17 ?_
  refine hx_callv (iv_B_61_Dg cx (c_Dg_empty l hE g1) g1.1 rfl hl.1 rfl (Nat.le_of_ble_eq_true rfl) d_B_read_20 ⟨Nat.le_of_ble_eq_true rfl, Nat.le_of_ble_eq_true rfl⟩ ⟨Nat.zero_le _, Nat.zero_le _⟩) hlo (fun _ h => h) (fun H96 locs hp95 hlo => ?_)
  obtain ⟨g2, k2, z2⟩ := hp95
  have a2 := a1.ch k2 (fun z => by exact gdj hN 0 3 rfl rfl (by decide) (List.mem_singleton.mpr rfl) (dS_mem.mpr z))
  have t2 := t1.ch k2 (fun z => by exact gdj hN 1 3 rfl rfl (by decide) List.mem_cons_self (dS_mem.mpr z)) (fun z => by exact gdj hN 1 3 rfl rfl (by decide) (List.mem_cons_of_mem _ List.mem_cons_self) (dS_mem.mpr z))
  have e2 := e1.ch k2 (fun q hq z => gdj hN 3 4 rfl rfl (by decide) (dS_mem.mpr z) hq)
  have kk2 : hCh (fun q => dS dg n1 n2 n3 q ∨ q ∈ fpB E bl sa us sp ∨ H.size ≤ q) H H96 := (k1.mono (fun q _ z => Or.inr (Or.inl z))).tr (k2.mono (fun q _ z => Or.inl z))
  have hO2 : Old E H96 := hO.ch kk2 (fun q z => by rcases z with z | z | z; exact dS.lo h5 q z; exact h6.lo q z; exact Nat.le_trans hO.1 z)
  refine nw_B_62 cx (Nat.le_of_ble_eq_true rfl) (Nat.le_of_ble_eq_true rfl) d_B_read_23 (fun H97 hn98 z_H97 o_H97 => ?_)
  have k3 : hCh (fun _ => False) H96 H97 := hCh.new z_H97 o_H97
  have hO3 := hO2.ch k3 (fun q e => e.elim)
  have zz3 : H97.size = H.size + 1 := by omega
  have a3 := a2.ch k3 id
  have zz2 : H96.size = H.size := by omega
  rw [zz2] at hn98
  refine lv_dup cx.x cx.b d_B_read_26 rfl ?_
  refine lv_aload_n cx.x cx.b d_B_read_27 rfl (lv_at hl 1 rfl) ?_
  refine gf_B_14_B cx a3 rfl d_B_read_28 ?_
  refine lv_aload_n cx.x cx.b d_B_read_31 rfl (lv_at hl 0 rfl) ?_
  refine lv_aload_n cx.x cx.b d_B_read_32 rfl (lv_at hl 1 rfl) ?_
  refine gf_B_24_B cx a3 rfl d_B_read_33 ?_
  rw [zz2]
  refine hx_callv (iv_B_64 cx (c_Rd_init l hE (H := H97) (a := H.size) (tr := tr) (bl := bl) (dg := dg) hn98 hO.1 hO3) rfl hl.1 rfl (Nat.le_of_ble_eq_true rfl) d_B_read_36 ⟨Nat.le_of_ble_eq_true rfl, Nat.le_of_ble_eq_true rfl⟩ ⟨Nat.le_of_ble_eq_true rfl, Nat.le_of_ble_eq_true rfl⟩) hlo (fun _ h => h) (fun H100 locs hp99 hlo => ?_)
  obtain ⟨i1, i2, i3, i4, i5⟩ := hp99
  rw [zz3] at i1 i2 i3 i5
  have k4 : hCh (fun q => H.size ≤ q) H96 H100 := (k3.mono (fun q _ z => z.elim)).tr (i4.mono (fun q _ z => Nat.le_of_eq z.symm))
  have t4 := t2.ch k4 (fun z => absurd (h3.lt tr (Or.inl rfl)) (by omega)) (fun z => absurd (h3.lt tarr (Or.inr rfl)) (by omega))
  have e4 := e2.ch k4 (fun q hq z => absurd (h6.lt hL q hq) (by omega))
  have g4 := g2.ch k4 (fun q hq z => absurd (h5.lt q (dS_mem.mpr hq)) (by omega))
  have kk4 : hCh (fun q => dS dg n1 n2 n3 q ∨ q ∈ fpB E bl sa us sp ∨ H.size ≤ q) H H100 := kk2.tr (k4.mono (fun q _ z => Or.inr (Or.inr z)))
  have hO4 : Old E H100 := hO.ch kk4 (fun q z => by rcases z with z | z | z; exact dS.lo h5 q z; exact h6.lo q z; exact Nat.le_trans hO.1 z)
  obtain ⟨ln, hln⟩ : ∃ ln, ln = H.size + 1 + 5 := ⟨_, rfl⟩
  rw [← hln] at i1 i2
  obtain ⟨dr, hdr⟩ : ∃ dr : DA, dr = ((H.size + 1, H.size + 1 + 1, H.size + 1 + 2, H.size + 1 + 3, H.size + 1 + 4) : DA) := ⟨_, rfl⟩
  have i3 : Dr E H100 dr 0 0 [] [] false false := by rw [hdr]; exact i3
  have i1 : RdO E H100 H.size ln bl dg dr.1 0 false false none := by rw [hdr]; exact i1
  have hN4 : (grR E H.size ln tr tarr dr dg n1 n2 n3 bl sa [] (us ++ sp)).flatten.Nodup := by
    have q1 : ([tr, tarr] ++ ([dg, n1, n2, n3] ++ (fpB E bl sa us sp ++ []))).Nodup := by
      have q2 := List.pairwise_flatten.mp hN
      show (([[tr, tarr], [dg, n1, n2, n3], fpB E bl sa us sp] : List (List Nat)).flatten).Nodup
      refine List.Nodup.sublist ?_ hN
      exact List.Sublist.cons _ (List.Sublist.cons₂ _ (List.Sublist.cons₂ _ (List.Sublist.cons _ (List.Sublist.cons _ (List.Sublist.cons₂ _ (List.Sublist.cons₂ _ (List.Sublist.cons₂ _ (List.Sublist.cons₂ _ (show (fpB E bl sa us sp ++ []).Sublist (fpB E bl sa us sp ++ (fpB E bm sb vs sq ++ [])) from List.Sublist.append (List.Sublist.refl _) (List.nil_sublist _))))))))))
    have q3 := nodupG (rd := H.size) (ln := ln) (D := fpD dr) (N := H.size) q1 (fun q hq => by rcases List.mem_append.mp hq with z | z; exact h3.lt q (rS_mem.mp z); rcases List.mem_append.mp z with z | z; exact h5.lt q z; rw [List.append_nil] at z; exact h6.lt hL q z) (by rw [hln, hdr]; simp [fpD]; omega) (fun q hq => by rw [hln, hdr] at hq; simp only [fpD, List.mem_cons, List.not_mem_nil, or_false] at hq; omega)
    exact q3
  have hGA : rdLp txt (txt.length + 1 - 0) 0 0 0 (2, false, false, [], []) = rdA txt := rfl
  generalize hG0 : rdA txt = GA at hQ hGA
  have LP : ∀ (k : Nat) (locs : List Loc) (i st num : Nat) (H5 : Heap) (g : RSt) (sa2 : SA) (us2 sp2 : List TV), hLo (eB E) locs → (txt.length + 1 - i < k) → (i ≤ txt.length + 1 ∧ st ≤ i ∧ num ≤ i) → (RG E H5 H.size ln tr tarr dr dg n1 n2 n3 bl txt ot num g sa2 us2 sp2) → (∀ q ∈ fpB E bl sa2 us2 sp2, q ∈ fpB E bl sa us sp ∨ H.size ≤ q) → (hCh (fun q => dS dg n1 n2 n3 q ∨ q ∈ fpB E bl sa us sp ∨ H.size ≤ q) H H5) → ((g.1 = 1 ∨ g.1 = 2) ∧ g.2.2.2.2.length ≤ num + pastN g.2.1) → (Ulen g.2.2.2.1) → (rdLp txt (txt.length + 1 - i) i st num g = GA) → ∀ ls, lv_has ls 6 [(5, .int (nI i)), (4, .int (nI st)), (0, .ref a), (3, .ref H.size)] → W p l e (rmA 11 680 7200) s m args below meth c H5 locs (7 + cC g.2.2.2.1) (63 + cN g.2.2.2.1) Q (F0 m 46 ls []) := by
    intro k
    induction k with
    | zero => intro locs i st num H5 g sa2 us2 sp2 hlo hk hi hg hsub hch hfx hul hj; exact absurd hk (by omega)
    | succ k ih =>
      intro locs i st num H5 g sa2 us2 sp2 hlo hk hi hg hsub hch hfx hul hj ls hl
      obtain ⟨fm5, past, brk, U, ds5⟩ := g
      obtain ⟨ow, kI, mk5, nx, dx, o1, o2, st5, en5, ws5, we5, hR, hln5, hr5, hd5, hb5, hg5, rel, own, hN5⟩ := hg
      simp only at hR hb5 hg5 rel own hfx hul
      have hcost := hul.cost
      have hp9 : pastN past ≤ 1 := by cases past <;> decide
      have a5 := h1.ch hch (fun z => by rcases z with z | z | z; exact gdj hN 0 3 rfl rfl (by decide) (List.mem_singleton.mpr rfl) (dS_mem.mpr z); exact gdj hN 0 4 rfl rfl (by decide) (List.mem_singleton.mpr rfl) z; have := h1.lt; omega)
      have hO5 : Old E H5 := hO.ch hch (fun q z => by rcases z with z | z | z; exact dS.lo h5 q z; exact h6.lo q z; exact Nat.le_trans hO.1 z)
      refine lv_iload cx.x cx.b d_B_read_46 (lv_at hl 0 rfl) ?_
      refine lv_aload_n cx.x cx.b d_B_read_48 rfl (lv_at hl 2 rfl) ?_
      refine gf_B_14_B cx a5 rfl d_B_read_49 ?_
      refine hx_calli (iv_B_38_Rw cx (c_Rw_length l hE hr5) hr5.1 rfl hl.1 rfl (Nat.le_of_ble_eq_true rfl) d_B_read_52 ⟨Nat.le_of_ble_eq_true rfl, Nat.le_of_ble_eq_true rfl⟩ ⟨by show 7 + cC U + 0 ≤ 680; omega, by show 63 + cN U + 0 ≤ 7200; omega⟩) hlo (fun _ h => h) (fun r103 H102 locs hp101 hlo => ?_)
      obtain ⟨hp101, hH9⟩ := hp101
      have hH9 := hH9.symm
      subst hH9
      subst hp101
      refine lv_icmp_gt (tgt := 104) cx.x cx.b d_B_read_55 (by decide) (fun c1 => ?_) (fun c1 => ?_)
      · have c1 : txt.length < i := (nI_ltI (a := txt.length) (b := i) (by omega) (by omega)).mp c1
        refine lv_aload_n cx.x cx.b d_B_read_104 rfl (lv_at hl 2 rfl) ?_
        refine gf_B_24_B cx a5 rfl d_B_read_105 ?_
        refine hx_calli (iv_B_75_Dg cx (c_Dg_count l hE hg5) hg5.1 rfl hl.1 rfl (Nat.le_of_ble_eq_true rfl) d_B_read_108 ⟨Nat.le_of_ble_eq_true rfl, Nat.le_of_ble_eq_true rfl⟩ ⟨by show 7 + cC U + 0 ≤ 680; omega, by show 63 + cN U + 0 ≤ 7200; omega⟩) hlo (fun _ h => h) (fun r106 H105 locs hp104 hlo => ?_)
        obtain ⟨hp104, hH9⟩ := hp104
        have hH9 := hH9.symm
        subst hH9
        subst hp104
        rw [show txt.length + 1 - i = 0 by omega] at hj
        have hj : (fm5, past, brk, U, ds5) = GA := hj
        rw [← hj] at hQ
        rw [← hQ]
        exact hx_reti cx.x cx.b cx.r cx.k rfl hlo (fun _ h => h) (by show 7 + cC U + 0 + 0 ≤ 680; omega) (by show 63 + cN U + 0 + 0 ≤ 7200; omega) d_B_read_111 (⟨rfl, ⟨sa2, us2, sp2, ⟨a5, hBa, hr5, h4.ch hch (fun z => by rcases z with z | z | z; exact gdj hN 2 3 rfl rfl (by decide) List.mem_cons_self (dS_mem.mpr z); exact gdj hN 2 4 rfl rfl (by decide) List.mem_cons_self z; have := hltF fr (grB_mem 2 rfl List.mem_cons_self); omega) (fun z => by rcases z with z | z | z; exact gdj hN 2 3 rfl rfl (by decide) (List.mem_cons_of_mem _ List.mem_cons_self) (dS_mem.mpr z); exact gdj hN 2 4 rfl rfl (by decide) (List.mem_cons_of_mem _ List.mem_cons_self) z; have := hltF farr (grB_mem 2 rfl (List.mem_cons_of_mem _ List.mem_cons_self)); omega), hg5, hb5, h7.ch hch (fun q hq z => by rcases z with z | z | z; exact gdj hN 5 3 rfl rfl (by decide) hq (dS_mem.mpr z); exact gdj hN 5 4 rfl rfl (by decide) hq z; have := hltF q (grB_mem 5 rfl hq); omega), grB_repl0 hN hb5.nd hsub hltF⟩, rel, hsub⟩, hch.mono (fun q hq z => by rcases z with z | z | z; exact grB_mem 3 rfl (dS_mem.mpr z); exact grB_mem 4 rfl z; omega)⟩)
      · have c1 : i ≤ txt.length := Nat.not_lt.mp (fun zz => c1 ((nI_ltI (a := txt.length) (b := i) (by omega) (by omega)).mpr zz))
        obtain ⟨n9, hn9⟩ : ∃ n9, txt.length + 1 - i = n9 + 1 := ⟨txt.length - i, by omega⟩
        rw [hn9] at hj
        have hj : (if i = txt.length ∨ txt.getD i 0 = 10 then rdLp txt n9 (i + 1) (i + 1) (num + 1) (rdLn txt (num + 1) st i (fm5, past, brk, U, ds5)) else rdLp txt n9 (i + 1) st num (fm5, past, brk, U, ds5)) = GA := hj
        refine lv_iload cx.x cx.b d_B_read_58 (lv_at hl 0 rfl) ?_
        refine lv_aload_n cx.x cx.b d_B_read_60 rfl (lv_at hl 2 rfl) ?_
        refine gf_B_14_B cx a5 rfl d_B_read_61 ?_
        refine hx_calli (iv_B_38_Rw cx (c_Rw_length l hE hr5) hr5.1 rfl hl.1 rfl (Nat.le_of_ble_eq_true rfl) d_B_read_64 ⟨Nat.le_of_ble_eq_true rfl, Nat.le_of_ble_eq_true rfl⟩ ⟨by show 7 + cC U + 0 + 0 ≤ 680; omega, by show 63 + cN U + 0 + 0 ≤ 7200; omega⟩) hlo (fun _ h => h) (fun r109 H108 locs hp107 hlo => ?_)
        obtain ⟨hp107, hH9⟩ := hp107
        have hH9 := hH9.symm
        subst hH9
        subst hp107
        refine lv_icmp_eq (tgt := 84) cx.x cx.b d_B_read_67 (by decide) (fun c2 => ?_) (fun c2 => ?_)
        · have c2 : i = txt.length := (nI_eq (a := i) (b := txt.length) (by omega) (by omega)).mp c2
          have hnl : i = txt.length ∨ txt.getD i 0 = 10 := Or.inl c2
          obtain ⟨G5, hG5⟩ : ∃ G5, rdLn txt (num + 1) st i (fm5, past, brk, U, ds5) = G5 := ⟨_, rfl⟩
          have hmono := cost_mono (txt := txt) (num := num + 1) (i := st) (j := i) (s := (fm5, past, brk, U, ds5)) hi.2.1 (by omega)
          have hfx5 := rdLn_fix (txt := txt) (num := num) (i := st) (j := i) (s := (fm5, past, brk, U, ds5)) hfx.1 hfx.2
          have hul5 := rdLn_inv (P := Ulen) (txt := txt) (num := num + 1) (i := st) (j := i) (s := (fm5, past, brk, U, ds5)) hul (fun _ _ _ _ _ _ _ _ _ k => hul.addT k) (fun _ _ _ _ _ _ _ _ _ k => hul.addM k) hi.2.1 (by omega)
          rw [if_pos hnl] at hj
          rw [hG5] at hmono hfx5 hul5 hj
          simp only at hmono
          have hcost5 := hul5.cost
          refine lv_aload_n cx.x cx.b d_B_read_84 rfl (lv_at hl 3 rfl) ?_
          refine lv_iload cx.x cx.b d_B_read_85 (lv_at hl 1 rfl) ?_
          refine lv_iload cx.x cx.b d_B_read_87 (lv_at hl 0 rfl) ?_
          refine hx_callv (iv_B_71_Rd cx (c_Rd_readLine l hE hS hL hR hln5 hr5 hd5 hb5 hg5 hN5 rel own hO5 (by omega) (by omega) (i := st) (j := i) hi.2.1 (by omega) hG5) hR.1 rfl hl.1 rfl (Nat.le_of_ble_eq_true rfl) d_B_read_89 ⟨Nat.le_of_ble_eq_true rfl, Nat.le_of_ble_eq_true rfl⟩ ⟨by show 7 + cC U + 0 + 0 + (cC G5.2.2.2.1 - cC U) ≤ 680; omega, by show 63 + cN U + 0 + 0 + (cN G5.2.2.2.1 - cN U) ≤ 7200; omega⟩) hlo (fun _ h => h) (fun H111 locs hp110 hlo => ?_)
          obtain ⟨sa6, us6, sp6, hg6, sub6, k6⟩ := hp110
          refine lv_iload cx.x cx.b d_B_read_92 (lv_at hl 0 rfl) ?_
          refine lv_iconst (v := 1) cx.x cx.b d_B_read_94 (by decide) ?_
          refine lv_iadd cx.x cx.b d_B_read_95 ?_
          refine lv_topi (fun x112 e_x112 => ?_)
          refine lv_istore (lv' := [(4, .int x112), (5, .int (nI i)), (0, .ref a), (3, .ref H.size)]) cx.x cx.b d_B_read_96 hl (by decide) rfl (fun ls hl => ?_)
          obtain ⟨x113, e_x113⟩ : ∃ y : Int32, y = nI i + 1 := ⟨_, rfl⟩
          refine lv_iinc (v := x113) (lv' := [(5, .int x113), (4, .int x112), (0, .ref a), (3, .ref H.size)]) cx.x cx.b d_B_read_98 hl (k := 1) rfl (by rw [e_x113]; rfl) (by decide) rfl (fun ls hl => ?_)
          refine lv_goto (tgt := 46) cx.x cx.b d_B_read_101 (by decide) ?_
          rw [nI_1] at e_x113
          subst e_x113
          have e_x112 := e_x112.trans (nI_1 i)
          subst e_x112
          have hch6 : hCh (fun q => dS dg n1 n2 n3 q ∨ q ∈ fpB E bl sa us sp ∨ H.size ≤ q) H H111 := hch.tr (k6.mono (fun q _ z => by rcases z with z | z | z | z | z; exact Or.inr (Or.inr (Nat.le_of_eq z.symm)); exact Or.inr (Or.inr (by rw [z]; omega)); exact Or.inr (Or.inr (by have z2 := fpD_dc.mpr z; rw [hdr] at z2; simp only [fpD, List.mem_cons, List.not_mem_nil, or_false] at z2; omega)); exact Or.inl z; rcases hsub q z with y | y; exact Or.inr (Or.inl y); exact Or.inr (Or.inr y)))
          have ec : 7 + cC U + 0 + 0 + (rmA 10 (cC G5.2.2.2.1 - cC U) (cN G5.2.2.2.1 - cN U)).cells = 7 + cC G5.2.2.2.1 := by show 7 + cC U + 0 + 0 + (cC G5.2.2.2.1 - cC U) = _; omega
          have es : 63 + cN U + 0 + 0 + (rmA 10 (cC G5.2.2.2.1 - cC U) (cN G5.2.2.2.1 - cN U)).slots = 63 + cN G5.2.2.2.1 := by show 63 + cN U + 0 + 0 + (cN G5.2.2.2.1 - cN U) = _; omega
          have IH := ih _ (i + 1) (i + 1) (num + 1) H111 G5 sa6 us6 sp6 hlo (by omega) ⟨by omega, by omega, by omega⟩ hg6 (fun q hq => by rcases sub6 q hq with y | y; exact hsub q y; exact Or.inr (by have := hch.1; omega)) hch6 hfx5 hul5 (by rw [show txt.length + 1 - (i + 1) = n9 by omega]; exact hj) _ (lv_sub hl [0, 1, 2, 3] rfl)
          rw [← ec, ← es] at IH
          exact IH
        · have c2 : i ≠ txt.length := fun zz => c2 ((nI_eq (a := i) (b := txt.length) (by omega) (by omega)).mpr zz)
          refine lv_aload_n cx.x cx.b d_B_read_70 rfl (lv_at hl 2 rfl) ?_
          refine gf_B_14_B cx a5 rfl d_B_read_71 ?_
          refine lv_iload cx.x cx.b d_B_read_74 (lv_at hl 0 rfl) ?_
          refine hx_calli (iv_B_67_Rw cx (c_Rw_at l hE hr5 (nI i)) hr5.1 rfl hl.1 rfl (Nat.le_of_ble_eq_true rfl) d_B_read_76 ⟨Nat.le_of_ble_eq_true rfl, Nat.le_of_ble_eq_true rfl⟩ ⟨by show 7 + cC U + 0 + 0 + 0 ≤ 680; omega, by show 63 + cN U + 0 + 0 + 0 ≤ 7200; omega⟩) hlo (fun _ h => h) (fun r116 H115 locs hp114 hlo => ?_)
          obtain ⟨hp114, hH9⟩ := hp114
          have hH9 := hH9.symm
          subst hH9
          rw [atI_n (show i < txt.length by omega) (by omega)] at hp114
          have hx9 := hr5.2.2.2.2.2 _ (getD_mem (show i < txt.length by omega))
          subst hp114
          refine lv_bipush (v := 10) cx.x cx.b d_B_read_79 (by decide) ?_
          refine lv_icmp_ne (tgt := 98) cx.x cx.b d_B_read_81 (by decide) (fun c3 => ?_) (fun c3 => ?_)
          · have c3 : (txt.getD i 0) ≠ 10 := fun zz => c3 ((nI_eq (a := (txt.getD i 0)) (b := 10) (by omega) (by omega)).mpr zz)
            rw [if_neg (fun z => by rcases z with z | z; exact c2 z; exact c3 z)] at hj
            obtain ⟨x121, e_x121⟩ : ∃ y : Int32, y = nI i + 1 := ⟨_, rfl⟩
            refine lv_iinc (v := x121) (lv' := [(5, .int x121), (4, .int (nI st)), (0, .ref a), (3, .ref H.size)]) cx.x cx.b d_B_read_98 hl (k := 0) rfl (by rw [e_x121]; rfl) (by decide) rfl (fun ls hl => ?_)
            refine lv_goto (tgt := 46) cx.x cx.b d_B_read_101 (by decide) ?_
            rw [nI_1] at e_x121
            subst e_x121
            exact ih _ (i + 1) st num H5 (fm5, past, brk, U, ds5) sa2 us2 sp2 hlo (by omega) ⟨by omega, by omega, by omega⟩ ⟨ow, kI, mk5, nx, dx, o1, o2, st5, en5, ws5, we5, hR, hln5, hr5, hd5, hb5, hg5, rel, own, hN5⟩ hsub hch hfx hul (by rw [show txt.length + 1 - (i + 1) = n9 by omega]; exact hj) _ (lv_sub hl [0, 1, 2, 3] rfl)
          · have c3 : (txt.getD i 0) = 10 := (nI_eq (a := (txt.getD i 0)) (b := 10) (by omega) (by omega)).mp c3
            have hnl : i = txt.length ∨ txt.getD i 0 = 10 := Or.inr c3
            obtain ⟨G5, hG5⟩ : ∃ G5, rdLn txt (num + 1) st i (fm5, past, brk, U, ds5) = G5 := ⟨_, rfl⟩
            have hmono := cost_mono (txt := txt) (num := num + 1) (i := st) (j := i) (s := (fm5, past, brk, U, ds5)) hi.2.1 (by omega)
            have hfx5 := rdLn_fix (txt := txt) (num := num) (i := st) (j := i) (s := (fm5, past, brk, U, ds5)) hfx.1 hfx.2
            have hul5 := rdLn_inv (P := Ulen) (txt := txt) (num := num + 1) (i := st) (j := i) (s := (fm5, past, brk, U, ds5)) hul (fun _ _ _ _ _ _ _ _ _ k => hul.addT k) (fun _ _ _ _ _ _ _ _ _ k => hul.addM k) hi.2.1 (by omega)
            rw [if_pos hnl] at hj
            rw [hG5] at hmono hfx5 hul5 hj
            simp only at hmono
            have hcost5 := hul5.cost
            refine lv_aload_n cx.x cx.b d_B_read_84 rfl (lv_at hl 3 rfl) ?_
            refine lv_iload cx.x cx.b d_B_read_85 (lv_at hl 1 rfl) ?_
            refine lv_iload cx.x cx.b d_B_read_87 (lv_at hl 0 rfl) ?_
            refine hx_callv (iv_B_71_Rd cx (c_Rd_readLine l hE hS hL hR hln5 hr5 hd5 hb5 hg5 hN5 rel own hO5 (by omega) (by omega) (i := st) (j := i) hi.2.1 (by omega) hG5) hR.1 rfl hl.1 rfl (Nat.le_of_ble_eq_true rfl) d_B_read_89 ⟨Nat.le_of_ble_eq_true rfl, Nat.le_of_ble_eq_true rfl⟩ ⟨by show 7 + cC U + 0 + 0 + 0 + (cC G5.2.2.2.1 - cC U) ≤ 680; omega, by show 63 + cN U + 0 + 0 + 0 + (cN G5.2.2.2.1 - cN U) ≤ 7200; omega⟩) hlo (fun _ h => h) (fun H118 locs hp117 hlo => ?_)
            obtain ⟨sa6, us6, sp6, hg6, sub6, k6⟩ := hp117
            refine lv_iload cx.x cx.b d_B_read_92 (lv_at hl 0 rfl) ?_
            refine lv_iconst (v := 1) cx.x cx.b d_B_read_94 (by decide) ?_
            refine lv_iadd cx.x cx.b d_B_read_95 ?_
            refine lv_topi (fun x119 e_x119 => ?_)
            refine lv_istore (lv' := [(4, .int x119), (5, .int (nI i)), (0, .ref a), (3, .ref H.size)]) cx.x cx.b d_B_read_96 hl (by decide) rfl (fun ls hl => ?_)
            obtain ⟨x120, e_x120⟩ : ∃ y : Int32, y = nI i + 1 := ⟨_, rfl⟩
            refine lv_iinc (v := x120) (lv' := [(5, .int x120), (4, .int x119), (0, .ref a), (3, .ref H.size)]) cx.x cx.b d_B_read_98 hl (k := 1) rfl (by rw [e_x120]; rfl) (by decide) rfl (fun ls hl => ?_)
            refine lv_goto (tgt := 46) cx.x cx.b d_B_read_101 (by decide) ?_
            rw [nI_1] at e_x120
            subst e_x120
            have e_x119 := e_x119.trans (nI_1 i)
            subst e_x119
            have hch6 : hCh (fun q => dS dg n1 n2 n3 q ∨ q ∈ fpB E bl sa us sp ∨ H.size ≤ q) H H118 := hch.tr (k6.mono (fun q _ z => by rcases z with z | z | z | z | z; exact Or.inr (Or.inr (Nat.le_of_eq z.symm)); exact Or.inr (Or.inr (by rw [z]; omega)); exact Or.inr (Or.inr (by have z2 := fpD_dc.mpr z; rw [hdr] at z2; simp only [fpD, List.mem_cons, List.not_mem_nil, or_false] at z2; omega)); exact Or.inl z; rcases hsub q z with y | y; exact Or.inr (Or.inl y); exact Or.inr (Or.inr y)))
            have ec : 7 + cC U + 0 + 0 + 0 + (rmA 10 (cC G5.2.2.2.1 - cC U) (cN G5.2.2.2.1 - cN U)).cells = 7 + cC G5.2.2.2.1 := by show 7 + cC U + 0 + 0 + 0 + (cC G5.2.2.2.1 - cC U) = _; omega
            have es : 63 + cN U + 0 + 0 + 0 + (rmA 10 (cC G5.2.2.2.1 - cC U) (cN G5.2.2.2.1 - cN U)).slots = 63 + cN G5.2.2.2.1 := by show 63 + cN U + 0 + 0 + 0 + (cN G5.2.2.2.1 - cN U) = _; omega
            have IH := ih _ (i + 1) (i + 1) (num + 1) H118 G5 sa6 us6 sp6 hlo (by omega) ⟨by omega, by omega, by omega⟩ hg6 (fun q hq => by rcases sub6 q hq with y | y; exact hsub q y; exact Or.inr (by have := hch.1; omega)) hch6 hfx5 hul5 (by rw [show txt.length + 1 - (i + 1) = n9 by omega]; exact hj) _ (lv_sub hl [0, 1, 2, 3] rfl)
            rw [← ec, ← es] at IH
            exact IH
  refine lv_astore_n (lv' := [(3, .ref H.size), (2, .ref bl), (0, .ref a), (1, .int 0)]) cx.x cx.b d_B_read_39 rfl hl (by decide) rfl (fun ls hl => ?_)
  refine lv_iconst (v := 0) cx.x cx.b d_B_read_40 (by decide) ?_
  refine lv_istore (lv' := [(4, .int 0), (3, .ref H.size), (2, .ref bl), (0, .ref a), (1, .int 0)]) cx.x cx.b d_B_read_41 hl (by decide) rfl (fun ls hl => ?_)
  refine lv_iconst (v := 0) cx.x cx.b d_B_read_43 (by decide) ?_
  refine lv_istore (lv' := [(5, .int 0), (4, .int 0), (3, .ref H.size), (2, .ref bl), (0, .ref a), (1, .int 0)]) cx.x cx.b d_B_read_44 hl (by decide) rfl (fun ls hl => ?_)
  exact LP (txt.length + 2) _ 0 0 0 H100 (2, false, false, [], []) sa [] (us ++ sp) hlo (by omega) ⟨Nat.zero_le _, Nat.le_refl _, Nat.le_refl _⟩ ⟨none, 0, 0, [], [], false, false, 0, 0, 0, 0, i1, i2, t4, i3, e4, g4, ⟨List.Perm.refl _, List.Pairwise.nil⟩, rfl, hN4⟩ (fun q hq => Or.inl hq) kk4 ⟨Or.inr rfl, Nat.zero_le _⟩ ⟨Nat.zero_le _, fun u hu => absurd hu List.not_mem_nil⟩ hGA _ (lv_sub hl [0, 1, 4, 2] rfl)

set_option maxHeartbeats 4000000 in
set_option maxRecDepth 100000 in
theorem c_B_write1 (l : Launch) {E : hE} (hE : EnvOk E) (hS : EnvS E) {H : Heap} {a tr tarr fr farr dg n1 n2 n3 bl bm fm fn : Nat} {sa sb : SA} {us sp vs sq : List TV} {txt fx : List Nat} {ot fo : Bool} {ds : List (Nat × Nat × Nat)} (h : BTx E H a tr tarr fr farr dg n1 n2 n3 bl bm sa sb us sp vs sq txt ot fx fo ds fm fn) (hO : Old E H) (hk : KOk vs) : Ct l E y_B_write b_B_write 3 (some .int) (rmA 8 0 0) [.ref a, .int 1] H (hQi (fun r H1 => r = (if (formL fn vs).length ≤ 480 then nI (formL fn vs).length else -1) ∧ (∃ o2 fx2 fo2, BTx E H1 a tr tarr fr farr dg n1 n2 n3 bl bm sa sb us sp vs sq (if (formL fn vs).length ≤ 480 then (formL fn vs) else txt) o2 fx2 fo2 ds fm fn) ∧ hCh (fun q => q ∈ (grB E a tr tarr fr farr dg n1 n2 n3 bl bm sa sb us sp vs sq).flatten) H H1)) := by
  refine hx_enter hE (by decide) (Nat.le_of_ble_eq_true rfl) ?_
  intro p e s m args below meth c ls cx hnm hl
  have hl : lv_has ls 3 [(0, .ref a), (1, .int 1)] := hl
  have hlo : hLo (eB E) [] := hLo.nil
  generalize hQ : MQ below _ args s _ _ _ = Q
  obtain ⟨h1, hBa, h3, h4, h5, h6, h7, hN⟩ := h
  refine lv_aload_n cx.x cx.b d_B_write_0 rfl (lv_at hl 0 rfl) ?_
  refine lv_iload_n cx.x cx.b d_B_write_1 rfl (lv_at hl 1 rfl) ?_
  refine hx_callr (iv_B_56_B cx (c_B_chosen l hE ⟨h1, hBa, h3, h4, h5, h6, h7, hN⟩ 1) h1 rfl hl.1 rfl (Nat.le_of_ble_eq_true rfl) d_B_write_2 ⟨Nat.le_of_ble_eq_true rfl, Nat.le_of_ble_eq_true rfl⟩ ⟨Nat.zero_le _, Nat.zero_le _⟩) hlo (fun _ h => h) (fun r124 H123 locs hp122 hlo => ?_)
  obtain ⟨hp122, hH9⟩ := hp122
  have hH9 := hH9.symm
  subst hH9
  have hp122 : r124 = some bm := hp122
  subst hp122
  show W p l e _ s m args below meth c H locs _ _ _ (F0 m 5 ls [.ref bm])
  refine lv_astore_n (lv' := [(2, .ref bm), (0, .ref a), (1, .int 1)]) cx.x cx.b d_B_write_5 rfl hl (by decide) rfl (fun ls hl => ?_)
  refine lv_aload_n cx.x cx.b d_B_write_6 rfl (lv_at hl 0 rfl) ?_
  refine lv_ifnonnull (tgt := 12) cx.x cx.b d_B_write_7 (by decide) ?_
  refine lv_aload_n cx.x cx.b d_B_write_12 rfl (lv_at hl 1 rfl) ?_
  refine gf_B_18_B cx h1 rfl d_B_write_13 ?_
  refine hx_callv (iv_B_53_Rw cx (c_Rw_empty l hE h4) h4.1 rfl hl.1 rfl (Nat.le_of_ble_eq_true rfl) d_B_write_16 ⟨Nat.le_of_ble_eq_true rfl, Nat.le_of_ble_eq_true rfl⟩ ⟨Nat.le_of_ble_eq_true rfl, Nat.le_of_ble_eq_true rfl⟩) hlo (fun _ h => h) (fun H126 locs hp125 hlo => ?_)
  obtain ⟨r1, k1, z1⟩ := hp125
  have a1 := h1.ch k1 (fun z => by exact gdj hN 0 2 rfl rfl (by decide) (List.mem_singleton.mpr rfl) (rS_mem.mpr z))
  have t1 := h3.ch k1 (fun z => by exact gdj hN 1 2 rfl rfl (by decide) List.mem_cons_self (rS_mem.mpr z)) (fun z => by exact gdj hN 1 2 rfl rfl (by decide) (List.mem_cons_of_mem _ List.mem_cons_self) (rS_mem.mpr z))
  have g1 := h5.ch k1 (fun q hq z => by exact gdj hN 3 2 rfl rfl (by decide) (dS_mem.mpr hq) (rS_mem.mpr z))
  have b6 := h6.ch k1 (fun q hq z => by exact gdj hN 4 2 rfl rfl (by decide) hq (rS_mem.mpr z))
  have b7 := h7.ch k1 (fun q hq z => by exact gdj hN 5 2 rfl rfl (by decide) hq (rS_mem.mpr z))
  have hO1 := hO.ch k1 (rS.lo h4)
  refine lv_aload_n cx.x cx.b d_B_write_19 rfl (lv_at hl 0 rfl) ?_
  refine lv_aload_n cx.x cx.b d_B_write_20 rfl (lv_at hl 1 rfl) ?_
  refine gf_B_18_B cx a1 rfl d_B_write_21 ?_
  refine hx_callv (iv_B_78_Bl cx (c_Bl_addForm l hE hS b7 hO1 hk r1 (fun q hq z => gdj hN 2 5 rfl rfl (by decide) (rS_mem.mpr hq) z)) b7.1 rfl hl.1 rfl (Nat.le_of_ble_eq_true rfl) d_B_write_24 ⟨Nat.le_of_ble_eq_true rfl, Nat.le_of_ble_eq_true rfl⟩ ⟨Nat.le_of_ble_eq_true rfl, Nat.le_of_ble_eq_true rfl⟩) hlo (fun _ h => h) (fun H128 locs hp127 hlo => ?_)
  obtain ⟨r2, k2, z2⟩ := hp127
  have k12 := k1.tr k2
  have a2 := h1.ch k12 (fun z => by exact gdj hN 0 2 rfl rfl (by decide) (List.mem_singleton.mpr rfl) (rS_mem.mpr z))
  have t2 := h3.ch k12 (fun z => by exact gdj hN 1 2 rfl rfl (by decide) List.mem_cons_self (rS_mem.mpr z)) (fun z => by exact gdj hN 1 2 rfl rfl (by decide) (List.mem_cons_of_mem _ List.mem_cons_self) (rS_mem.mpr z))
  have g2 := h5.ch k12 (fun q hq z => by exact gdj hN 3 2 rfl rfl (by decide) (dS_mem.mpr hq) (rS_mem.mpr z))
  have c6 := h6.ch k12 (fun q hq z => by exact gdj hN 4 2 rfl rfl (by decide) hq (rS_mem.mpr z))
  have c7 := h7.ch k12 (fun q hq z => by exact gdj hN 5 2 rfl rfl (by decide) hq (rS_mem.mpr z))
  generalize hLe : formL fn vs = LL at r2 hQ
  by_cases cl : LL.length ≤ 480
  · rw [if_pos cl, if_pos cl] at hQ
    rw [addR_fold LL [] false (by rw [List.length_nil]; omega)] at r2
    have r2 : Rw E H128 fr farr 480 LL false := r2
    refine lv_aload_n cx.x cx.b d_B_write_27 rfl (lv_at hl 1 rfl) ?_
    refine gf_B_18_B cx a2 rfl d_B_write_28 ?_
    refine hx_calli (iv_B_82_Rw cx (c_Rw_fits l hE r2) r2.1 rfl hl.1 rfl (Nat.le_of_ble_eq_true rfl) d_B_write_31 ⟨Nat.le_of_ble_eq_true rfl, Nat.le_of_ble_eq_true rfl⟩ ⟨Nat.le_of_ble_eq_true rfl, Nat.le_of_ble_eq_true rfl⟩) hlo (fun _ h => h) (fun r131 H130 locs hp129 hlo => ?_)
    obtain ⟨hp129, hH9⟩ := hp129
    have hH9 := hH9.symm
    subst hH9
    subst hp129
    refine lv_if_ne (tgt := 39) cx.x cx.b d_B_write_34 (by decide) (fun _ => ?_) (fun c => absurd c (by decide))
    refine lv_aload_n cx.x cx.b d_B_write_39 rfl (lv_at hl 1 rfl) ?_
    refine gf_B_14_B cx a2 rfl d_B_write_40 ?_
    refine lv_aload_n cx.x cx.b d_B_write_43 rfl (lv_at hl 1 rfl) ?_
    refine gf_B_18_B cx a2 rfl d_B_write_44 ?_
    refine hx_callv (iv_B_86_Rw cx (c_Rw_copy l hE t2 r2 (fun e => gdj hN 2 1 rfl rfl (by decide) List.mem_cons_self (by rw [e]; exact List.mem_cons_self)) (fun e => gdj hN 2 1 rfl rfl (by decide) List.mem_cons_self (by rw [e]; exact List.mem_cons_of_mem _ List.mem_cons_self)) (fun e => gdj hN 2 1 rfl rfl (by decide) (List.mem_cons_of_mem _ List.mem_cons_self) (by rw [e]; exact List.mem_cons_self)) (fun e => gdj hN 2 1 rfl rfl (by decide) (List.mem_cons_of_mem _ List.mem_cons_self) (by rw [e]; exact List.mem_cons_of_mem _ List.mem_cons_self))) t2.1 rfl hl.1 rfl (Nat.le_of_ble_eq_true rfl) d_B_write_47 ⟨Nat.le_of_ble_eq_true rfl, Nat.le_of_ble_eq_true rfl⟩ ⟨Nat.le_of_ble_eq_true rfl, Nat.le_of_ble_eq_true rfl⟩) hlo (fun _ h => h) (fun H133 locs hp132 hlo => ?_)
    obtain ⟨r3, k3, z3⟩ := hp132
    rw [addR_fold LL [] false (by rw [List.length_nil]; omega)] at r3
    have r3 : Rw E H133 tr tarr 480 LL false := r3
    have a3 := a2.ch k3 (fun z => by exact gdj hN 0 1 rfl rfl (by decide) (List.mem_singleton.mpr rfl) (rS_mem.mpr z))
    refine lv_aload_n cx.x cx.b d_B_write_50 rfl (lv_at hl 1 rfl) ?_
    refine gf_B_14_B cx a3 rfl d_B_write_51 ?_
    refine hx_calli (iv_B_38_Rw cx (c_Rw_length l hE r3) r3.1 rfl hl.1 rfl (Nat.le_of_ble_eq_true rfl) d_B_write_54 ⟨Nat.le_of_ble_eq_true rfl, Nat.le_of_ble_eq_true rfl⟩ ⟨Nat.le_of_ble_eq_true rfl, Nat.le_of_ble_eq_true rfl⟩) hlo (fun _ h => h) (fun r136 H135 locs hp134 hlo => ?_)
    obtain ⟨hp134, hH9⟩ := hp134
    have hH9 := hH9.symm
    subst hH9
    subst hp134
    rw [← hQ]
    exact hx_reti cx.x cx.b cx.r cx.k rfl hlo (fun _ h => h) (Nat.le_of_ble_eq_true rfl) (Nat.le_of_ble_eq_true rfl) d_B_write_57 (⟨rfl, ⟨_, _, _, a3, hBa, r3, r2.ch k3 (fun z => by exact gdj hN 2 1 rfl rfl (by decide) List.mem_cons_self (rS_mem.mpr z)) (fun z => by exact gdj hN 2 1 rfl rfl (by decide) (List.mem_cons_of_mem _ List.mem_cons_self) (rS_mem.mpr z)), g2.ch k3 (fun q hq z => by exact gdj hN 3 1 rfl rfl (by decide) (dS_mem.mpr hq) (rS_mem.mpr z)), c6.ch k3 (fun q hq z => by exact gdj hN 4 1 rfl rfl (by decide) hq (rS_mem.mpr z)), c7.ch k3 (fun q hq z => by exact gdj hN 5 1 rfl rfl (by decide) hq (rS_mem.mpr z)), hN⟩, (k12.mono (S' := fun q => q ∈ (grB E a tr tarr fr farr dg n1 n2 n3 bl bm sa sb us sp vs sq).flatten) (fun q _ z => grB_mem 2 rfl (rS_mem.mpr z))).tr (k3.mono (S' := fun q => q ∈ (grB E a tr tarr fr farr dg n1 n2 n3 bl bm sa sb us sp vs sq).flatten) (fun q _ z => grB_mem 1 rfl (rS_mem.mpr z)))⟩)
  · rw [if_neg cl, if_neg cl] at hQ
    have hov := addR_over (cap := 480) LL [] false (Nat.zero_le _) (by rw [List.length_nil]; omega)
    rw [hov] at r2
    refine lv_aload_n cx.x cx.b d_B_write_27 rfl (lv_at hl 1 rfl) ?_
    refine gf_B_18_B cx a2 rfl d_B_write_28 ?_
    refine hx_calli (iv_B_82_Rw cx (c_Rw_fits l hE r2) r2.1 rfl hl.1 rfl (Nat.le_of_ble_eq_true rfl) d_B_write_31 ⟨Nat.le_of_ble_eq_true rfl, Nat.le_of_ble_eq_true rfl⟩ ⟨Nat.le_of_ble_eq_true rfl, Nat.le_of_ble_eq_true rfl⟩) hlo (fun _ h => h) (fun r139 H138 locs hp137 hlo => ?_)
    obtain ⟨hp137, hH9⟩ := hp137
    have hH9 := hH9.symm
    subst hH9
    subst hp137
    refine lv_if_ne (tgt := 39) cx.x cx.b d_B_write_34 (by decide) (fun c => absurd (by decide) c) (fun _ => ?_)
    refine lv_iconst (v := (-1)) cx.x cx.b d_B_write_37 (by decide) ?_
    rw [← hQ]
    exact hx_reti cx.x cx.b cx.r cx.k rfl hlo (fun _ h => h) (Nat.le_of_ble_eq_true rfl) (Nat.le_of_ble_eq_true rfl) d_B_write_38 (⟨rfl, ⟨_, _, _, a2, hBa, t2, r2, g2, c6, c7, hN⟩, (k12.mono (S' := fun q => q ∈ (grB E a tr tarr fr farr dg n1 n2 n3 bl bm sa sb us sp vs sq).flatten) (fun q _ z => grB_mem 2 rfl (rS_mem.mpr z)))⟩)

set_option maxHeartbeats 4000000 in
set_option maxRecDepth 100000 in
theorem c_B_read1 (l : Launch) {E : hE} (hE : EnvOk E) (hS : EnvS E) (hL : EnvL E) {H : Heap} {a tr tarr fr farr dg n1 n2 n3 bl bm fm fn : Nat} {sa sb : SA} {us sp vs sq : List TV} {txt fx : List Nat} {ot fo : Bool} {ds : List (Nat × Nat × Nat)} (h : BTx E H a tr tarr fr farr dg n1 n2 n3 bl bm sa sb us sp vs sq txt ot fx fo ds fm fn) (hO : Old E H) : Ct l E y_B_read b_B_read 6 (some .int) (rmA 11 680 7200) [.ref a, .int 1] H (hQi (fun r H1 => r = nI (rdA txt).2.2.2.2.length ∧ (∃ (sa2 : SA) (us2 sp2 : List TV), BTx E H1 a tr tarr fr farr dg n1 n2 n3 bl bm sa sa2 us sp us2 sp2 txt ot fx fo (rdA txt).2.2.2.2 fm (rdA txt).1 ∧ RelT us2 (rdA txt).2.2.2.1 ∧ ∀ q ∈ fpB E bm sa2 us2 sp2, q ∈ fpB E bm sb vs sq ∨ H.size ≤ q) ∧ hCh (fun q => q ∈ (grB E a tr tarr fr farr dg n1 n2 n3 bl bm sa sb us sp vs sq).flatten) H H1)) := by
  refine hx_enter hE (by decide) (Nat.le_of_ble_eq_true rfl) ?_
  intro p e s m args below meth c ls cx hnm hl
  have hl : lv_has ls 6 [(0, .ref a), (1, .int 1)] := hl
  have hlo : hLo (eB E) [] := hLo.nil
  generalize hQ : MQ below _ args s _ _ _ = Q
  obtain ⟨h1, hBa, h3, h4, h5, h6, h7, hN⟩ := h
  have hltF := BTx.lt hL ⟨h1, hBa, h3, h4, h5, h6, h7, hN⟩
  have hle := h3.le
  refine lv_aload_n cx.x cx.b d_B_read_0 rfl (lv_at hl 0 rfl) ?_
  refine lv_iload_n cx.x cx.b d_B_read_1 rfl (lv_at hl 1 rfl) ?_
  refine hx_callr (iv_B_56_B cx (c_B_chosen l hE ⟨h1, hBa, h3, h4, h5, h6, h7, hN⟩ 1) h1 rfl hl.1 rfl (Nat.le_of_ble_eq_true rfl) d_B_read_2 ⟨Nat.le_of_ble_eq_true rfl, Nat.le_of_ble_eq_true rfl⟩ ⟨Nat.zero_le _, Nat.zero_le _⟩) hlo (fun _ h => h) (fun r142 H141 locs hp140 hlo => ?_)
  obtain ⟨hp140, hH9⟩ := hp140
  have hH9 := hH9.symm
  subst hH9
  have hp140 : r142 = some bm := hp140
  subst hp140
  show W p l e _ s m args below meth c H locs _ _ _ (F0 m 5 ls [.ref bm])
  refine lv_astore_n (lv' := [(2, .ref bm), (0, .ref a), (1, .int 1)]) cx.x cx.b d_B_read_5 rfl hl (by decide) rfl (fun ls hl => ?_)
  refine lv_aload_n cx.x cx.b d_B_read_6 rfl (lv_at hl 0 rfl) ?_
  refine lv_ifnonnull (tgt := 12) cx.x cx.b d_B_read_7 (by decide) ?_
  refine lv_aload_n cx.x cx.b d_B_read_12 rfl (lv_at hl 0 rfl) ?_
  refine hx_callv (iv_B_60_Bl cx (c_Bl_empty l hE h7) h7.1 rfl hl.1 rfl (Nat.le_of_ble_eq_true rfl) d_B_read_13 ⟨Nat.le_of_ble_eq_true rfl, Nat.le_of_ble_eq_true rfl⟩ ⟨Nat.zero_le _, Nat.zero_le _⟩) hlo (fun _ h => h) (fun H144 locs hp143 hlo => ?_)
  obtain ⟨e1, k1, z1⟩ := hp143
  have k1 : hCh (fun q => q ∈ fpB E bm sb vs sq) H H144 := k1.mono (fun q _ z => by rcases z with z | z; rw [z]; exact List.mem_cons_self; rw [z]; exact List.mem_cons_of_mem _ (List.mem_append_left _ (fpSA_sf.mpr (Or.inl rfl))))
  have a1 := h1.ch k1 (fun z => by exact gdj hN 0 5 rfl rfl (by decide) (List.mem_singleton.mpr rfl) z)
  have t1 := h3.ch k1 (fun z => by exact gdj hN 1 5 rfl rfl (by decide) List.mem_cons_self z) (fun z => by exact gdj hN 1 5 rfl rfl (by decide) (List.mem_cons_of_mem _ List.mem_cons_self) z)
  have g1 := h5.ch k1 (fun q hq z => by exact gdj hN 3 5 rfl rfl (by decide) (dS_mem.mpr hq) z)
  refine lv_aload_n cx.x cx.b d_B_read_16 rfl (lv_at hl 1 rfl) ?_
  refine gf_B_24_B cx a1 rfl d_B_read_17 ?_
  refine hx_callv (iv_B_61_Dg cx (c_Dg_empty l hE g1) g1.1 rfl hl.1 rfl (Nat.le_of_ble_eq_true rfl) d_B_read_20 ⟨Nat.le_of_ble_eq_true rfl, Nat.le_of_ble_eq_true rfl⟩ ⟨Nat.zero_le _, Nat.zero_le _⟩) hlo (fun _ h => h) (fun H146 locs hp145 hlo => ?_)
  obtain ⟨g2, k2, z2⟩ := hp145
  have a2 := a1.ch k2 (fun z => by exact gdj hN 0 3 rfl rfl (by decide) (List.mem_singleton.mpr rfl) (dS_mem.mpr z))
  have t2 := t1.ch k2 (fun z => by exact gdj hN 1 3 rfl rfl (by decide) List.mem_cons_self (dS_mem.mpr z)) (fun z => by exact gdj hN 1 3 rfl rfl (by decide) (List.mem_cons_of_mem _ List.mem_cons_self) (dS_mem.mpr z))
  have e2 := e1.ch k2 (fun q hq z => gdj hN 3 5 rfl rfl (by decide) (dS_mem.mpr z) hq)
  have kk2 : hCh (fun q => dS dg n1 n2 n3 q ∨ q ∈ fpB E bm sb vs sq ∨ H.size ≤ q) H H146 := (k1.mono (fun q _ z => Or.inr (Or.inl z))).tr (k2.mono (fun q _ z => Or.inl z))
  have hO2 : Old E H146 := hO.ch kk2 (fun q z => by rcases z with z | z | z; exact dS.lo h5 q z; exact h7.lo q z; exact Nat.le_trans hO.1 z)
  refine nw_B_62 cx (Nat.le_of_ble_eq_true rfl) (Nat.le_of_ble_eq_true rfl) d_B_read_23 (fun H147 hn148 z_H147 o_H147 => ?_)
  have k3 : hCh (fun _ => False) H146 H147 := hCh.new z_H147 o_H147
  have hO3 := hO2.ch k3 (fun q e => e.elim)
  have zz3 : H147.size = H.size + 1 := by omega
  have a3 := a2.ch k3 id
  have zz2 : H146.size = H.size := by omega
  rw [zz2] at hn148
  refine lv_dup cx.x cx.b d_B_read_26 rfl ?_
  refine lv_aload_n cx.x cx.b d_B_read_27 rfl (lv_at hl 1 rfl) ?_
  refine gf_B_14_B cx a3 rfl d_B_read_28 ?_
  refine lv_aload_n cx.x cx.b d_B_read_31 rfl (lv_at hl 0 rfl) ?_
  refine lv_aload_n cx.x cx.b d_B_read_32 rfl (lv_at hl 1 rfl) ?_
  refine gf_B_24_B cx a3 rfl d_B_read_33 ?_
  rw [zz2]
  refine hx_callv (iv_B_64 cx (c_Rd_init l hE (H := H147) (a := H.size) (tr := tr) (bl := bm) (dg := dg) hn148 hO.1 hO3) rfl hl.1 rfl (Nat.le_of_ble_eq_true rfl) d_B_read_36 ⟨Nat.le_of_ble_eq_true rfl, Nat.le_of_ble_eq_true rfl⟩ ⟨Nat.le_of_ble_eq_true rfl, Nat.le_of_ble_eq_true rfl⟩) hlo (fun _ h => h) (fun H150 locs hp149 hlo => ?_)
  obtain ⟨i1, i2, i3, i4, i5⟩ := hp149
  rw [zz3] at i1 i2 i3 i5
  have k4 : hCh (fun q => H.size ≤ q) H146 H150 := (k3.mono (fun q _ z => z.elim)).tr (i4.mono (fun q _ z => Nat.le_of_eq z.symm))
  have t4 := t2.ch k4 (fun z => absurd (h3.lt tr (Or.inl rfl)) (by omega)) (fun z => absurd (h3.lt tarr (Or.inr rfl)) (by omega))
  have e4 := e2.ch k4 (fun q hq z => absurd (h7.lt hL q hq) (by omega))
  have g4 := g2.ch k4 (fun q hq z => absurd (h5.lt q (dS_mem.mpr hq)) (by omega))
  have kk4 : hCh (fun q => dS dg n1 n2 n3 q ∨ q ∈ fpB E bm sb vs sq ∨ H.size ≤ q) H H150 := kk2.tr (k4.mono (fun q _ z => Or.inr (Or.inr z)))
  have hO4 : Old E H150 := hO.ch kk4 (fun q z => by rcases z with z | z | z; exact dS.lo h5 q z; exact h7.lo q z; exact Nat.le_trans hO.1 z)
  obtain ⟨ln, hln⟩ : ∃ ln, ln = H.size + 1 + 5 := ⟨_, rfl⟩
  rw [← hln] at i1 i2
  obtain ⟨dr, hdr⟩ : ∃ dr : DA, dr = ((H.size + 1, H.size + 1 + 1, H.size + 1 + 2, H.size + 1 + 3, H.size + 1 + 4) : DA) := ⟨_, rfl⟩
  have i3 : Dr E H150 dr 0 0 [] [] false false := by rw [hdr]; exact i3
  have i1 : RdO E H150 H.size ln bm dg dr.1 0 false false none := by rw [hdr]; exact i1
  have hN4 : (grR E H.size ln tr tarr dr dg n1 n2 n3 bm sb [] (vs ++ sq)).flatten.Nodup := by
    have q1 : ([tr, tarr] ++ ([dg, n1, n2, n3] ++ (fpB E bm sb vs sq ++ []))).Nodup := by
      have q2 := List.pairwise_flatten.mp hN
      show (([[tr, tarr], [dg, n1, n2, n3], fpB E bm sb vs sq] : List (List Nat)).flatten).Nodup
      refine List.Nodup.sublist ?_ hN
      exact List.Sublist.cons _ (List.Sublist.cons₂ _ (List.Sublist.cons₂ _ (List.Sublist.cons _ (List.Sublist.cons _ (List.Sublist.cons₂ _ (List.Sublist.cons₂ _ (List.Sublist.cons₂ _ (List.Sublist.cons₂ _ (List.sublist_append_right _ _)))))))))
    have q3 := nodupG (rd := H.size) (ln := ln) (D := fpD dr) (N := H.size) q1 (fun q hq => by rcases List.mem_append.mp hq with z | z; exact h3.lt q (rS_mem.mp z); rcases List.mem_append.mp z with z | z; exact h5.lt q z; rw [List.append_nil] at z; exact h7.lt hL q z) (by rw [hln, hdr]; simp [fpD]; omega) (fun q hq => by rw [hln, hdr] at hq; simp only [fpD, List.mem_cons, List.not_mem_nil, or_false] at hq; omega)
    exact q3
  have hGA : rdLp txt (txt.length + 1 - 0) 0 0 0 (2, false, false, [], []) = rdA txt := rfl
  generalize hG0 : rdA txt = GA at hQ hGA
  have LP : ∀ (k : Nat) (locs : List Loc) (i st num : Nat) (H5 : Heap) (g : RSt) (sa2 : SA) (us2 sp2 : List TV), hLo (eB E) locs → (txt.length + 1 - i < k) → (i ≤ txt.length + 1 ∧ st ≤ i ∧ num ≤ i) → (RG E H5 H.size ln tr tarr dr dg n1 n2 n3 bm txt ot num g sa2 us2 sp2) → (∀ q ∈ fpB E bm sa2 us2 sp2, q ∈ fpB E bm sb vs sq ∨ H.size ≤ q) → (hCh (fun q => dS dg n1 n2 n3 q ∨ q ∈ fpB E bm sb vs sq ∨ H.size ≤ q) H H5) → ((g.1 = 1 ∨ g.1 = 2) ∧ g.2.2.2.2.length ≤ num + pastN g.2.1) → (Ulen g.2.2.2.1) → (rdLp txt (txt.length + 1 - i) i st num g = GA) → ∀ ls, lv_has ls 6 [(5, .int (nI i)), (4, .int (nI st)), (0, .ref a), (3, .ref H.size)] → W p l e (rmA 11 680 7200) s m args below meth c H5 locs (7 + cC g.2.2.2.1) (63 + cN g.2.2.2.1) Q (F0 m 46 ls []) := by
    intro k
    induction k with
    | zero => intro locs i st num H5 g sa2 us2 sp2 hlo hk hi hg hsub hch hfx hul hj; exact absurd hk (by omega)
    | succ k ih =>
      intro locs i st num H5 g sa2 us2 sp2 hlo hk hi hg hsub hch hfx hul hj ls hl
      obtain ⟨fm5, past, brk, U, ds5⟩ := g
      obtain ⟨ow, kI, mk5, nx, dx, o1, o2, st5, en5, ws5, we5, hR, hln5, hr5, hd5, hb5, hg5, rel, own, hN5⟩ := hg
      simp only at hR hb5 hg5 rel own hfx hul
      have hcost := hul.cost
      have hp9 : pastN past ≤ 1 := by cases past <;> decide
      have a5 := h1.ch hch (fun z => by rcases z with z | z | z; exact gdj hN 0 3 rfl rfl (by decide) (List.mem_singleton.mpr rfl) (dS_mem.mpr z); exact gdj hN 0 5 rfl rfl (by decide) (List.mem_singleton.mpr rfl) z; have := h1.lt; omega)
      have hO5 : Old E H5 := hO.ch hch (fun q z => by rcases z with z | z | z; exact dS.lo h5 q z; exact h7.lo q z; exact Nat.le_trans hO.1 z)
      refine lv_iload cx.x cx.b d_B_read_46 (lv_at hl 0 rfl) ?_
      refine lv_aload_n cx.x cx.b d_B_read_48 rfl (lv_at hl 2 rfl) ?_
      refine gf_B_14_B cx a5 rfl d_B_read_49 ?_
      refine hx_calli (iv_B_38_Rw cx (c_Rw_length l hE hr5) hr5.1 rfl hl.1 rfl (Nat.le_of_ble_eq_true rfl) d_B_read_52 ⟨Nat.le_of_ble_eq_true rfl, Nat.le_of_ble_eq_true rfl⟩ ⟨by show 7 + cC U + 0 ≤ 680; omega, by show 63 + cN U + 0 ≤ 7200; omega⟩) hlo (fun _ h => h) (fun r153 H152 locs hp151 hlo => ?_)
      obtain ⟨hp151, hH9⟩ := hp151
      have hH9 := hH9.symm
      subst hH9
      subst hp151
      refine lv_icmp_gt (tgt := 104) cx.x cx.b d_B_read_55 (by decide) (fun c1 => ?_) (fun c1 => ?_)
      · have c1 : txt.length < i := (nI_ltI (a := txt.length) (b := i) (by omega) (by omega)).mp c1
        refine lv_aload_n cx.x cx.b d_B_read_104 rfl (lv_at hl 2 rfl) ?_
        refine gf_B_24_B cx a5 rfl d_B_read_105 ?_
        refine hx_calli (iv_B_75_Dg cx (c_Dg_count l hE hg5) hg5.1 rfl hl.1 rfl (Nat.le_of_ble_eq_true rfl) d_B_read_108 ⟨Nat.le_of_ble_eq_true rfl, Nat.le_of_ble_eq_true rfl⟩ ⟨by show 7 + cC U + 0 ≤ 680; omega, by show 63 + cN U + 0 ≤ 7200; omega⟩) hlo (fun _ h => h) (fun r156 H155 locs hp154 hlo => ?_)
        obtain ⟨hp154, hH9⟩ := hp154
        have hH9 := hH9.symm
        subst hH9
        subst hp154
        rw [show txt.length + 1 - i = 0 by omega] at hj
        have hj : (fm5, past, brk, U, ds5) = GA := hj
        rw [← hj] at hQ
        rw [← hQ]
        exact hx_reti cx.x cx.b cx.r cx.k rfl hlo (fun _ h => h) (by show 7 + cC U + 0 + 0 ≤ 680; omega) (by show 63 + cN U + 0 + 0 ≤ 7200; omega) d_B_read_111 (⟨rfl, ⟨sa2, us2, sp2, ⟨a5, hBa, hr5, h4.ch hch (fun z => by rcases z with z | z | z; exact gdj hN 2 3 rfl rfl (by decide) List.mem_cons_self (dS_mem.mpr z); exact gdj hN 2 5 rfl rfl (by decide) List.mem_cons_self z; have := hltF fr (grB_mem 2 rfl List.mem_cons_self); omega) (fun z => by rcases z with z | z | z; exact gdj hN 2 3 rfl rfl (by decide) (List.mem_cons_of_mem _ List.mem_cons_self) (dS_mem.mpr z); exact gdj hN 2 5 rfl rfl (by decide) (List.mem_cons_of_mem _ List.mem_cons_self) z; have := hltF farr (grB_mem 2 rfl (List.mem_cons_of_mem _ List.mem_cons_self)); omega), hg5, h6.ch hch (fun q hq z => by rcases z with z | z | z; exact gdj hN 4 3 rfl rfl (by decide) hq (dS_mem.mpr z); exact gdj hN 4 5 rfl rfl (by decide) hq z; have := hltF q (grB_mem 4 rfl hq); omega), hb5, grB_repl1 hN hb5.nd hsub hltF⟩, rel, hsub⟩, hch.mono (fun q hq z => by rcases z with z | z | z; exact grB_mem 3 rfl (dS_mem.mpr z); exact grB_mem 5 rfl z; omega)⟩)
      · have c1 : i ≤ txt.length := Nat.not_lt.mp (fun zz => c1 ((nI_ltI (a := txt.length) (b := i) (by omega) (by omega)).mpr zz))
        obtain ⟨n9, hn9⟩ : ∃ n9, txt.length + 1 - i = n9 + 1 := ⟨txt.length - i, by omega⟩
        rw [hn9] at hj
        have hj : (if i = txt.length ∨ txt.getD i 0 = 10 then rdLp txt n9 (i + 1) (i + 1) (num + 1) (rdLn txt (num + 1) st i (fm5, past, brk, U, ds5)) else rdLp txt n9 (i + 1) st num (fm5, past, brk, U, ds5)) = GA := hj
        refine lv_iload cx.x cx.b d_B_read_58 (lv_at hl 0 rfl) ?_
        refine lv_aload_n cx.x cx.b d_B_read_60 rfl (lv_at hl 2 rfl) ?_
        refine gf_B_14_B cx a5 rfl d_B_read_61 ?_
        refine hx_calli (iv_B_38_Rw cx (c_Rw_length l hE hr5) hr5.1 rfl hl.1 rfl (Nat.le_of_ble_eq_true rfl) d_B_read_64 ⟨Nat.le_of_ble_eq_true rfl, Nat.le_of_ble_eq_true rfl⟩ ⟨by show 7 + cC U + 0 + 0 ≤ 680; omega, by show 63 + cN U + 0 + 0 ≤ 7200; omega⟩) hlo (fun _ h => h) (fun r159 H158 locs hp157 hlo => ?_)
        obtain ⟨hp157, hH9⟩ := hp157
        have hH9 := hH9.symm
        subst hH9
        subst hp157
        refine lv_icmp_eq (tgt := 84) cx.x cx.b d_B_read_67 (by decide) (fun c2 => ?_) (fun c2 => ?_)
        · have c2 : i = txt.length := (nI_eq (a := i) (b := txt.length) (by omega) (by omega)).mp c2
          have hnl : i = txt.length ∨ txt.getD i 0 = 10 := Or.inl c2
          obtain ⟨G5, hG5⟩ : ∃ G5, rdLn txt (num + 1) st i (fm5, past, brk, U, ds5) = G5 := ⟨_, rfl⟩
          have hmono := cost_mono (txt := txt) (num := num + 1) (i := st) (j := i) (s := (fm5, past, brk, U, ds5)) hi.2.1 (by omega)
          have hfx5 := rdLn_fix (txt := txt) (num := num) (i := st) (j := i) (s := (fm5, past, brk, U, ds5)) hfx.1 hfx.2
          have hul5 := rdLn_inv (P := Ulen) (txt := txt) (num := num + 1) (i := st) (j := i) (s := (fm5, past, brk, U, ds5)) hul (fun _ _ _ _ _ _ _ _ _ k => hul.addT k) (fun _ _ _ _ _ _ _ _ _ k => hul.addM k) hi.2.1 (by omega)
          rw [if_pos hnl] at hj
          rw [hG5] at hmono hfx5 hul5 hj
          simp only at hmono
          have hcost5 := hul5.cost
          refine lv_aload_n cx.x cx.b d_B_read_84 rfl (lv_at hl 3 rfl) ?_
          refine lv_iload cx.x cx.b d_B_read_85 (lv_at hl 1 rfl) ?_
          refine lv_iload cx.x cx.b d_B_read_87 (lv_at hl 0 rfl) ?_
          refine hx_callv (iv_B_71_Rd cx (c_Rd_readLine l hE hS hL hR hln5 hr5 hd5 hb5 hg5 hN5 rel own hO5 (by omega) (by omega) (i := st) (j := i) hi.2.1 (by omega) hG5) hR.1 rfl hl.1 rfl (Nat.le_of_ble_eq_true rfl) d_B_read_89 ⟨Nat.le_of_ble_eq_true rfl, Nat.le_of_ble_eq_true rfl⟩ ⟨by show 7 + cC U + 0 + 0 + (cC G5.2.2.2.1 - cC U) ≤ 680; omega, by show 63 + cN U + 0 + 0 + (cN G5.2.2.2.1 - cN U) ≤ 7200; omega⟩) hlo (fun _ h => h) (fun H161 locs hp160 hlo => ?_)
          obtain ⟨sa6, us6, sp6, hg6, sub6, k6⟩ := hp160
          refine lv_iload cx.x cx.b d_B_read_92 (lv_at hl 0 rfl) ?_
          refine lv_iconst (v := 1) cx.x cx.b d_B_read_94 (by decide) ?_
          refine lv_iadd cx.x cx.b d_B_read_95 ?_
          refine lv_topi (fun x162 e_x162 => ?_)
          refine lv_istore (lv' := [(4, .int x162), (5, .int (nI i)), (0, .ref a), (3, .ref H.size)]) cx.x cx.b d_B_read_96 hl (by decide) rfl (fun ls hl => ?_)
          obtain ⟨x163, e_x163⟩ : ∃ y : Int32, y = nI i + 1 := ⟨_, rfl⟩
          refine lv_iinc (v := x163) (lv' := [(5, .int x163), (4, .int x162), (0, .ref a), (3, .ref H.size)]) cx.x cx.b d_B_read_98 hl (k := 1) rfl (by rw [e_x163]; rfl) (by decide) rfl (fun ls hl => ?_)
          refine lv_goto (tgt := 46) cx.x cx.b d_B_read_101 (by decide) ?_
          rw [nI_1] at e_x163
          subst e_x163
          have e_x162 := e_x162.trans (nI_1 i)
          subst e_x162
          have hch6 : hCh (fun q => dS dg n1 n2 n3 q ∨ q ∈ fpB E bm sb vs sq ∨ H.size ≤ q) H H161 := hch.tr (k6.mono (fun q _ z => by rcases z with z | z | z | z | z; exact Or.inr (Or.inr (Nat.le_of_eq z.symm)); exact Or.inr (Or.inr (by rw [z]; omega)); exact Or.inr (Or.inr (by have z2 := fpD_dc.mpr z; rw [hdr] at z2; simp only [fpD, List.mem_cons, List.not_mem_nil, or_false] at z2; omega)); exact Or.inl z; rcases hsub q z with y | y; exact Or.inr (Or.inl y); exact Or.inr (Or.inr y)))
          have ec : 7 + cC U + 0 + 0 + (rmA 10 (cC G5.2.2.2.1 - cC U) (cN G5.2.2.2.1 - cN U)).cells = 7 + cC G5.2.2.2.1 := by show 7 + cC U + 0 + 0 + (cC G5.2.2.2.1 - cC U) = _; omega
          have es : 63 + cN U + 0 + 0 + (rmA 10 (cC G5.2.2.2.1 - cC U) (cN G5.2.2.2.1 - cN U)).slots = 63 + cN G5.2.2.2.1 := by show 63 + cN U + 0 + 0 + (cN G5.2.2.2.1 - cN U) = _; omega
          have IH := ih _ (i + 1) (i + 1) (num + 1) H161 G5 sa6 us6 sp6 hlo (by omega) ⟨by omega, by omega, by omega⟩ hg6 (fun q hq => by rcases sub6 q hq with y | y; exact hsub q y; exact Or.inr (by have := hch.1; omega)) hch6 hfx5 hul5 (by rw [show txt.length + 1 - (i + 1) = n9 by omega]; exact hj) _ (lv_sub hl [0, 1, 2, 3] rfl)
          rw [← ec, ← es] at IH
          exact IH
        · have c2 : i ≠ txt.length := fun zz => c2 ((nI_eq (a := i) (b := txt.length) (by omega) (by omega)).mpr zz)
          refine lv_aload_n cx.x cx.b d_B_read_70 rfl (lv_at hl 2 rfl) ?_
          refine gf_B_14_B cx a5 rfl d_B_read_71 ?_
          refine lv_iload cx.x cx.b d_B_read_74 (lv_at hl 0 rfl) ?_
          refine hx_calli (iv_B_67_Rw cx (c_Rw_at l hE hr5 (nI i)) hr5.1 rfl hl.1 rfl (Nat.le_of_ble_eq_true rfl) d_B_read_76 ⟨Nat.le_of_ble_eq_true rfl, Nat.le_of_ble_eq_true rfl⟩ ⟨by show 7 + cC U + 0 + 0 + 0 ≤ 680; omega, by show 63 + cN U + 0 + 0 + 0 ≤ 7200; omega⟩) hlo (fun _ h => h) (fun r166 H165 locs hp164 hlo => ?_)
          obtain ⟨hp164, hH9⟩ := hp164
          have hH9 := hH9.symm
          subst hH9
          rw [atI_n (show i < txt.length by omega) (by omega)] at hp164
          have hx9 := hr5.2.2.2.2.2 _ (getD_mem (show i < txt.length by omega))
          subst hp164
          refine lv_bipush (v := 10) cx.x cx.b d_B_read_79 (by decide) ?_
          refine lv_icmp_ne (tgt := 98) cx.x cx.b d_B_read_81 (by decide) (fun c3 => ?_) (fun c3 => ?_)
          · have c3 : (txt.getD i 0) ≠ 10 := fun zz => c3 ((nI_eq (a := (txt.getD i 0)) (b := 10) (by omega) (by omega)).mpr zz)
            rw [if_neg (fun z => by rcases z with z | z; exact c2 z; exact c3 z)] at hj
            obtain ⟨x171, e_x171⟩ : ∃ y : Int32, y = nI i + 1 := ⟨_, rfl⟩
            refine lv_iinc (v := x171) (lv' := [(5, .int x171), (4, .int (nI st)), (0, .ref a), (3, .ref H.size)]) cx.x cx.b d_B_read_98 hl (k := 0) rfl (by rw [e_x171]; rfl) (by decide) rfl (fun ls hl => ?_)
            refine lv_goto (tgt := 46) cx.x cx.b d_B_read_101 (by decide) ?_
            rw [nI_1] at e_x171
            subst e_x171
            exact ih _ (i + 1) st num H5 (fm5, past, brk, U, ds5) sa2 us2 sp2 hlo (by omega) ⟨by omega, by omega, by omega⟩ ⟨ow, kI, mk5, nx, dx, o1, o2, st5, en5, ws5, we5, hR, hln5, hr5, hd5, hb5, hg5, rel, own, hN5⟩ hsub hch hfx hul (by rw [show txt.length + 1 - (i + 1) = n9 by omega]; exact hj) _ (lv_sub hl [0, 1, 2, 3] rfl)
          · have c3 : (txt.getD i 0) = 10 := (nI_eq (a := (txt.getD i 0)) (b := 10) (by omega) (by omega)).mp c3
            have hnl : i = txt.length ∨ txt.getD i 0 = 10 := Or.inr c3
            obtain ⟨G5, hG5⟩ : ∃ G5, rdLn txt (num + 1) st i (fm5, past, brk, U, ds5) = G5 := ⟨_, rfl⟩
            have hmono := cost_mono (txt := txt) (num := num + 1) (i := st) (j := i) (s := (fm5, past, brk, U, ds5)) hi.2.1 (by omega)
            have hfx5 := rdLn_fix (txt := txt) (num := num) (i := st) (j := i) (s := (fm5, past, brk, U, ds5)) hfx.1 hfx.2
            have hul5 := rdLn_inv (P := Ulen) (txt := txt) (num := num + 1) (i := st) (j := i) (s := (fm5, past, brk, U, ds5)) hul (fun _ _ _ _ _ _ _ _ _ k => hul.addT k) (fun _ _ _ _ _ _ _ _ _ k => hul.addM k) hi.2.1 (by omega)
            rw [if_pos hnl] at hj
            rw [hG5] at hmono hfx5 hul5 hj
            simp only at hmono
            have hcost5 := hul5.cost
            refine lv_aload_n cx.x cx.b d_B_read_84 rfl (lv_at hl 3 rfl) ?_
            refine lv_iload cx.x cx.b d_B_read_85 (lv_at hl 1 rfl) ?_
            refine lv_iload cx.x cx.b d_B_read_87 (lv_at hl 0 rfl) ?_
            refine hx_callv (iv_B_71_Rd cx (c_Rd_readLine l hE hS hL hR hln5 hr5 hd5 hb5 hg5 hN5 rel own hO5 (by omega) (by omega) (i := st) (j := i) hi.2.1 (by omega) hG5) hR.1 rfl hl.1 rfl (Nat.le_of_ble_eq_true rfl) d_B_read_89 ⟨Nat.le_of_ble_eq_true rfl, Nat.le_of_ble_eq_true rfl⟩ ⟨by show 7 + cC U + 0 + 0 + 0 + (cC G5.2.2.2.1 - cC U) ≤ 680; omega, by show 63 + cN U + 0 + 0 + 0 + (cN G5.2.2.2.1 - cN U) ≤ 7200; omega⟩) hlo (fun _ h => h) (fun H168 locs hp167 hlo => ?_)
            obtain ⟨sa6, us6, sp6, hg6, sub6, k6⟩ := hp167
            refine lv_iload cx.x cx.b d_B_read_92 (lv_at hl 0 rfl) ?_
            refine lv_iconst (v := 1) cx.x cx.b d_B_read_94 (by decide) ?_
            refine lv_iadd cx.x cx.b d_B_read_95 ?_
            refine lv_topi (fun x169 e_x169 => ?_)
            refine lv_istore (lv' := [(4, .int x169), (5, .int (nI i)), (0, .ref a), (3, .ref H.size)]) cx.x cx.b d_B_read_96 hl (by decide) rfl (fun ls hl => ?_)
            obtain ⟨x170, e_x170⟩ : ∃ y : Int32, y = nI i + 1 := ⟨_, rfl⟩
            refine lv_iinc (v := x170) (lv' := [(5, .int x170), (4, .int x169), (0, .ref a), (3, .ref H.size)]) cx.x cx.b d_B_read_98 hl (k := 1) rfl (by rw [e_x170]; rfl) (by decide) rfl (fun ls hl => ?_)
            refine lv_goto (tgt := 46) cx.x cx.b d_B_read_101 (by decide) ?_
            rw [nI_1] at e_x170
            subst e_x170
            have e_x169 := e_x169.trans (nI_1 i)
            subst e_x169
            have hch6 : hCh (fun q => dS dg n1 n2 n3 q ∨ q ∈ fpB E bm sb vs sq ∨ H.size ≤ q) H H168 := hch.tr (k6.mono (fun q _ z => by rcases z with z | z | z | z | z; exact Or.inr (Or.inr (Nat.le_of_eq z.symm)); exact Or.inr (Or.inr (by rw [z]; omega)); exact Or.inr (Or.inr (by have z2 := fpD_dc.mpr z; rw [hdr] at z2; simp only [fpD, List.mem_cons, List.not_mem_nil, or_false] at z2; omega)); exact Or.inl z; rcases hsub q z with y | y; exact Or.inr (Or.inl y); exact Or.inr (Or.inr y)))
            have ec : 7 + cC U + 0 + 0 + 0 + (rmA 10 (cC G5.2.2.2.1 - cC U) (cN G5.2.2.2.1 - cN U)).cells = 7 + cC G5.2.2.2.1 := by show 7 + cC U + 0 + 0 + 0 + (cC G5.2.2.2.1 - cC U) = _; omega
            have es : 63 + cN U + 0 + 0 + 0 + (rmA 10 (cC G5.2.2.2.1 - cC U) (cN G5.2.2.2.1 - cN U)).slots = 63 + cN G5.2.2.2.1 := by show 63 + cN U + 0 + 0 + 0 + (cN G5.2.2.2.1 - cN U) = _; omega
            have IH := ih _ (i + 1) (i + 1) (num + 1) H168 G5 sa6 us6 sp6 hlo (by omega) ⟨by omega, by omega, by omega⟩ hg6 (fun q hq => by rcases sub6 q hq with y | y; exact hsub q y; exact Or.inr (by have := hch.1; omega)) hch6 hfx5 hul5 (by rw [show txt.length + 1 - (i + 1) = n9 by omega]; exact hj) _ (lv_sub hl [0, 1, 2, 3] rfl)
            rw [← ec, ← es] at IH
            exact IH
  refine lv_astore_n (lv' := [(3, .ref H.size), (2, .ref bm), (0, .ref a), (1, .int 1)]) cx.x cx.b d_B_read_39 rfl hl (by decide) rfl (fun ls hl => ?_)
  refine lv_iconst (v := 0) cx.x cx.b d_B_read_40 (by decide) ?_
  refine lv_istore (lv' := [(4, .int 0), (3, .ref H.size), (2, .ref bm), (0, .ref a), (1, .int 1)]) cx.x cx.b d_B_read_41 hl (by decide) rfl (fun ls hl => ?_)
  refine lv_iconst (v := 0) cx.x cx.b d_B_read_43 (by decide) ?_
  refine lv_istore (lv' := [(5, .int 0), (4, .int 0), (3, .ref H.size), (2, .ref bm), (0, .ref a), (1, .int 1)]) cx.x cx.b d_B_read_44 hl (by decide) rfl (fun ls hl => ?_)
  exact LP (txt.length + 2) _ 0 0 0 H150 (2, false, false, [], []) sb [] (vs ++ sq) hlo (by omega) ⟨Nat.zero_le _, Nat.le_refl _, Nat.le_refl _⟩ ⟨none, 0, 0, [], [], false, false, 0, 0, 0, 0, i1, i2, t4, i3, e4, g4, ⟨List.Perm.refl _, List.Pairwise.nil⟩, rfl, hN4⟩ (fun q hq => Or.inl hq) kk4 ⟨Or.inr rfl, Nat.zero_le _⟩ ⟨Nat.zero_le _, fun u hu => absurd hu List.not_mem_nil⟩ hGA _ (lv_sub hl [0, 1, 4, 2] rfl)
