set_option maxHeartbeats 4000000 in
set_option maxRecDepth 100000 in
theorem c_E_hold (l : Launch) (dC : Nat → ClassId) (dI : Nat → Nat → Nat) (h_T : Nat) (sz : Nat) (T_sg : Int32) (T_hi : Int64) (T_lo : Int64) (T_pl : Int32) (T_mo : Int32) (a1 : Int64) (a2 : Int32) (o : Int32 × Int64 × Int64 × Int32 × Int32) (hF : f_E_hold T_sg T_hi T_lo T_pl T_mo a1 a2 = some o) : Met l y_E_hold w_E_hold ({ frames := 1, cells := 0, slots := 0, locals := 23 } : Room) (va_Pc [.ref h_T, .long a1, .int a2] (fun U => U.heap.size = sz ∧ va_P (dC, dI) classes [cE h_T T_sg T_hi T_lo T_pl T_mo] U.heap ∧ va_K (dC, dI) classes [] U ∧ va_D (fun _ => True) [cE h_T T_sg T_hi T_lo T_pl T_mo])) (va_Qv (fun _ : Unit => True) (fun (_ : Unit) (t : State) => va_P (dC, dI) classes [cE h_T o.1 o.2.1 o.2.2.1 o.2.2.2.1 o.2.2.2.2] t.heap ∧ va_K (dC, dI) classes [] t ∧ va_D (va_A [cE h_T T_sg T_hi T_lo T_pl T_mo] sz) [cE h_T o.1 o.2.1 o.2.2.1 o.2.2.2.1 o.2.2.2.2]) (va_A [cE h_T T_sg T_hi T_lo T_pl T_mo] sz)) 0 0 (va_A [cE h_T T_sg T_hi T_lo T_pl T_mo] sz) := by
  refine Met.ofW (cc := prog_2_method_2_code) (maxL := 4) (ret := none) (by decide) rfl ?_
  intro p e s m args below meth c s₁ B hml hv
  obtain ⟨rfl, hsz, hP, hK, hD0⟩ := hv
  have hx := B.exec
  have hb := B.bytes
  have hr := B.returns
  have hts0 := atoms_spec (ws := w_E_hold) B.pre
  have hts : ∀ w ∈ tb, w.before _ s = true := fun w h => hts0 w (List.mem_cons_of_mem _ h)
  clear hts0
  have hown : s.vm.findClass "RoundedNumbers$Exact" = some m.cls := findClass_of_methodNamed B.named
  have hlocks := B.notSynchronized
  subst hsz
  have hD := hD0.self (sz := s.heap.size)
  generalize hAe : va_A [cE h_T T_sg T_hi T_lo T_pl T_mo] s.heap.size = A at hD ⊢
  have hA : ∀ q : Nat, s.heap.size ≤ q → A q := fun q h => by rw [← hAe]; exact Or.inr h
  clear hAe
  have hS : va_S A s.heap s.heap [] := va_S.rf
  have hP : va_P (dC, dI) classes [cE h_T T_sg T_hi T_lo T_pl T_mo] s.heap := hP
  have hl := lv_entry ([.ref h_T, .long a1, .int a2]) (n := 4) (Nat.le_of_ble_eq_true rfl)
  rw [lg_entry_eq]
  generalize (lg_sl ([.ref h_T, .long a1, .int a2]) ++ List.replicate (4 - (lg_sl ([.ref h_T, .long a1, .int a2])).length) Slot.unset).toArray = ls at hl ⊢
  have hl : lv_has ls 4 [(0, .ref h_T), (1, .long a1), (3, .int a2)] := hl
  unfold f_E_hold at hF
  refine lv_aload_n hx hb d_E_hold_0 rfl (lv_at hl 0 rfl) ?_
  refine lv_lload_n hx hb d_E_hold_1 rfl (lv_at hl 1 rfl) ?_
  obtain ⟨q_2, hC_2, hF⟩ := hbd hF
  have hPc := hP.sub (ws' := []) [] rfl
  have hDc := hD.sub (ws' := []) [] (by decide) rfl
  have hKc := hK.sub (tys' := []) [] rfl
  have hFc := va_free (wc := []) hD hS hA [] rfl
  refine va_calli (va_runS (As := [.long a1]) (rest := [.ref h_T]) ⟨hx, hb, hml, hown, hts⟩ (c_J_signum l dC dI s.heap.size a1 q_2 hC_2) (va_cwS 1 hts g_E_9_JL_signum rfl rfl rfl (by decide +kernel) ⟨Nat.le_of_ble_eq_true rfl, Nat.le_of_ble_eq_true rfl⟩) ⟨fun a U g mk q => by obtain ⟨q0, q1, qP, qK, qD⟩ := q; exact ⟨q0, q1, qP, va_K.moved (u := U) (U := U.calling g mk a) (Vm.Alike.refl U.vm) qK, qD⟩, fun U hU hW => ⟨rfl, by rw [hU], by rw [hU]; exact hPc, va_K.moved hW.alike hKc, hDc.weaken (fun _ _ _ _ => trivial)⟩⟩ rfl rfl hl.1 rfl (lv_room (Nat.le_of_ble_eq_true rfl)) d_E_hold_2 ⟨Nat.zero_le _, Nat.zero_le _⟩) hS (fun q _ h => hFc q h) hFc (fun r u t H1 locs ht hvm hw hB hz1 hk1 hS => ?_)
  obtain ⟨hP1, hK1, hD1⟩ := hB
  replace hw := hw.symm
  subst hw
  rw [ht] at hP1
  obtain ⟨hP, hD⟩ := va_join (wr := [cE h_T T_sg T_hi T_lo T_pl T_mo]) (w1 := []) hP hD [] [0] rfl rfl (by decide) (by decide) hk1 hFc hP1 hD1
  generalize H1 = H at hP hS ⊢
  have hP := hP.sub (ws' := [cE h_T T_sg T_hi T_lo T_pl T_mo]) [0] rfl
  have hD := hD.sub (ws' := [cE h_T T_sg T_hi T_lo T_pl T_mo]) [0] (by decide) rfl
  refine va_put (D := (dC, dI)) (ci := 0) (v := .int q_2) (ty := .int) (C := "RoundedNumbers$Exact") (T := F_E) (N := 5) hx hb hts in_E t_E t_E_ok n_E hown hK hP hD hS 0 rfl rfl 0 (by decide) (hts _ tw_21) (fun _ h9 => h9) rfl (by decide +kernel) rfl rfl (Nat.le_of_ble_eq_true rfl) d_E_hold_5 (fun H locs hP hD hS => ?_)
  have hP : va_P (dC, dI) classes [cE h_T q_2 T_hi T_lo T_pl T_mo] H := hP
  have hD : va_D A [cE h_T q_2 T_hi T_lo T_pl T_mo] := hD
  refine lv_aload_n hx hb d_E_hold_8 rfl (lv_at hl 0 rfl) ?_
  refine lv_lconst (v := (0 : Int64)) hx hb d_E_hold_9 (by decide) ?_
  refine va_put (D := (dC, dI)) (ci := 0) (v := .long (0 : Int64)) (ty := .long) (C := "RoundedNumbers$Exact") (T := F_E) (N := 5) hx hb hts in_E t_E t_E_ok n_E hown hK hP hD hS 0 rfl rfl 1 (by decide) (hts _ tw_23) (fun _ h9 => h9) rfl (by decide +kernel) rfl rfl (Nat.le_of_ble_eq_true rfl) d_E_hold_10 (fun H locs hP hD hS => ?_)
  have hP : va_P (dC, dI) classes [cE h_T q_2 (0 : Int64) T_lo T_pl T_mo] H := hP
  have hD : va_D A [cE h_T q_2 (0 : Int64) T_lo T_pl T_mo] := hD
  refine lv_aload_n hx hb d_E_hold_13 rfl (lv_at hl 0 rfl) ?_
  refine lv_lload_n hx hb d_E_hold_14 rfl (lv_at hl 1 rfl) ?_
  refine va_mabs_long hx hb (hml.trans hl.1.symm) hown (hts _ tw_121) (hts _ tw_81) (hts _ tw_4) (hts _ tw_82) (Nat.le_of_ble_eq_true rfl) (Nat.le_of_ble_eq_true rfl) (Nat.zero_le _) (Nat.zero_le _) d_E_hold_15 ?_
  refine W.eq (g2 := F0 m 18 ls [.long (jabs a1), .ref h_T]) rfl ?_
  refine va_put (D := (dC, dI)) (ci := 0) (v := .long (jabs a1)) (ty := .long) (C := "RoundedNumbers$Exact") (T := F_E) (N := 5) hx hb hts in_E t_E t_E_ok n_E hown hK hP hD hS 0 rfl rfl 2 (by decide) (hts _ tw_25) (fun _ h9 => h9) rfl (by decide +kernel) rfl rfl (Nat.le_of_ble_eq_true rfl) d_E_hold_18 (fun H locs hP hD hS => ?_)
  have hP : va_P (dC, dI) classes [cE h_T q_2 (0 : Int64) (jabs a1) T_pl T_mo] H := hP
  have hD : va_D A [cE h_T q_2 (0 : Int64) (jabs a1) T_pl T_mo] := hD
  refine lv_aload_n hx hb d_E_hold_21 rfl (lv_at hl 0 rfl) ?_
  refine lv_iload_n hx hb d_E_hold_22 rfl (lv_at hl 2 rfl) ?_
  refine va_put (D := (dC, dI)) (ci := 0) (v := .int a2) (ty := .int) (C := "RoundedNumbers$Exact") (T := F_E) (N := 5) hx hb hts in_E t_E t_E_ok n_E hown hK hP hD hS 0 rfl rfl 3 (by decide) (hts _ tw_27) (fun _ h9 => h9) rfl (by decide +kernel) rfl rfl (Nat.le_of_ble_eq_true rfl) d_E_hold_23 (fun H locs hP hD hS => ?_)
  have hP : va_P (dC, dI) classes [cE h_T q_2 (0 : Int64) (jabs a1) a2 T_mo] H := hP
  have hD : va_D A [cE h_T q_2 (0 : Int64) (jabs a1) a2 T_mo] := hD
  refine lv_aload_n hx hb d_E_hold_26 rfl (lv_at hl 0 rfl) ?_
  refine lv_iconst (v := (0 : Int32)) hx hb d_E_hold_27 (by decide) ?_
  refine va_put (D := (dC, dI)) (ci := 0) (v := .int (0 : Int32)) (ty := .boolean) (C := "RoundedNumbers$Exact") (T := F_E) (N := 5) hx hb hts in_E t_E t_E_ok n_E hown hK hP hD hS 0 rfl rfl 4 (by decide) (hts _ tw_29) (fun _ h9 => h9) rfl (by decide +kernel) rfl rfl (Nat.le_of_ble_eq_true rfl) d_E_hold_28 (fun H locs hP hD hS => ?_)
  have hP : va_P (dC, dI) classes [cE h_T q_2 (0 : Int64) (jabs a1) a2 (0 : Int32)] H := hP
  have hD : va_D A [cE h_T q_2 (0 : Int64) (jabs a1) a2 (0 : Int32)] := hD
  obtain rfl := Option.some.inj hF
  exact W.vret hx hb hr (fun t ht hW => ⟨⟨(), rfl, trivial, by rw [ht]; exact hP, va_K.moved hW.alike hK, hD⟩, hS.F ht⟩) hS.2.2 d_E_hold_31
set_option maxHeartbeats 4000000 in
set_option maxRecDepth 100000 in
theorem c_E_holdProduct (l : Launch) (dC : Nat → ClassId) (dI : Nat → Nat → Nat) (h_T : Nat) (sz : Nat) (T_sg : Int32) (T_hi : Int64) (T_lo : Int64) (T_pl : Int32) (T_mo : Int32) (a1 : Int64) (a2 : Int64) (a3 : Int32) (o : Int32 × Int64 × Int64 × Int32 × Int32) (hF : f_E_holdProduct T_sg T_hi T_lo T_pl T_mo a1 a2 a3 = some o) : Met l y_E_holdProduct w_E_holdProduct ({ frames := 1, cells := 0, slots := 0, locals := 23 } : Room) (va_Pc [.ref h_T, .long a1, .long a2, .int a3] (fun U => U.heap.size = sz ∧ va_P (dC, dI) classes [cE h_T T_sg T_hi T_lo T_pl T_mo] U.heap ∧ va_K (dC, dI) classes [] U ∧ va_D (fun _ => True) [cE h_T T_sg T_hi T_lo T_pl T_mo])) (va_Qv (fun _ : Unit => True) (fun (_ : Unit) (t : State) => va_P (dC, dI) classes [cE h_T o.1 o.2.1 o.2.2.1 o.2.2.2.1 o.2.2.2.2] t.heap ∧ va_K (dC, dI) classes [] t ∧ va_D (va_A [cE h_T T_sg T_hi T_lo T_pl T_mo] sz) [cE h_T o.1 o.2.1 o.2.2.1 o.2.2.2.1 o.2.2.2.2]) (va_A [cE h_T T_sg T_hi T_lo T_pl T_mo] sz)) 0 0 (va_A [cE h_T T_sg T_hi T_lo T_pl T_mo] sz) := by
  refine Met.ofW (cc := prog_2_method_3_code) (maxL := 20) (ret := none) (by decide) rfl ?_
  intro p e s m args below meth c s₁ B hml hv
  obtain ⟨rfl, hsz, hP, hK, hD0⟩ := hv
  have hx := B.exec
  have hb := B.bytes
  have hr := B.returns
  have hts0 := atoms_spec (ws := w_E_holdProduct) B.pre
  have hts : ∀ w ∈ tb, w.before _ s = true := fun w h => hts0 w (List.mem_cons_of_mem _ h)
  clear hts0
  have hown : s.vm.findClass "RoundedNumbers$Exact" = some m.cls := findClass_of_methodNamed B.named
  have hlocks := B.notSynchronized
  subst hsz
  have hD := hD0.self (sz := s.heap.size)
  generalize hAe : va_A [cE h_T T_sg T_hi T_lo T_pl T_mo] s.heap.size = A at hD ⊢
  have hA : ∀ q : Nat, s.heap.size ≤ q → A q := fun q h => by rw [← hAe]; exact Or.inr h
  clear hAe
  have hS : va_S A s.heap s.heap [] := va_S.rf
  have hP : va_P (dC, dI) classes [cE h_T T_sg T_hi T_lo T_pl T_mo] s.heap := hP
  have hl := lv_entry ([.ref h_T, .long a1, .long a2, .int a3]) (n := 20) (Nat.le_of_ble_eq_true rfl)
  rw [lg_entry_eq]
  generalize (lg_sl ([.ref h_T, .long a1, .long a2, .int a3]) ++ List.replicate (20 - (lg_sl ([.ref h_T, .long a1, .long a2, .int a3])).length) Slot.unset).toArray = ls at hl ⊢
  have hl : lv_has ls 20 [(0, .ref h_T), (1, .long a1), (3, .long a2), (5, .int a3)] := hl
  unfold f_E_holdProduct at hF
  refine lv_lload_n hx hb d_E_holdProduct_0 rfl (lv_at hl 1 rfl) ?_
  refine va_mabs_long hx hb (hml.trans hl.1.symm) hown (hts _ tw_121) (hts _ tw_81) (hts _ tw_4) (hts _ tw_82) (Nat.le_of_ble_eq_true rfl) (Nat.le_of_ble_eq_true rfl) (Nat.zero_le _) (Nat.zero_le _) d_E_holdProduct_1 ?_
  refine W.eq (g2 := F0 m 4 ls [.long (jabs a1)]) rfl ?_
  refine lv_lstore (lv' := [(6, .long (jabs a1)), (0, .ref h_T), (1, .long a1), (3, .long a2), (5, .int a3)]) hx hb d_E_holdProduct_4 hl (by decide) rfl (fun ls hl => ?_)
  refine lv_lload_n hx hb d_E_holdProduct_6 rfl (lv_at hl 3 rfl) ?_
  refine va_mabs_long hx hb (hml.trans hl.1.symm) hown (hts _ tw_121) (hts _ tw_81) (hts _ tw_4) (hts _ tw_82) (Nat.le_of_ble_eq_true rfl) (Nat.le_of_ble_eq_true rfl) (Nat.zero_le _) (Nat.zero_le _) d_E_holdProduct_7 ?_
  refine W.eq (g2 := F0 m 10 ls [.long (jabs a2)]) rfl ?_
  refine lv_lstore (lv' := [(8, .long (jabs a2)), (6, .long (jabs a1)), (0, .ref h_T), (1, .long a1), (3, .long a2), (5, .int a3)]) hx hb d_E_holdProduct_10 hl (by decide) rfl (fun ls hl => ?_)
  refine lv_lload hx hb d_E_holdProduct_12 (lv_at hl 1 rfl) ?_
  refine lv_bipush (v := (32 : Int32)) hx hb d_E_holdProduct_14 (by decide) ?_
  refine lv_lushr (v := (jushr (jabs a1) (32 : Int32))) hx hb d_E_holdProduct_16 rfl ?_
  refine lv_lstore (lv' := [(10, .long (jushr (jabs a1) (32 : Int32))), (8, .long (jabs a2)), (6, .long (jabs a1)), (0, .ref h_T), (1, .long a1), (3, .long a2), (5, .int a3)]) hx hb d_E_holdProduct_17 hl (by decide) rfl (fun ls hl => ?_)
  refine lv_lload hx hb d_E_holdProduct_19 (lv_at hl 2 rfl) ?_
  refine lv_ldc2 (v := (4294967295 : Int64)) hx hb hown (hts _ tw_182) d_E_holdProduct_21 ?_
  refine lv_land hx hb d_E_holdProduct_24 ?_
  refine lv_lstore (lv' := [(12, .long ((jabs a1) &&& (4294967295 : Int64))), (10, .long (jushr (jabs a1) (32 : Int32))), (8, .long (jabs a2)), (6, .long (jabs a1)), (0, .ref h_T), (1, .long a1), (3, .long a2), (5, .int a3)]) hx hb d_E_holdProduct_25 hl (by decide) rfl (fun ls hl => ?_)
  refine lv_lload hx hb d_E_holdProduct_27 (lv_at hl 2 rfl) ?_
  refine lv_bipush (v := (32 : Int32)) hx hb d_E_holdProduct_29 (by decide) ?_
  refine lv_lushr (v := (jushr (jabs a2) (32 : Int32))) hx hb d_E_holdProduct_31 rfl ?_
  refine lv_lstore (lv' := [(14, .long (jushr (jabs a2) (32 : Int32))), (12, .long ((jabs a1) &&& (4294967295 : Int64))), (10, .long (jushr (jabs a1) (32 : Int32))), (8, .long (jabs a2)), (6, .long (jabs a1)), (0, .ref h_T), (1, .long a1), (3, .long a2), (5, .int a3)]) hx hb d_E_holdProduct_32 hl (by decide) rfl (fun ls hl => ?_)
  refine lv_lload hx hb d_E_holdProduct_34 (lv_at hl 3 rfl) ?_
  refine lv_ldc2 (v := (4294967295 : Int64)) hx hb hown (hts _ tw_182) d_E_holdProduct_36 ?_
  refine lv_land hx hb d_E_holdProduct_39 ?_
  refine lv_lstore (lv' := [(16, .long ((jabs a2) &&& (4294967295 : Int64))), (14, .long (jushr (jabs a2) (32 : Int32))), (12, .long ((jabs a1) &&& (4294967295 : Int64))), (10, .long (jushr (jabs a1) (32 : Int32))), (8, .long (jabs a2)), (6, .long (jabs a1)), (0, .ref h_T), (1, .long a1), (3, .long a2), (5, .int a3)]) hx hb d_E_holdProduct_40 hl (by decide) rfl (fun ls hl => ?_)
  refine lv_lload hx hb d_E_holdProduct_42 (lv_at hl 3 rfl) ?_
  refine lv_lload hx hb d_E_holdProduct_44 (lv_at hl 0 rfl) ?_
  refine lv_lmul hx hb d_E_holdProduct_46 ?_
  refine lv_lload hx hb d_E_holdProduct_47 (lv_at hl 2 rfl) ?_
  refine lv_lload hx hb d_E_holdProduct_49 (lv_at hl 1 rfl) ?_
  refine lv_lmul hx hb d_E_holdProduct_51 ?_
  refine lv_ladd hx hb d_E_holdProduct_52 ?_
  refine lv_lload hx hb d_E_holdProduct_53 (lv_at hl 2 rfl) ?_
  refine lv_lload hx hb d_E_holdProduct_55 (lv_at hl 0 rfl) ?_
  refine lv_lmul hx hb d_E_holdProduct_57 ?_
  refine lv_bipush (v := (32 : Int32)) hx hb d_E_holdProduct_58 (by decide) ?_
  refine lv_lushr (v := (jushr (((jabs a1) &&& (4294967295 : Int64)) * ((jabs a2) &&& (4294967295 : Int64))) (32 : Int32))) hx hb d_E_holdProduct_60 rfl ?_
  refine lv_ladd hx hb d_E_holdProduct_61 ?_
  refine lv_lstore (lv' := [(18, .long ((((jushr (jabs a1) (32 : Int32)) * ((jabs a2) &&& (4294967295 : Int64))) + (((jabs a1) &&& (4294967295 : Int64)) * (jushr (jabs a2) (32 : Int32)))) + (jushr (((jabs a1) &&& (4294967295 : Int64)) * ((jabs a2) &&& (4294967295 : Int64))) (32 : Int32)))), (16, .long ((jabs a2) &&& (4294967295 : Int64))), (14, .long (jushr (jabs a2) (32 : Int32))), (12, .long ((jabs a1) &&& (4294967295 : Int64))), (10, .long (jushr (jabs a1) (32 : Int32))), (8, .long (jabs a2)), (6, .long (jabs a1)), (0, .ref h_T), (1, .long a1), (3, .long a2), (5, .int a3)]) hx hb d_E_holdProduct_62 hl (by decide) rfl (fun ls hl => ?_)
  refine lv_aload_n hx hb d_E_holdProduct_64 rfl (lv_at hl 7 rfl) ?_
  refine lv_lload_n hx hb d_E_holdProduct_65 rfl (lv_at hl 8 rfl) ?_
  obtain ⟨q_66, hC_66, hF⟩ := hbd hF
  have hPc := hP.sub (ws' := []) [] rfl
  have hDc := hD.sub (ws' := []) [] (by decide) rfl
  have hKc := hK.sub (tys' := []) [] rfl
  have hFc := va_free (wc := []) hD hS hA [] rfl
  refine va_calli (va_runS (As := [.long a1]) (rest := [.ref h_T]) ⟨hx, hb, hml, hown, hts⟩ (c_J_signum l dC dI s.heap.size a1 q_66 hC_66) (va_cwS 1 hts g_E_9_JL_signum rfl rfl rfl (by decide +kernel) ⟨Nat.le_of_ble_eq_true rfl, Nat.le_of_ble_eq_true rfl⟩) ⟨fun a U g mk q => by obtain ⟨q0, q1, qP, qK, qD⟩ := q; exact ⟨q0, q1, qP, va_K.moved (u := U) (U := U.calling g mk a) (Vm.Alike.refl U.vm) qK, qD⟩, fun U hU hW => ⟨rfl, by rw [hU], by rw [hU]; exact hPc, va_K.moved hW.alike hKc, hDc.weaken (fun _ _ _ _ => trivial)⟩⟩ rfl rfl hl.1 rfl (lv_room (Nat.le_of_ble_eq_true rfl)) d_E_holdProduct_66 ⟨Nat.zero_le _, Nat.zero_le _⟩) hS (fun q _ h => hFc q h) hFc (fun r u t H1 locs ht hvm hw hB hz1 hk1 hS => ?_)
  obtain ⟨hP1, hK1, hD1⟩ := hB
  replace hw := hw.symm
  subst hw
  rw [ht] at hP1
  obtain ⟨hP, hD⟩ := va_join (wr := [cE h_T T_sg T_hi T_lo T_pl T_mo]) (w1 := []) hP hD [] [0] rfl rfl (by decide) (by decide) hk1 hFc hP1 hD1
  generalize H1 = H at hP hS ⊢
  have hP := hP.sub (ws' := [cE h_T T_sg T_hi T_lo T_pl T_mo]) [0] rfl
  have hD := hD.sub (ws' := [cE h_T T_sg T_hi T_lo T_pl T_mo]) [0] (by decide) rfl
  refine lv_lload_n hx hb d_E_holdProduct_69 rfl (lv_at hl 9 rfl) ?_
  obtain ⟨q_70, hC_70, hF⟩ := hbd hF
  have hPc := hP.sub (ws' := []) [] rfl
  have hDc := hD.sub (ws' := []) [] (by decide) rfl
  have hKc := hK.sub (tys' := []) [] rfl
  have hFc := va_free (wc := []) hD hS hA [] rfl
  refine va_calli (va_runS (As := [.long a2]) (rest := [.int q_66, .ref h_T]) ⟨hx, hb, hml, hown, hts⟩ (c_J_signum l dC dI H.size a2 q_70 hC_70) (va_cwS 1 hts g_E_9_JL_signum rfl rfl rfl (by decide +kernel) ⟨Nat.le_of_ble_eq_true rfl, Nat.le_of_ble_eq_true rfl⟩) ⟨fun a U g mk q => by obtain ⟨q0, q1, qP, qK, qD⟩ := q; exact ⟨q0, q1, qP, va_K.moved (u := U) (U := U.calling g mk a) (Vm.Alike.refl U.vm) qK, qD⟩, fun U hU hW => ⟨rfl, by rw [hU], by rw [hU]; exact hPc, va_K.moved hW.alike hKc, hDc.weaken (fun _ _ _ _ => trivial)⟩⟩ rfl rfl hl.1 rfl (lv_room (Nat.le_of_ble_eq_true rfl)) d_E_holdProduct_70 ⟨Nat.zero_le _, Nat.zero_le _⟩) hS (fun q _ h => hFc q h) hFc (fun r u t H1 locs ht hvm hw hB hz1 hk1 hS => ?_)
  obtain ⟨hP1, hK1, hD1⟩ := hB
  replace hw := hw.symm
  subst hw
  rw [ht] at hP1
  obtain ⟨hP, hD⟩ := va_join (wr := [cE h_T T_sg T_hi T_lo T_pl T_mo]) (w1 := []) hP hD [] [0] rfl rfl (by decide) (by decide) hk1 hFc hP1 hD1
  generalize H1 = H at hP hS ⊢
  have hP := hP.sub (ws' := [cE h_T T_sg T_hi T_lo T_pl T_mo]) [0] rfl
  have hD := hD.sub (ws' := [cE h_T T_sg T_hi T_lo T_pl T_mo]) [0] (by decide) rfl
  refine lv_imul hx hb d_E_holdProduct_73 ?_
  refine va_put (D := (dC, dI)) (ci := 0) (v := .int (q_66 * q_70)) (ty := .int) (C := "RoundedNumbers$Exact") (T := F_E) (N := 5) hx hb hts in_E t_E t_E_ok n_E hown hK hP hD hS 0 rfl rfl 0 (by decide) (hts _ tw_21) (fun _ h9 => h9) rfl (by decide +kernel) rfl rfl (Nat.le_of_ble_eq_true rfl) d_E_holdProduct_74 (fun H locs hP hD hS => ?_)
  have hP : va_P (dC, dI) classes [cE h_T (q_66 * q_70) T_hi T_lo T_pl T_mo] H := hP
  have hD : va_D A [cE h_T (q_66 * q_70) T_hi T_lo T_pl T_mo] := hD
  refine lv_aload_n hx hb d_E_holdProduct_77 rfl (lv_at hl 7 rfl) ?_
  refine lv_lload hx hb d_E_holdProduct_78 (lv_at hl 4 rfl) ?_
  refine lv_lload hx hb d_E_holdProduct_80 (lv_at hl 2 rfl) ?_
  refine lv_lmul hx hb d_E_holdProduct_82 ?_
  refine lv_lload hx hb d_E_holdProduct_83 (lv_at hl 0 rfl) ?_
  refine lv_bipush (v := (32 : Int32)) hx hb d_E_holdProduct_85 (by decide) ?_
  refine lv_lushr (v := (jushr ((((jushr (jabs a1) (32 : Int32)) * ((jabs a2) &&& (4294967295 : Int64))) + (((jabs a1) &&& (4294967295 : Int64)) * (jushr (jabs a2) (32 : Int32)))) + (jushr (((jabs a1) &&& (4294967295 : Int64)) * ((jabs a2) &&& (4294967295 : Int64))) (32 : Int32))) (32 : Int32))) hx hb d_E_holdProduct_87 rfl ?_
  refine lv_ladd hx hb d_E_holdProduct_88 ?_
  refine va_put (D := (dC, dI)) (ci := 0) (v := .long (((jushr (jabs a1) (32 : Int32)) * (jushr (jabs a2) (32 : Int32))) + (jushr ((((jushr (jabs a1) (32 : Int32)) * ((jabs a2) &&& (4294967295 : Int64))) + (((jabs a1) &&& (4294967295 : Int64)) * (jushr (jabs a2) (32 : Int32)))) + (jushr (((jabs a1) &&& (4294967295 : Int64)) * ((jabs a2) &&& (4294967295 : Int64))) (32 : Int32))) (32 : Int32)))) (ty := .long) (C := "RoundedNumbers$Exact") (T := F_E) (N := 5) hx hb hts in_E t_E t_E_ok n_E hown hK hP hD hS 0 rfl rfl 1 (by decide) (hts _ tw_23) (fun _ h9 => h9) rfl (by decide +kernel) rfl rfl (Nat.le_of_ble_eq_true rfl) d_E_holdProduct_89 (fun H locs hP hD hS => ?_)
  have hP : va_P (dC, dI) classes [cE h_T (q_66 * q_70) (((jushr (jabs a1) (32 : Int32)) * (jushr (jabs a2) (32 : Int32))) + (jushr ((((jushr (jabs a1) (32 : Int32)) * ((jabs a2) &&& (4294967295 : Int64))) + (((jabs a1) &&& (4294967295 : Int64)) * (jushr (jabs a2) (32 : Int32)))) + (jushr (((jabs a1) &&& (4294967295 : Int64)) * ((jabs a2) &&& (4294967295 : Int64))) (32 : Int32))) (32 : Int32))) T_lo T_pl T_mo] H := hP
  have hD : va_D A [cE h_T (q_66 * q_70) (((jushr (jabs a1) (32 : Int32)) * (jushr (jabs a2) (32 : Int32))) + (jushr ((((jushr (jabs a1) (32 : Int32)) * ((jabs a2) &&& (4294967295 : Int64))) + (((jabs a1) &&& (4294967295 : Int64)) * (jushr (jabs a2) (32 : Int32)))) + (jushr (((jabs a1) &&& (4294967295 : Int64)) * ((jabs a2) &&& (4294967295 : Int64))) (32 : Int32))) (32 : Int32))) T_lo T_pl T_mo] := hD
  refine lv_aload_n hx hb d_E_holdProduct_92 rfl (lv_at hl 7 rfl) ?_
  refine lv_lload hx hb d_E_holdProduct_93 (lv_at hl 6 rfl) ?_
  refine lv_lload hx hb d_E_holdProduct_95 (lv_at hl 5 rfl) ?_
  refine lv_lmul hx hb d_E_holdProduct_97 ?_
  refine va_put (D := (dC, dI)) (ci := 0) (v := .long ((jabs a1) * (jabs a2))) (ty := .long) (C := "RoundedNumbers$Exact") (T := F_E) (N := 5) hx hb hts in_E t_E t_E_ok n_E hown hK hP hD hS 0 rfl rfl 2 (by decide) (hts _ tw_25) (fun _ h9 => h9) rfl (by decide +kernel) rfl rfl (Nat.le_of_ble_eq_true rfl) d_E_holdProduct_98 (fun H locs hP hD hS => ?_)
  have hP : va_P (dC, dI) classes [cE h_T (q_66 * q_70) (((jushr (jabs a1) (32 : Int32)) * (jushr (jabs a2) (32 : Int32))) + (jushr ((((jushr (jabs a1) (32 : Int32)) * ((jabs a2) &&& (4294967295 : Int64))) + (((jabs a1) &&& (4294967295 : Int64)) * (jushr (jabs a2) (32 : Int32)))) + (jushr (((jabs a1) &&& (4294967295 : Int64)) * ((jabs a2) &&& (4294967295 : Int64))) (32 : Int32))) (32 : Int32))) ((jabs a1) * (jabs a2)) T_pl T_mo] H := hP
  have hD : va_D A [cE h_T (q_66 * q_70) (((jushr (jabs a1) (32 : Int32)) * (jushr (jabs a2) (32 : Int32))) + (jushr ((((jushr (jabs a1) (32 : Int32)) * ((jabs a2) &&& (4294967295 : Int64))) + (((jabs a1) &&& (4294967295 : Int64)) * (jushr (jabs a2) (32 : Int32)))) + (jushr (((jabs a1) &&& (4294967295 : Int64)) * ((jabs a2) &&& (4294967295 : Int64))) (32 : Int32))) (32 : Int32))) ((jabs a1) * (jabs a2)) T_pl T_mo] := hD
  refine lv_aload_n hx hb d_E_holdProduct_101 rfl (lv_at hl 7 rfl) ?_
  refine lv_iload hx hb d_E_holdProduct_102 (lv_at hl 10 rfl) ?_
  refine va_put (D := (dC, dI)) (ci := 0) (v := .int a3) (ty := .int) (C := "RoundedNumbers$Exact") (T := F_E) (N := 5) hx hb hts in_E t_E t_E_ok n_E hown hK hP hD hS 0 rfl rfl 3 (by decide) (hts _ tw_27) (fun _ h9 => h9) rfl (by decide +kernel) rfl rfl (Nat.le_of_ble_eq_true rfl) d_E_holdProduct_104 (fun H locs hP hD hS => ?_)
  have hP : va_P (dC, dI) classes [cE h_T (q_66 * q_70) (((jushr (jabs a1) (32 : Int32)) * (jushr (jabs a2) (32 : Int32))) + (jushr ((((jushr (jabs a1) (32 : Int32)) * ((jabs a2) &&& (4294967295 : Int64))) + (((jabs a1) &&& (4294967295 : Int64)) * (jushr (jabs a2) (32 : Int32)))) + (jushr (((jabs a1) &&& (4294967295 : Int64)) * ((jabs a2) &&& (4294967295 : Int64))) (32 : Int32))) (32 : Int32))) ((jabs a1) * (jabs a2)) a3 T_mo] H := hP
  have hD : va_D A [cE h_T (q_66 * q_70) (((jushr (jabs a1) (32 : Int32)) * (jushr (jabs a2) (32 : Int32))) + (jushr ((((jushr (jabs a1) (32 : Int32)) * ((jabs a2) &&& (4294967295 : Int64))) + (((jabs a1) &&& (4294967295 : Int64)) * (jushr (jabs a2) (32 : Int32)))) + (jushr (((jabs a1) &&& (4294967295 : Int64)) * ((jabs a2) &&& (4294967295 : Int64))) (32 : Int32))) (32 : Int32))) ((jabs a1) * (jabs a2)) a3 T_mo] := hD
  refine lv_aload_n hx hb d_E_holdProduct_107 rfl (lv_at hl 7 rfl) ?_
  refine lv_iconst (v := (0 : Int32)) hx hb d_E_holdProduct_108 (by decide) ?_
  refine va_put (D := (dC, dI)) (ci := 0) (v := .int (0 : Int32)) (ty := .boolean) (C := "RoundedNumbers$Exact") (T := F_E) (N := 5) hx hb hts in_E t_E t_E_ok n_E hown hK hP hD hS 0 rfl rfl 4 (by decide) (hts _ tw_29) (fun _ h9 => h9) rfl (by decide +kernel) rfl rfl (Nat.le_of_ble_eq_true rfl) d_E_holdProduct_109 (fun H locs hP hD hS => ?_)
  have hP : va_P (dC, dI) classes [cE h_T (q_66 * q_70) (((jushr (jabs a1) (32 : Int32)) * (jushr (jabs a2) (32 : Int32))) + (jushr ((((jushr (jabs a1) (32 : Int32)) * ((jabs a2) &&& (4294967295 : Int64))) + (((jabs a1) &&& (4294967295 : Int64)) * (jushr (jabs a2) (32 : Int32)))) + (jushr (((jabs a1) &&& (4294967295 : Int64)) * ((jabs a2) &&& (4294967295 : Int64))) (32 : Int32))) (32 : Int32))) ((jabs a1) * (jabs a2)) a3 (0 : Int32)] H := hP
  have hD : va_D A [cE h_T (q_66 * q_70) (((jushr (jabs a1) (32 : Int32)) * (jushr (jabs a2) (32 : Int32))) + (jushr ((((jushr (jabs a1) (32 : Int32)) * ((jabs a2) &&& (4294967295 : Int64))) + (((jabs a1) &&& (4294967295 : Int64)) * (jushr (jabs a2) (32 : Int32)))) + (jushr (((jabs a1) &&& (4294967295 : Int64)) * ((jabs a2) &&& (4294967295 : Int64))) (32 : Int32))) (32 : Int32))) ((jabs a1) * (jabs a2)) a3 (0 : Int32)] := hD
  obtain rfl := Option.some.inj hF
  exact W.vret hx hb hr (fun t ht hW => ⟨⟨(), rfl, trivial, by rw [ht]; exact hP, va_K.moved hW.alike hK, hD⟩, hS.F ht⟩) hS.2.2 d_E_holdProduct_112
set_option maxHeartbeats 4000000 in
set_option maxRecDepth 100000 in
theorem c_E_holdQuotient (l : Launch) (dC : Nat → ClassId) (dI : Nat → Nat → Nat) (h_T : Nat) (sz : Nat) (T_sg : Int32) (T_hi : Int64) (T_lo : Int64) (T_pl : Int32) (T_mo : Int32) (a1 : Int64) (a2 : Int64) (a3 : Int32) (o : Int32 × Int64 × Int64 × Int32 × Int32) (hF : f_E_holdQuotient T_sg T_hi T_lo T_pl T_mo a1 a2 a3 = some o) : Met l y_E_holdQuotient w_E_holdQuotient ({ frames := 1, cells := 0, slots := 0, locals := 23 } : Room) (va_Pc [.ref h_T, .long a1, .long a2, .int a3] (fun U => U.heap.size = sz ∧ va_P (dC, dI) classes [cE h_T T_sg T_hi T_lo T_pl T_mo] U.heap ∧ va_K (dC, dI) classes [] U ∧ va_D (fun _ => True) [cE h_T T_sg T_hi T_lo T_pl T_mo])) (va_Qv (fun _ : Unit => True) (fun (_ : Unit) (t : State) => va_P (dC, dI) classes [cE h_T o.1 o.2.1 o.2.2.1 o.2.2.2.1 o.2.2.2.2] t.heap ∧ va_K (dC, dI) classes [] t ∧ va_D (va_A [cE h_T T_sg T_hi T_lo T_pl T_mo] sz) [cE h_T o.1 o.2.1 o.2.2.1 o.2.2.2.1 o.2.2.2.2]) (va_A [cE h_T T_sg T_hi T_lo T_pl T_mo] sz)) 0 0 (va_A [cE h_T T_sg T_hi T_lo T_pl T_mo] sz) := by
  refine Met.ofW (cc := prog_2_method_4_code) (maxL := 13) (ret := none) (by decide) rfl ?_
  intro p e s m args below meth c s₁ B hml hv
  obtain ⟨rfl, hsz, hP, hK, hD0⟩ := hv
  have hx := B.exec
  have hb := B.bytes
  have hr := B.returns
  have hts0 := atoms_spec (ws := w_E_holdQuotient) B.pre
  have hts : ∀ w ∈ tb, w.before _ s = true := fun w h => hts0 w (List.mem_cons_of_mem _ h)
  clear hts0
  have hown : s.vm.findClass "RoundedNumbers$Exact" = some m.cls := findClass_of_methodNamed B.named
  have hlocks := B.notSynchronized
  subst hsz
  have hD := hD0.self (sz := s.heap.size)
  generalize hAe : va_A [cE h_T T_sg T_hi T_lo T_pl T_mo] s.heap.size = A at hD ⊢
  have hA : ∀ q : Nat, s.heap.size ≤ q → A q := fun q h => by rw [← hAe]; exact Or.inr h
  clear hAe
  have hS : va_S A s.heap s.heap [] := va_S.rf
  have hP : va_P (dC, dI) classes [cE h_T T_sg T_hi T_lo T_pl T_mo] s.heap := hP
  have hl := lv_entry ([.ref h_T, .long a1, .long a2, .int a3]) (n := 13) (Nat.le_of_ble_eq_true rfl)
  rw [lg_entry_eq]
  generalize (lg_sl ([.ref h_T, .long a1, .long a2, .int a3]) ++ List.replicate (13 - (lg_sl ([.ref h_T, .long a1, .long a2, .int a3])).length) Slot.unset).toArray = ls at hl ⊢
  have hl : lv_has ls 13 [(0, .ref h_T), (1, .long a1), (3, .long a2), (5, .int a3)] := hl
  have b_35 : ∀ n_ : Nat, ∀ (x1 : Int64) (x3 : Int64) (x5 : Int32) (x6 : Int64) (x8 : Int64) (x10 : Int64) (x12 : Int32) (T_sg : Int32) (T_hi : Int64) (T_lo : Int64) (T_pl : Int32) (T_mo : Int32) (H : Heap) (locs : List Loc) (ls : Array Slot), va_P (dC, dI) classes [cE h_T T_sg T_hi T_lo T_pl T_mo] H → va_D A [cE h_T T_sg T_hi T_lo T_pl T_mo] → va_S A s.heap H locs → lv_has ls 13 [(0, .ref h_T), (1, .long x1), (3, .long x3), (5, .int x5), (6, .long x6), (8, .long x8), (10, .long x10), (12, .int x12)] → f_E_holdQuotient_35 n_ x1 x3 x5 x6 x8 x10 x12 T_sg T_hi T_lo T_pl T_mo = some o → W p l e (headSpec w_E_holdQuotient ({ frames := 1, cells := 0, slots := 0, locals := 23 } : Room)).room s m ([.ref h_T, .long a1, .long a2, .int a3] : List Value).toArray below meth c H locs 0 0 (MQ below (va_Qv (fun _ : Unit => True) (fun (_ : Unit) (t : State) => va_P (dC, dI) classes [cE h_T o.1 o.2.1 o.2.2.1 o.2.2.2.1 o.2.2.2.2] t.heap ∧ va_K (dC, dI) classes [] t ∧ va_D A [cE h_T o.1 o.2.1 o.2.2.1 o.2.2.2.1 o.2.2.2.2]) A) ([.ref h_T, .long a1, .long a2, .int a3] : List Value).toArray s 0 0 A) (F0 m 35 ls []) := by
    intro n_
    induction n_ with
    | zero =>
      intro x1 x3 x5 x6 x8 x10 x12 T_sg T_hi T_lo T_pl T_mo H locs ls hP hD hS hl hF
      rw [f_E_holdQuotient_35] at hF
      exact absurd hF (by simp)
    | succ n_ ih =>
      obtain ⟨k_35, ek_35⟩ : ∃ k, k = f_E_holdQuotient_35 n_ := ⟨_, rfl⟩
      rw [← ek_35] at ih
      have hk_35 := ih
      intro x1 x3 x5 x6 x8 x10 x12 T_sg T_hi T_lo T_pl T_mo H locs ls hP hD hS hl hF
      rw [f_E_holdQuotient_35, ← ek_35] at hF
      refine lv_iload hx hb d_E_holdQuotient_35 (lv_at hl 7 rfl) ?_
      refine lv_bipush (v := (6 : Int32)) hx hb d_E_holdQuotient_37 (by decide) ?_
      refine lv_icmp_ge (tgt := 75) hx hb d_E_holdQuotient_39 (by decide) (fun c_39 => ?_) (fun c_39 => ?_)
      · replace hF := hif_t c_39 hF
        refine lv_aload_n hx hb d_E_holdQuotient_75 rfl (lv_at hl 0 rfl) ?_
        refine lv_lload_n hx hb d_E_holdQuotient_76 rfl (lv_at hl 1 rfl) ?_
        obtain ⟨q_77, hC_77, hF⟩ := hbd hF
        have hPc := hP.sub (ws' := []) [] rfl
        have hDc := hD.sub (ws' := []) [] (by decide) rfl
        have hKc := hK.sub (tys' := []) [] rfl
        have hFc := va_free (wc := []) hD hS hA [] rfl
        refine va_calli (va_runS (As := [.long x1]) (rest := [.ref h_T]) ⟨hx, hb, hml, hown, hts⟩ (c_J_signum l dC dI H.size x1 q_77 hC_77) (va_cwS 1 hts g_E_9_JL_signum rfl rfl rfl (by decide +kernel) ⟨Nat.le_of_ble_eq_true rfl, Nat.le_of_ble_eq_true rfl⟩) ⟨fun a U g mk q => by obtain ⟨q0, q1, qP, qK, qD⟩ := q; exact ⟨q0, q1, qP, va_K.moved (u := U) (U := U.calling g mk a) (Vm.Alike.refl U.vm) qK, qD⟩, fun U hU hW => ⟨rfl, by rw [hU], by rw [hU]; exact hPc, va_K.moved hW.alike hKc, hDc.weaken (fun _ _ _ _ => trivial)⟩⟩ rfl rfl hl.1 rfl (lv_room (Nat.le_of_ble_eq_true rfl)) d_E_holdQuotient_77 ⟨Nat.zero_le _, Nat.zero_le _⟩) hS (fun q _ h => hFc q h) hFc (fun r u t H1 locs ht hvm hw hB hz1 hk1 hS => ?_)
        obtain ⟨hP1, hK1, hD1⟩ := hB
        replace hw := hw.symm
        subst hw
        rw [ht] at hP1
        obtain ⟨hP, hD⟩ := va_join (wr := [cE h_T T_sg T_hi T_lo T_pl T_mo]) (w1 := []) hP hD [] [0] rfl rfl (by decide) (by decide) hk1 hFc hP1 hD1
        generalize H1 = H at hP hS ⊢
        have hP := hP.sub (ws' := [cE h_T T_sg T_hi T_lo T_pl T_mo]) [0] rfl
        have hD := hD.sub (ws' := [cE h_T T_sg T_hi T_lo T_pl T_mo]) [0] (by decide) rfl
        refine lv_lload_n hx hb d_E_holdQuotient_80 rfl (lv_at hl 2 rfl) ?_
        obtain ⟨q_81, hC_81, hF⟩ := hbd hF
        have hPc := hP.sub (ws' := []) [] rfl
        have hDc := hD.sub (ws' := []) [] (by decide) rfl
        have hKc := hK.sub (tys' := []) [] rfl
        have hFc := va_free (wc := []) hD hS hA [] rfl
        refine va_calli (va_runS (As := [.long x3]) (rest := [.int q_77, .ref h_T]) ⟨hx, hb, hml, hown, hts⟩ (c_J_signum l dC dI H.size x3 q_81 hC_81) (va_cwS 1 hts g_E_9_JL_signum rfl rfl rfl (by decide +kernel) ⟨Nat.le_of_ble_eq_true rfl, Nat.le_of_ble_eq_true rfl⟩) ⟨fun a U g mk q => by obtain ⟨q0, q1, qP, qK, qD⟩ := q; exact ⟨q0, q1, qP, va_K.moved (u := U) (U := U.calling g mk a) (Vm.Alike.refl U.vm) qK, qD⟩, fun U hU hW => ⟨rfl, by rw [hU], by rw [hU]; exact hPc, va_K.moved hW.alike hKc, hDc.weaken (fun _ _ _ _ => trivial)⟩⟩ rfl rfl hl.1 rfl (lv_room (Nat.le_of_ble_eq_true rfl)) d_E_holdQuotient_81 ⟨Nat.zero_le _, Nat.zero_le _⟩) hS (fun q _ h => hFc q h) hFc (fun r u t H1 locs ht hvm hw hB hz1 hk1 hS => ?_)
        obtain ⟨hP1, hK1, hD1⟩ := hB
        replace hw := hw.symm
        subst hw
        rw [ht] at hP1
        obtain ⟨hP, hD⟩ := va_join (wr := [cE h_T T_sg T_hi T_lo T_pl T_mo]) (w1 := []) hP hD [] [0] rfl rfl (by decide) (by decide) hk1 hFc hP1 hD1
        generalize H1 = H at hP hS ⊢
        have hP := hP.sub (ws' := [cE h_T T_sg T_hi T_lo T_pl T_mo]) [0] rfl
        have hD := hD.sub (ws' := [cE h_T T_sg T_hi T_lo T_pl T_mo]) [0] (by decide) rfl
        refine lv_imul hx hb d_E_holdQuotient_84 ?_
        refine va_put (D := (dC, dI)) (ci := 0) (v := .int (q_77 * q_81)) (ty := .int) (C := "RoundedNumbers$Exact") (T := F_E) (N := 5) hx hb hts in_E t_E t_E_ok n_E hown hK hP hD hS 0 rfl rfl 0 (by decide) (hts _ tw_21) (fun _ h9 => h9) rfl (by decide +kernel) rfl rfl (Nat.le_of_ble_eq_true rfl) d_E_holdQuotient_85 (fun H locs hP hD hS => ?_)
        have hP : va_P (dC, dI) classes [cE h_T (q_77 * q_81) T_hi T_lo T_pl T_mo] H := hP
        have hD : va_D A [cE h_T (q_77 * q_81) T_hi T_lo T_pl T_mo] := hD
        refine lv_aload_n hx hb d_E_holdQuotient_88 rfl (lv_at hl 0 rfl) ?_
        refine lv_lconst (v := (0 : Int64)) hx hb d_E_holdQuotient_89 (by decide) ?_
        refine va_put (D := (dC, dI)) (ci := 0) (v := .long (0 : Int64)) (ty := .long) (C := "RoundedNumbers$Exact") (T := F_E) (N := 5) hx hb hts in_E t_E t_E_ok n_E hown hK hP hD hS 0 rfl rfl 1 (by decide) (hts _ tw_23) (fun _ h9 => h9) rfl (by decide +kernel) rfl rfl (Nat.le_of_ble_eq_true rfl) d_E_holdQuotient_90 (fun H locs hP hD hS => ?_)
        have hP : va_P (dC, dI) classes [cE h_T (q_77 * q_81) (0 : Int64) T_lo T_pl T_mo] H := hP
        have hD : va_D A [cE h_T (q_77 * q_81) (0 : Int64) T_lo T_pl T_mo] := hD
        refine lv_aload_n hx hb d_E_holdQuotient_93 rfl (lv_at hl 0 rfl) ?_
        refine lv_lload hx hb d_E_holdQuotient_94 (lv_at hl 5 rfl) ?_
        refine va_put (D := (dC, dI)) (ci := 0) (v := .long x8) (ty := .long) (C := "RoundedNumbers$Exact") (T := F_E) (N := 5) hx hb hts in_E t_E t_E_ok n_E hown hK hP hD hS 0 rfl rfl 2 (by decide) (hts _ tw_25) (fun _ h9 => h9) rfl (by decide +kernel) rfl rfl (Nat.le_of_ble_eq_true rfl) d_E_holdQuotient_96 (fun H locs hP hD hS => ?_)
        have hP : va_P (dC, dI) classes [cE h_T (q_77 * q_81) (0 : Int64) x8 T_pl T_mo] H := hP
        have hD : va_D A [cE h_T (q_77 * q_81) (0 : Int64) x8 T_pl T_mo] := hD
        refine lv_aload_n hx hb d_E_holdQuotient_99 rfl (lv_at hl 0 rfl) ?_
        refine lv_iload hx hb d_E_holdQuotient_100 (lv_at hl 3 rfl) ?_
        refine lv_bipush (v := (60 : Int32)) hx hb d_E_holdQuotient_102 (by decide) ?_
        refine lv_isub hx hb d_E_holdQuotient_104 ?_
        refine va_put (D := (dC, dI)) (ci := 0) (v := .int (x5 - (60 : Int32))) (ty := .int) (C := "RoundedNumbers$Exact") (T := F_E) (N := 5) hx hb hts in_E t_E t_E_ok n_E hown hK hP hD hS 0 rfl rfl 3 (by decide) (hts _ tw_27) (fun _ h9 => h9) rfl (by decide +kernel) rfl rfl (Nat.le_of_ble_eq_true rfl) d_E_holdQuotient_105 (fun H locs hP hD hS => ?_)
        have hP : va_P (dC, dI) classes [cE h_T (q_77 * q_81) (0 : Int64) x8 (x5 - (60 : Int32)) T_mo] H := hP
        have hD : va_D A [cE h_T (q_77 * q_81) (0 : Int64) x8 (x5 - (60 : Int32)) T_mo] := hD
        refine lv_aload_n hx hb d_E_holdQuotient_108 rfl (lv_at hl 0 rfl) ?_
        refine lv_lload hx hb d_E_holdQuotient_109 (lv_at hl 6 rfl) ?_
        refine lv_lconst (v := (0 : Int64)) hx hb d_E_holdQuotient_111 (by decide) ?_
        refine W.lcmp hx hb d_E_holdQuotient_112 ?_
        refine lv_if_eq (tgt := 120) hx hb d_E_holdQuotient_113 (by decide) (fun c_113 => ?_) (fun c_113 => ?_)
        · replace hF := hif_t c_113 hF
          refine lv_iconst (v := (0 : Int32)) hx hb d_E_holdQuotient_120 (by decide) ?_
          refine va_put (D := (dC, dI)) (ci := 0) (v := .int (0 : Int32)) (ty := .boolean) (C := "RoundedNumbers$Exact") (T := F_E) (N := 5) hx hb hts in_E t_E t_E_ok n_E hown hK hP hD hS 0 rfl rfl 4 (by decide) (hts _ tw_29) (fun _ h9 => h9) rfl (by decide +kernel) rfl rfl (Nat.le_of_ble_eq_true rfl) d_E_holdQuotient_121 (fun H locs hP hD hS => ?_)
          have hP : va_P (dC, dI) classes [cE h_T (q_77 * q_81) (0 : Int64) x8 (x5 - (60 : Int32)) (0 : Int32)] H := hP
          have hD : va_D A [cE h_T (q_77 * q_81) (0 : Int64) x8 (x5 - (60 : Int32)) (0 : Int32)] := hD
          obtain rfl := Option.some.inj hF
          exact W.vret hx hb hr (fun t ht hW => ⟨⟨(), rfl, trivial, by rw [ht]; exact hP, va_K.moved hW.alike hK, hD⟩, hS.F ht⟩) hS.2.2 d_E_holdQuotient_124
        · replace hF := hif_f c_113 hF
          refine lv_iconst (v := (1 : Int32)) hx hb d_E_holdQuotient_116 (by decide) ?_
          refine lv_goto (tgt := 121) hx hb d_E_holdQuotient_117 (by decide) ?_
          refine va_put (D := (dC, dI)) (ci := 0) (v := .int (1 : Int32)) (ty := .boolean) (C := "RoundedNumbers$Exact") (T := F_E) (N := 5) hx hb hts in_E t_E t_E_ok n_E hown hK hP hD hS 0 rfl rfl 4 (by decide) (hts _ tw_29) (fun _ h9 => h9) rfl (by decide +kernel) rfl rfl (Nat.le_of_ble_eq_true rfl) d_E_holdQuotient_121 (fun H locs hP hD hS => ?_)
          have hP : va_P (dC, dI) classes [cE h_T (q_77 * q_81) (0 : Int64) x8 (x5 - (60 : Int32)) (1 : Int32)] H := hP
          have hD : va_D A [cE h_T (q_77 * q_81) (0 : Int64) x8 (x5 - (60 : Int32)) (1 : Int32)] := hD
          obtain rfl := Option.some.inj hF
          exact W.vret hx hb hr (fun t ht hW => ⟨⟨(), rfl, trivial, by rw [ht]; exact hP, va_K.moved hW.alike hK, hD⟩, hS.F ht⟩) hS.2.2 d_E_holdQuotient_124
      · replace hF := hif_f c_39 hF
        refine lv_lload hx hb d_E_holdQuotient_42 (lv_at hl 6 rfl) ?_
        refine lv_bipush (v := (10 : Int32)) hx hb d_E_holdQuotient_44 (by decide) ?_
        refine lv_lshl (v := (jshl x10 (10 : Int32))) hx hb d_E_holdQuotient_46 rfl ?_
        refine lv_lstore (lv' := [(10, .long (jshl x10 (10 : Int32))), (0, .ref h_T), (1, .long x1), (3, .long x3), (5, .int x5), (6, .long x6), (8, .long x8), (12, .int x12)]) hx hb d_E_holdQuotient_47 hl (by decide) rfl (fun ls hl => ?_)
        refine lv_lload hx hb d_E_holdQuotient_49 (lv_at hl 6 rfl) ?_
        refine lv_bipush (v := (10 : Int32)) hx hb d_E_holdQuotient_51 (by decide) ?_
        refine lv_lshl (v := (jshl x8 (10 : Int32))) hx hb d_E_holdQuotient_53 rfl ?_
        refine lv_lload hx hb d_E_holdQuotient_54 (lv_at hl 0 rfl) ?_
        refine lv_lload hx hb d_E_holdQuotient_56 (lv_at hl 5 rfl) ?_
        have c_58 : ¬ x6 = 0 := hif_n hF
        replace hF := hif_f c_58 hF
        refine lv_ldiv hx hb d_E_holdQuotient_58 c_58 ?_
        refine lv_lor hx hb d_E_holdQuotient_59 ?_
        refine lv_lstore (lv' := [(8, .long ((jshl x8 (10 : Int32)) ||| ((jshl x10 (10 : Int32)) / x6))), (10, .long (jshl x10 (10 : Int32))), (0, .ref h_T), (1, .long x1), (3, .long x3), (5, .int x5), (6, .long x6), (12, .int x12)]) hx hb d_E_holdQuotient_60 hl (by decide) rfl (fun ls hl => ?_)
        refine lv_lload hx hb d_E_holdQuotient_62 (lv_at hl 1 rfl) ?_
        refine lv_lload hx hb d_E_holdQuotient_64 (lv_at hl 6 rfl) ?_
        have c_66 : ¬ x6 = 0 := hif_n hF
        replace hF := hif_f c_66 hF
        refine lv_lrem hx hb d_E_holdQuotient_66 c_66 ?_
        refine lv_lstore (lv' := [(10, .long ((jshl x10 (10 : Int32)) - (jshl x10 (10 : Int32)) / x6 * x6)), (8, .long ((jshl x8 (10 : Int32)) ||| ((jshl x10 (10 : Int32)) / x6))), (0, .ref h_T), (1, .long x1), (3, .long x3), (5, .int x5), (6, .long x6), (12, .int x12)]) hx hb d_E_holdQuotient_67 hl (by decide) rfl (fun ls hl => ?_)
        refine lv_iinc (v := (x12 + (1 : Int32))) (lv' := [(12, .int (x12 + (1 : Int32))), (10, .long ((jshl x10 (10 : Int32)) - (jshl x10 (10 : Int32)) / x6 * x6)), (8, .long ((jshl x8 (10 : Int32)) ||| ((jshl x10 (10 : Int32)) / x6))), (0, .ref h_T), (1, .long x1), (3, .long x3), (5, .int x5), (6, .long x6)]) hx hb d_E_holdQuotient_69 hl (k := 7) rfl rfl (by decide) rfl (fun ls hl => ?_)
        refine lv_goto (tgt := 35) hx hb d_E_holdQuotient_72 (by decide) ?_
        exact hk_35 x1 x3 x5 x6 ((jshl x8 (10 : Int32)) ||| ((jshl x10 (10 : Int32)) / x6)) ((jshl x10 (10 : Int32)) - (jshl x10 (10 : Int32)) / x6 * x6) (x12 + (1 : Int32)) T_sg T_hi T_lo T_pl T_mo _ _ _ hP hD hS (lv_sub hl [3, 4, 5, 6, 7, 2, 1, 0] rfl) hF
  unfold f_E_holdQuotient at hF
  refine lv_lload_n hx hb d_E_holdQuotient_0 rfl (lv_at hl 2 rfl) ?_
  refine va_mabs_long hx hb (hml.trans hl.1.symm) hown (hts _ tw_121) (hts _ tw_81) (hts _ tw_4) (hts _ tw_82) (Nat.le_of_ble_eq_true rfl) (Nat.le_of_ble_eq_true rfl) (Nat.zero_le _) (Nat.zero_le _) d_E_holdQuotient_1 ?_
  refine W.eq (g2 := F0 m 4 ls [.long (jabs a2)]) rfl ?_
  refine lv_lstore (lv' := [(6, .long (jabs a2)), (0, .ref h_T), (1, .long a1), (3, .long a2), (5, .int a3)]) hx hb d_E_holdQuotient_4 hl (by decide) rfl (fun ls hl => ?_)
  refine lv_lload hx hb d_E_holdQuotient_6 (lv_at hl 0 rfl) ?_
  refine lv_lconst (v := (0 : Int64)) hx hb d_E_holdQuotient_8 (by decide) ?_
  refine W.lcmp hx hb d_E_holdQuotient_9 ?_
  refine lv_if_ne (tgt := 14) hx hb d_E_holdQuotient_10 (by decide) (fun c_10 => ?_) (fun c_10 => ?_)
  · replace hF := hif_f c_10 hF
    refine lv_lload_n hx hb d_E_holdQuotient_14 rfl (lv_at hl 2 rfl) ?_
    refine va_mabs_long hx hb (hml.trans hl.1.symm) hown (hts _ tw_121) (hts _ tw_81) (hts _ tw_4) (hts _ tw_82) (Nat.le_of_ble_eq_true rfl) (Nat.le_of_ble_eq_true rfl) (Nat.zero_le _) (Nat.zero_le _) d_E_holdQuotient_15 ?_
    refine W.eq (g2 := F0 m 18 ls [.long (jabs a1)]) rfl ?_
    refine lv_lload hx hb d_E_holdQuotient_18 (lv_at hl 0 rfl) ?_
    have c_20 : ¬ (jabs a2) = 0 := hif_n hF
    replace hF := hif_f c_20 hF
    refine lv_ldiv hx hb d_E_holdQuotient_20 c_20 ?_
    refine lv_lstore (lv' := [(8, .long ((jabs a1) / (jabs a2))), (6, .long (jabs a2)), (0, .ref h_T), (1, .long a1), (3, .long a2), (5, .int a3)]) hx hb d_E_holdQuotient_21 hl (by decide) rfl (fun ls hl => ?_)
    refine lv_lload_n hx hb d_E_holdQuotient_23 rfl (lv_at hl 3 rfl) ?_
    refine va_mabs_long hx hb (hml.trans hl.1.symm) hown (hts _ tw_121) (hts _ tw_81) (hts _ tw_4) (hts _ tw_82) (Nat.le_of_ble_eq_true rfl) (Nat.le_of_ble_eq_true rfl) (Nat.zero_le _) (Nat.zero_le _) d_E_holdQuotient_24 ?_
    refine W.eq (g2 := F0 m 27 ls [.long (jabs a1)]) rfl ?_
    refine lv_lload hx hb d_E_holdQuotient_27 (lv_at hl 1 rfl) ?_
    have c_29 : ¬ (jabs a2) = 0 := hif_n hF
    replace hF := hif_f c_29 hF
    refine lv_lrem hx hb d_E_holdQuotient_29 c_29 ?_
    refine lv_lstore (lv' := [(10, .long ((jabs a1) - (jabs a1) / (jabs a2) * (jabs a2))), (8, .long ((jabs a1) / (jabs a2))), (6, .long (jabs a2)), (0, .ref h_T), (1, .long a1), (3, .long a2), (5, .int a3)]) hx hb d_E_holdQuotient_30 hl (by decide) rfl (fun ls hl => ?_)
    refine lv_iconst (v := (0 : Int32)) hx hb d_E_holdQuotient_32 (by decide) ?_
    refine lv_istore (lv' := [(12, .int (0 : Int32)), (10, .long ((jabs a1) - (jabs a1) / (jabs a2) * (jabs a2))), (8, .long ((jabs a1) / (jabs a2))), (6, .long (jabs a2)), (0, .ref h_T), (1, .long a1), (3, .long a2), (5, .int a3)]) hx hb d_E_holdQuotient_33 hl (by decide) rfl (fun ls hl => ?_)
    exact b_35 1000 a1 a2 a3 (jabs a2) ((jabs a1) / (jabs a2)) ((jabs a1) - (jabs a1) / (jabs a2) * (jabs a2)) (0 : Int32) T_sg T_hi T_lo T_pl T_mo _ _ _ hP hD hS (lv_sub hl [4, 5, 6, 7, 3, 2, 1, 0] rfl) hF
  · replace hF := hif_t c_10 hF
    obtain rfl := Option.some.inj hF
    exact W.vret hx hb hr (fun t ht hW => ⟨⟨(), rfl, trivial, by rw [ht]; exact hP, va_K.moved hW.alike hK, hD⟩, hS.F ht⟩) hS.2.2 d_E_holdQuotient_13
set_option maxHeartbeats 4000000 in
set_option maxRecDepth 100000 in
theorem c_E_holdRoot (l : Launch) (dC : Nat → ClassId) (dI : Nat → Nat → Nat) (h_T : Nat) (sz : Nat) (T_sg : Int32) (T_hi : Int64) (T_lo : Int64) (T_pl : Int32) (T_mo : Int32) (a1 : Int64) (a2 : Int32) (o : Int32 × Int64 × Int64 × Int32 × Int32) (hF : f_E_holdRoot T_sg T_hi T_lo T_pl T_mo a1 a2 = some o) : Met l y_E_holdRoot w_E_holdRoot ({ frames := 1, cells := 0, slots := 0, locals := 21 } : Room) (va_Pc [.ref h_T, .long a1, .int a2] (fun U => U.heap.size = sz ∧ va_P (dC, dI) classes [cE h_T T_sg T_hi T_lo T_pl T_mo] U.heap ∧ va_K (dC, dI) classes [] U ∧ va_D (fun _ => True) [cE h_T T_sg T_hi T_lo T_pl T_mo])) (va_Qv (fun _ : Unit => True) (fun (_ : Unit) (t : State) => va_P (dC, dI) classes [cE h_T o.1 o.2.1 o.2.2.1 o.2.2.2.1 o.2.2.2.2] t.heap ∧ va_K (dC, dI) classes [] t ∧ va_D (va_A [cE h_T T_sg T_hi T_lo T_pl T_mo] sz) [cE h_T o.1 o.2.1 o.2.2.1 o.2.2.2.1 o.2.2.2.2]) (va_A [cE h_T T_sg T_hi T_lo T_pl T_mo] sz)) 0 0 (va_A [cE h_T T_sg T_hi T_lo T_pl T_mo] sz) := by
  refine Met.ofW (cc := prog_2_method_5_code) (maxL := 15) (ret := none) (by decide) rfl ?_
  intro p e s m args below meth c s₁ B hml hv
  obtain ⟨rfl, hsz, hP, hK, hD0⟩ := hv
  have hx := B.exec
  have hb := B.bytes
  have hr := B.returns
  have hts0 := atoms_spec (ws := w_E_holdRoot) B.pre
  have hts : ∀ w ∈ tb, w.before _ s = true := fun w h => hts0 w (List.mem_cons_of_mem _ h)
  clear hts0
  have hown : s.vm.findClass "RoundedNumbers$Exact" = some m.cls := findClass_of_methodNamed B.named
  have hlocks := B.notSynchronized
  subst hsz
  have hD := hD0.self (sz := s.heap.size)
  generalize hAe : va_A [cE h_T T_sg T_hi T_lo T_pl T_mo] s.heap.size = A at hD ⊢
  have hA : ∀ q : Nat, s.heap.size ≤ q → A q := fun q h => by rw [← hAe]; exact Or.inr h
  clear hAe
  have hS : va_S A s.heap s.heap [] := va_S.rf
  have hP : va_P (dC, dI) classes [cE h_T T_sg T_hi T_lo T_pl T_mo] s.heap := hP
  have hl := lv_entry ([.ref h_T, .long a1, .int a2]) (n := 15) (Nat.le_of_ble_eq_true rfl)
  rw [lg_entry_eq]
  generalize (lg_sl ([.ref h_T, .long a1, .int a2]) ++ List.replicate (15 - (lg_sl ([.ref h_T, .long a1, .int a2])).length) Slot.unset).toArray = ls at hl ⊢
  have hl : lv_has ls 15 [(0, .ref h_T), (1, .long a1), (3, .int a2)] := hl
  have b_44 : ∀ (k_17 : (Int64) → (Int32) → (Int64) → (Int64) → (Int64) → (Int32) → (Int32) → (Int64) → (Int64) → (Int32) → (Int32) → Option (Int32 × Int64 × Int64 × Int32 × Int32)), (∀ (x1 : Int64) (x3 : Int32) (x4 : Int64) (x6 : Int64) (x8 : Int64) (x10 : Int32) (T_sg : Int32) (T_hi : Int64) (T_lo : Int64) (T_pl : Int32) (T_mo : Int32) (H : Heap) (locs : List Loc) (ls : Array Slot), va_P (dC, dI) classes [cE h_T T_sg T_hi T_lo T_pl T_mo] H → va_D A [cE h_T T_sg T_hi T_lo T_pl T_mo] → va_S A s.heap H locs → lv_has ls 15 [(0, .ref h_T), (1, .long x1), (3, .int x3), (4, .long x4), (6, .long x6), (8, .long x8), (10, .int x10)] → k_17 x1 x3 x4 x6 x8 x10 T_sg T_hi T_lo T_pl T_mo = some o → W p l e (headSpec w_E_holdRoot ({ frames := 1, cells := 0, slots := 0, locals := 21 } : Room)).room s m ([.ref h_T, .long a1, .int a2] : List Value).toArray below meth c H locs 0 0 (MQ below (va_Qv (fun _ : Unit => True) (fun (_ : Unit) (t : State) => va_P (dC, dI) classes [cE h_T o.1 o.2.1 o.2.2.1 o.2.2.2.1 o.2.2.2.2] t.heap ∧ va_K (dC, dI) classes [] t ∧ va_D A [cE h_T o.1 o.2.1 o.2.2.1 o.2.2.2.1 o.2.2.2.2]) A) ([.ref h_T, .long a1, .int a2] : List Value).toArray s 0 0 A) (F0 m 17 ls [])) → ∀ (x1 : Int64) (x3 : Int32) (x4 : Int64) (x6 : Int64) (x8 : Int64) (x10 : Int32) (y0 : Int64) (T_sg : Int32) (T_hi : Int64) (T_lo : Int64) (T_pl : Int32) (T_mo : Int32) (H : Heap) (locs : List Loc) (ls : Array Slot), va_P (dC, dI) classes [cE h_T T_sg T_hi T_lo T_pl T_mo] H → va_D A [cE h_T T_sg T_hi T_lo T_pl T_mo] → va_S A s.heap H locs → lv_has ls 15 [(0, .ref h_T), (1, .long x1), (3, .int x3), (4, .long x4), (6, .long x6), (8, .long x8), (10, .int x10)] → f_E_holdRoot_44 k_17 x1 x3 x4 x6 x8 x10 y0 T_sg T_hi T_lo T_pl T_mo = some o → W p l e (headSpec w_E_holdRoot ({ frames := 1, cells := 0, slots := 0, locals := 21 } : Room)).room s m ([.ref h_T, .long a1, .int a2] : List Value).toArray below meth c H locs 0 0 (MQ below (va_Qv (fun _ : Unit => True) (fun (_ : Unit) (t : State) => va_P (dC, dI) classes [cE h_T o.1 o.2.1 o.2.2.1 o.2.2.2.1 o.2.2.2.2] t.heap ∧ va_K (dC, dI) classes [] t ∧ va_D A [cE h_T o.1 o.2.1 o.2.2.1 o.2.2.2.1 o.2.2.2.2]) A) ([.ref h_T, .long a1, .int a2] : List Value).toArray s 0 0 A) (F0 m 44 ls [.long y0]) := by
    intro k_17 hk_17 x1 x3 x4 x6 x8 x10 y0 T_sg T_hi T_lo T_pl T_mo H locs ls hP hD hS hl hF
    unfold f_E_holdRoot_44 at hF
    refine lv_lstore (lv' := [(11, .long y0), (0, .ref h_T), (1, .long x1), (3, .int x3), (4, .long x4), (6, .long x6), (8, .long x8), (10, .int x10)]) hx hb d_E_holdRoot_44 hl (by decide) rfl (fun ls hl => ?_)
    refine lv_lload hx hb d_E_holdRoot_46 (lv_at hl 5 rfl) ?_
    refine lv_iconst (v := (2 : Int32)) hx hb d_E_holdRoot_48 (by decide) ?_
    refine lv_lshl (v := (jshl x6 (2 : Int32))) hx hb d_E_holdRoot_49 rfl ?_
    refine lv_lconst (v := (1 : Int64)) hx hb d_E_holdRoot_50 (by decide) ?_
    refine lv_lor hx hb d_E_holdRoot_51 ?_
    refine lv_lstore (lv' := [(13, .long ((jshl x6 (2 : Int32)) ||| (1 : Int64))), (11, .long y0), (0, .ref h_T), (1, .long x1), (3, .int x3), (4, .long x4), (6, .long x6), (8, .long x8), (10, .int x10)]) hx hb d_E_holdRoot_52 hl (by decide) rfl (fun ls hl => ?_)
    refine lv_lload hx hb d_E_holdRoot_54 (lv_at hl 7 rfl) ?_
    refine lv_iconst (v := (2 : Int32)) hx hb d_E_holdRoot_56 (by decide) ?_
    refine lv_lshl (v := (jshl x8 (2 : Int32))) hx hb d_E_holdRoot_57 rfl ?_
    refine lv_lload hx hb d_E_holdRoot_58 (lv_at hl 1 rfl) ?_
    refine lv_lor hx hb d_E_holdRoot_60 ?_
    refine lv_lstore (lv' := [(8, .long ((jshl x8 (2 : Int32)) ||| y0)), (13, .long ((jshl x6 (2 : Int32)) ||| (1 : Int64))), (11, .long y0), (0, .ref h_T), (1, .long x1), (3, .int x3), (4, .long x4), (6, .long x6), (10, .int x10)]) hx hb d_E_holdRoot_61 hl (by decide) rfl (fun ls hl => ?_)
    refine lv_lload hx hb d_E_holdRoot_63 (lv_at hl 7 rfl) ?_
    refine lv_iconst (v := (1 : Int32)) hx hb d_E_holdRoot_65 (by decide) ?_
    refine lv_lshl (v := (jshl x6 (1 : Int32))) hx hb d_E_holdRoot_66 rfl ?_
    refine lv_lstore (lv' := [(6, .long (jshl x6 (1 : Int32))), (8, .long ((jshl x8 (2 : Int32)) ||| y0)), (13, .long ((jshl x6 (2 : Int32)) ||| (1 : Int64))), (11, .long y0), (0, .ref h_T), (1, .long x1), (3, .int x3), (4, .long x4), (10, .int x10)]) hx hb d_E_holdRoot_67 hl (by decide) rfl (fun ls hl => ?_)
    refine lv_lload hx hb d_E_holdRoot_69 (lv_at hl 1 rfl) ?_
    refine lv_lload hx hb d_E_holdRoot_71 (lv_at hl 2 rfl) ?_
    refine W.lcmp hx hb d_E_holdRoot_73 ?_
    refine lv_if_lt (tgt := 90) hx hb d_E_holdRoot_74 (by decide) (fun c_74 => ?_) (fun c_74 => ?_)
    · replace hF := hif_t c_74 hF
      refine lv_iinc (v := (x10 + (-1 : Int32))) (lv' := [(10, .int (x10 + (-1 : Int32))), (6, .long (jshl x6 (1 : Int32))), (8, .long ((jshl x8 (2 : Int32)) ||| y0)), (13, .long ((jshl x6 (2 : Int32)) ||| (1 : Int64))), (11, .long y0), (0, .ref h_T), (1, .long x1), (3, .int x3), (4, .long x4)]) hx hb d_E_holdRoot_90 hl (k := 8) rfl rfl (by decide) rfl (fun ls hl => ?_)
      refine lv_goto (tgt := 17) hx hb d_E_holdRoot_93 (by decide) ?_
      exact hk_17 x1 x3 x4 (jshl x6 (1 : Int32)) ((jshl x8 (2 : Int32)) ||| y0) (x10 + (-1 : Int32)) T_sg T_hi T_lo T_pl T_mo _ _ _ hP hD hS (lv_sub hl [5, 6, 7, 8, 1, 2, 0] rfl) hF
    · replace hF := hif_f c_74 hF
      refine lv_lload hx hb d_E_holdRoot_77 (lv_at hl 1 rfl) ?_
      refine lv_lload hx hb d_E_holdRoot_79 (lv_at hl 2 rfl) ?_
      refine lv_lsub hx hb d_E_holdRoot_81 ?_
      refine lv_lstore (lv' := [(8, .long (((jshl x8 (2 : Int32)) ||| y0) - ((jshl x6 (2 : Int32)) ||| (1 : Int64)))), (6, .long (jshl x6 (1 : Int32))), (13, .long ((jshl x6 (2 : Int32)) ||| (1 : Int64))), (11, .long y0), (0, .ref h_T), (1, .long x1), (3, .int x3), (4, .long x4), (10, .int x10)]) hx hb d_E_holdRoot_82 hl (by decide) rfl (fun ls hl => ?_)
      refine lv_lload hx hb d_E_holdRoot_84 (lv_at hl 1 rfl) ?_
      refine lv_lconst (v := (1 : Int64)) hx hb d_E_holdRoot_86 (by decide) ?_
      refine lv_lor hx hb d_E_holdRoot_87 ?_
      refine lv_lstore (lv' := [(6, .long ((jshl x6 (1 : Int32)) ||| (1 : Int64))), (8, .long (((jshl x8 (2 : Int32)) ||| y0) - ((jshl x6 (2 : Int32)) ||| (1 : Int64)))), (13, .long ((jshl x6 (2 : Int32)) ||| (1 : Int64))), (11, .long y0), (0, .ref h_T), (1, .long x1), (3, .int x3), (4, .long x4), (10, .int x10)]) hx hb d_E_holdRoot_88 hl (by decide) rfl (fun ls hl => ?_)
      refine lv_iinc (v := (x10 + (-1 : Int32))) (lv' := [(10, .int (x10 + (-1 : Int32))), (6, .long ((jshl x6 (1 : Int32)) ||| (1 : Int64))), (8, .long (((jshl x8 (2 : Int32)) ||| y0) - ((jshl x6 (2 : Int32)) ||| (1 : Int64)))), (13, .long ((jshl x6 (2 : Int32)) ||| (1 : Int64))), (11, .long y0), (0, .ref h_T), (1, .long x1), (3, .int x3), (4, .long x4)]) hx hb d_E_holdRoot_90 hl (k := 8) rfl rfl (by decide) rfl (fun ls hl => ?_)
      refine lv_goto (tgt := 17) hx hb d_E_holdRoot_93 (by decide) ?_
      exact hk_17 x1 x3 x4 ((jshl x6 (1 : Int32)) ||| (1 : Int64)) (((jshl x8 (2 : Int32)) ||| y0) - ((jshl x6 (2 : Int32)) ||| (1 : Int64))) (x10 + (-1 : Int32)) T_sg T_hi T_lo T_pl T_mo _ _ _ hP hD hS (lv_sub hl [5, 6, 7, 8, 1, 2, 0] rfl) hF
  have b_17 : ∀ n_ : Nat, ∀ (x1 : Int64) (x3 : Int32) (x4 : Int64) (x6 : Int64) (x8 : Int64) (x10 : Int32) (T_sg : Int32) (T_hi : Int64) (T_lo : Int64) (T_pl : Int32) (T_mo : Int32) (H : Heap) (locs : List Loc) (ls : Array Slot), va_P (dC, dI) classes [cE h_T T_sg T_hi T_lo T_pl T_mo] H → va_D A [cE h_T T_sg T_hi T_lo T_pl T_mo] → va_S A s.heap H locs → lv_has ls 15 [(0, .ref h_T), (1, .long x1), (3, .int x3), (4, .long x4), (6, .long x6), (8, .long x8), (10, .int x10)] → f_E_holdRoot_17 n_ x1 x3 x4 x6 x8 x10 T_sg T_hi T_lo T_pl T_mo = some o → W p l e (headSpec w_E_holdRoot ({ frames := 1, cells := 0, slots := 0, locals := 21 } : Room)).room s m ([.ref h_T, .long a1, .int a2] : List Value).toArray below meth c H locs 0 0 (MQ below (va_Qv (fun _ : Unit => True) (fun (_ : Unit) (t : State) => va_P (dC, dI) classes [cE h_T o.1 o.2.1 o.2.2.1 o.2.2.2.1 o.2.2.2.2] t.heap ∧ va_K (dC, dI) classes [] t ∧ va_D A [cE h_T o.1 o.2.1 o.2.2.1 o.2.2.2.1 o.2.2.2.2]) A) ([.ref h_T, .long a1, .int a2] : List Value).toArray s 0 0 A) (F0 m 17 ls []) := by
    intro n_
    induction n_ with
    | zero =>
      intro x1 x3 x4 x6 x8 x10 T_sg T_hi T_lo T_pl T_mo H locs ls hP hD hS hl hF
      rw [f_E_holdRoot_17] at hF
      exact absurd hF (by simp)
    | succ n_ ih =>
      obtain ⟨k_17, ek_17⟩ : ∃ k, k = f_E_holdRoot_17 n_ := ⟨_, rfl⟩
      rw [← ek_17] at ih
      have hk_17 := ih
      intro x1 x3 x4 x6 x8 x10 T_sg T_hi T_lo T_pl T_mo H locs ls hP hD hS hl hF
      rw [f_E_holdRoot_17, ← ek_17] at hF
      refine lv_iload hx hb d_E_holdRoot_17 (lv_at hl 6 rfl) ?_
      refine lv_bipush (v := (-29 : Int32)) hx hb d_E_holdRoot_19 (by decide) ?_
      refine lv_icmp_lt (tgt := 96) hx hb d_E_holdRoot_21 (by decide) (fun c_21 => ?_) (fun c_21 => ?_)
      · replace hF := hif_t c_21 hF
        refine lv_aload_n hx hb d_E_holdRoot_96 rfl (lv_at hl 0 rfl) ?_
        refine lv_lload_n hx hb d_E_holdRoot_97 rfl (lv_at hl 1 rfl) ?_
        obtain ⟨q_98, hC_98, hF⟩ := hbd hF
        have hPc := hP.sub (ws' := []) [] rfl
        have hDc := hD.sub (ws' := []) [] (by decide) rfl
        have hKc := hK.sub (tys' := []) [] rfl
        have hFc := va_free (wc := []) hD hS hA [] rfl
        refine va_calli (va_runS (As := [.long x1]) (rest := [.ref h_T]) ⟨hx, hb, hml, hown, hts⟩ (c_J_signum l dC dI H.size x1 q_98 hC_98) (va_cwS 1 hts g_E_9_JL_signum rfl rfl rfl (by decide +kernel) ⟨Nat.le_of_ble_eq_true rfl, Nat.le_of_ble_eq_true rfl⟩) ⟨fun a U g mk q => by obtain ⟨q0, q1, qP, qK, qD⟩ := q; exact ⟨q0, q1, qP, va_K.moved (u := U) (U := U.calling g mk a) (Vm.Alike.refl U.vm) qK, qD⟩, fun U hU hW => ⟨rfl, by rw [hU], by rw [hU]; exact hPc, va_K.moved hW.alike hKc, hDc.weaken (fun _ _ _ _ => trivial)⟩⟩ rfl rfl hl.1 rfl (lv_room (Nat.le_of_ble_eq_true rfl)) d_E_holdRoot_98 ⟨Nat.zero_le _, Nat.zero_le _⟩) hS (fun q _ h => hFc q h) hFc (fun r u t H1 locs ht hvm hw hB hz1 hk1 hS => ?_)
        obtain ⟨hP1, hK1, hD1⟩ := hB
        replace hw := hw.symm
        subst hw
        rw [ht] at hP1
        obtain ⟨hP, hD⟩ := va_join (wr := [cE h_T T_sg T_hi T_lo T_pl T_mo]) (w1 := []) hP hD [] [0] rfl rfl (by decide) (by decide) hk1 hFc hP1 hD1
        generalize H1 = H at hP hS ⊢
        have hP := hP.sub (ws' := [cE h_T T_sg T_hi T_lo T_pl T_mo]) [0] rfl
        have hD := hD.sub (ws' := [cE h_T T_sg T_hi T_lo T_pl T_mo]) [0] (by decide) rfl
        refine va_put (D := (dC, dI)) (ci := 0) (v := .int q_98) (ty := .int) (C := "RoundedNumbers$Exact") (T := F_E) (N := 5) hx hb hts in_E t_E t_E_ok n_E hown hK hP hD hS 0 rfl rfl 0 (by decide) (hts _ tw_21) (fun _ h9 => h9) rfl (by decide +kernel) rfl rfl (Nat.le_of_ble_eq_true rfl) d_E_holdRoot_101 (fun H locs hP hD hS => ?_)
        have hP : va_P (dC, dI) classes [cE h_T q_98 T_hi T_lo T_pl T_mo] H := hP
        have hD : va_D A [cE h_T q_98 T_hi T_lo T_pl T_mo] := hD
        refine lv_aload_n hx hb d_E_holdRoot_104 rfl (lv_at hl 0 rfl) ?_
        refine lv_lconst (v := (0 : Int64)) hx hb d_E_holdRoot_105 (by decide) ?_
        refine va_put (D := (dC, dI)) (ci := 0) (v := .long (0 : Int64)) (ty := .long) (C := "RoundedNumbers$Exact") (T := F_E) (N := 5) hx hb hts in_E t_E t_E_ok n_E hown hK hP hD hS 0 rfl rfl 1 (by decide) (hts _ tw_23) (fun _ h9 => h9) rfl (by decide +kernel) rfl rfl (Nat.le_of_ble_eq_true rfl) d_E_holdRoot_106 (fun H locs hP hD hS => ?_)
        have hP : va_P (dC, dI) classes [cE h_T q_98 (0 : Int64) T_lo T_pl T_mo] H := hP
        have hD : va_D A [cE h_T q_98 (0 : Int64) T_lo T_pl T_mo] := hD
        refine lv_aload_n hx hb d_E_holdRoot_109 rfl (lv_at hl 0 rfl) ?_
        refine lv_lload hx hb d_E_holdRoot_110 (lv_at hl 4 rfl) ?_
        refine va_put (D := (dC, dI)) (ci := 0) (v := .long x6) (ty := .long) (C := "RoundedNumbers$Exact") (T := F_E) (N := 5) hx hb hts in_E t_E t_E_ok n_E hown hK hP hD hS 0 rfl rfl 2 (by decide) (hts _ tw_25) (fun _ h9 => h9) rfl (by decide +kernel) rfl rfl (Nat.le_of_ble_eq_true rfl) d_E_holdRoot_112 (fun H locs hP hD hS => ?_)
        have hP : va_P (dC, dI) classes [cE h_T q_98 (0 : Int64) x6 T_pl T_mo] H := hP
        have hD : va_D A [cE h_T q_98 (0 : Int64) x6 T_pl T_mo] := hD
        refine lv_aload_n hx hb d_E_holdRoot_115 rfl (lv_at hl 0 rfl) ?_
        refine lv_iload_n hx hb d_E_holdRoot_116 rfl (lv_at hl 2 rfl) ?_
        refine lv_iload_n hx hb d_E_holdRoot_117 rfl (lv_at hl 2 rfl) ?_
        refine lv_iconst (v := (1 : Int32)) hx hb d_E_holdRoot_118 (by decide) ?_
        refine lv_iand hx hb d_E_holdRoot_119 ?_
        refine lv_isub hx hb d_E_holdRoot_120 ?_
        refine lv_iconst (v := (2 : Int32)) hx hb d_E_holdRoot_121 (by decide) ?_
        refine lv_idiv hx hb d_E_holdRoot_122 (by decide) ?_
        refine lv_bipush (v := (29 : Int32)) hx hb d_E_holdRoot_123 (by decide) ?_
        refine lv_isub hx hb d_E_holdRoot_125 ?_
        refine va_put (D := (dC, dI)) (ci := 0) (v := .int (((x3 - (x3 &&& (1 : Int32))) / (2 : Int32)) - (29 : Int32))) (ty := .int) (C := "RoundedNumbers$Exact") (T := F_E) (N := 5) hx hb hts in_E t_E t_E_ok n_E hown hK hP hD hS 0 rfl rfl 3 (by decide) (hts _ tw_27) (fun _ h9 => h9) rfl (by decide +kernel) rfl rfl (Nat.le_of_ble_eq_true rfl) d_E_holdRoot_126 (fun H locs hP hD hS => ?_)
        have hP : va_P (dC, dI) classes [cE h_T q_98 (0 : Int64) x6 (((x3 - (x3 &&& (1 : Int32))) / (2 : Int32)) - (29 : Int32)) T_mo] H := hP
        have hD : va_D A [cE h_T q_98 (0 : Int64) x6 (((x3 - (x3 &&& (1 : Int32))) / (2 : Int32)) - (29 : Int32)) T_mo] := hD
        refine lv_aload_n hx hb d_E_holdRoot_129 rfl (lv_at hl 0 rfl) ?_
        refine lv_lload hx hb d_E_holdRoot_130 (lv_at hl 5 rfl) ?_
        refine lv_lconst (v := (0 : Int64)) hx hb d_E_holdRoot_132 (by decide) ?_
        refine W.lcmp hx hb d_E_holdRoot_133 ?_
        refine lv_if_eq (tgt := 141) hx hb d_E_holdRoot_134 (by decide) (fun c_134 => ?_) (fun c_134 => ?_)
        · replace hF := hif_t c_134 hF
          refine lv_iconst (v := (0 : Int32)) hx hb d_E_holdRoot_141 (by decide) ?_
          refine va_put (D := (dC, dI)) (ci := 0) (v := .int (0 : Int32)) (ty := .boolean) (C := "RoundedNumbers$Exact") (T := F_E) (N := 5) hx hb hts in_E t_E t_E_ok n_E hown hK hP hD hS 0 rfl rfl 4 (by decide) (hts _ tw_29) (fun _ h9 => h9) rfl (by decide +kernel) rfl rfl (Nat.le_of_ble_eq_true rfl) d_E_holdRoot_142 (fun H locs hP hD hS => ?_)
          have hP : va_P (dC, dI) classes [cE h_T q_98 (0 : Int64) x6 (((x3 - (x3 &&& (1 : Int32))) / (2 : Int32)) - (29 : Int32)) (0 : Int32)] H := hP
          have hD : va_D A [cE h_T q_98 (0 : Int64) x6 (((x3 - (x3 &&& (1 : Int32))) / (2 : Int32)) - (29 : Int32)) (0 : Int32)] := hD
          obtain rfl := Option.some.inj hF
          exact W.vret hx hb hr (fun t ht hW => ⟨⟨(), rfl, trivial, by rw [ht]; exact hP, va_K.moved hW.alike hK, hD⟩, hS.F ht⟩) hS.2.2 d_E_holdRoot_145
        · replace hF := hif_f c_134 hF
          refine lv_iconst (v := (1 : Int32)) hx hb d_E_holdRoot_137 (by decide) ?_
          refine lv_goto (tgt := 142) hx hb d_E_holdRoot_138 (by decide) ?_
          refine va_put (D := (dC, dI)) (ci := 0) (v := .int (1 : Int32)) (ty := .boolean) (C := "RoundedNumbers$Exact") (T := F_E) (N := 5) hx hb hts in_E t_E t_E_ok n_E hown hK hP hD hS 0 rfl rfl 4 (by decide) (hts _ tw_29) (fun _ h9 => h9) rfl (by decide +kernel) rfl rfl (Nat.le_of_ble_eq_true rfl) d_E_holdRoot_142 (fun H locs hP hD hS => ?_)
          have hP : va_P (dC, dI) classes [cE h_T q_98 (0 : Int64) x6 (((x3 - (x3 &&& (1 : Int32))) / (2 : Int32)) - (29 : Int32)) (1 : Int32)] H := hP
          have hD : va_D A [cE h_T q_98 (0 : Int64) x6 (((x3 - (x3 &&& (1 : Int32))) / (2 : Int32)) - (29 : Int32)) (1 : Int32)] := hD
          obtain rfl := Option.some.inj hF
          exact W.vret hx hb hr (fun t ht hW => ⟨⟨(), rfl, trivial, by rw [ht]; exact hP, va_K.moved hW.alike hK, hD⟩, hS.F ht⟩) hS.2.2 d_E_holdRoot_145
      · replace hF := hif_f c_21 hF
        refine lv_iload hx hb d_E_holdRoot_24 (lv_at hl 6 rfl) ?_
        refine lv_if_lt (tgt := 43) hx hb d_E_holdRoot_26 (by decide) (fun c_26 => ?_) (fun c_26 => ?_)
        · replace hF := hif_t c_26 hF
          refine lv_lconst (v := (0 : Int64)) hx hb d_E_holdRoot_43 (by decide) ?_
          exact b_44 k_17 hk_17 x1 x3 x4 x6 x8 x10 (0 : Int64) T_sg T_hi T_lo T_pl T_mo _ _ _ hP hD hS (lv_sub hl [0, 1, 2, 3, 4, 5, 6] rfl) hF
        · replace hF := hif_f c_26 hF
          refine lv_lload hx hb d_E_holdRoot_29 (lv_at hl 3 rfl) ?_
          refine lv_iconst (v := (2 : Int32)) hx hb d_E_holdRoot_31 (by decide) ?_
          refine lv_iload hx hb d_E_holdRoot_32 (lv_at hl 6 rfl) ?_
          refine lv_imul hx hb d_E_holdRoot_34 ?_
          refine lv_lshr (v := (jshr x4 ((2 : Int32) * x10))) hx hb d_E_holdRoot_35 rfl ?_
          refine lv_ldc2 (v := (3 : Int64)) hx hb hown (hts _ tw_211) d_E_holdRoot_36 ?_
          refine lv_land hx hb d_E_holdRoot_39 ?_
          refine lv_goto (tgt := 44) hx hb d_E_holdRoot_40 (by decide) ?_
          exact b_44 k_17 hk_17 x1 x3 x4 x6 x8 x10 ((jshr x4 ((2 : Int32) * x10)) &&& (3 : Int64)) T_sg T_hi T_lo T_pl T_mo _ _ _ hP hD hS (lv_sub hl [0, 1, 2, 3, 4, 5, 6] rfl) hF
  unfold f_E_holdRoot at hF
  refine lv_lload_n hx hb d_E_holdRoot_0 rfl (lv_at hl 1 rfl) ?_
  refine lv_iload_n hx hb d_E_holdRoot_1 rfl (lv_at hl 2 rfl) ?_
  refine lv_iconst (v := (1 : Int32)) hx hb d_E_holdRoot_2 (by decide) ?_
  refine lv_iand hx hb d_E_holdRoot_3 ?_
  refine lv_lshl (v := (jshl a1 (a2 &&& (1 : Int32)))) hx hb d_E_holdRoot_4 rfl ?_
  refine lv_lstore (lv' := [(4, .long (jshl a1 (a2 &&& (1 : Int32)))), (0, .ref h_T), (1, .long a1), (3, .int a2)]) hx hb d_E_holdRoot_5 hl (by decide) rfl (fun ls hl => ?_)
  refine lv_lconst (v := (0 : Int64)) hx hb d_E_holdRoot_7 (by decide) ?_
  refine lv_lstore (lv' := [(6, .long (0 : Int64)), (4, .long (jshl a1 (a2 &&& (1 : Int32)))), (0, .ref h_T), (1, .long a1), (3, .int a2)]) hx hb d_E_holdRoot_8 hl (by decide) rfl (fun ls hl => ?_)
  refine lv_lconst (v := (0 : Int64)) hx hb d_E_holdRoot_10 (by decide) ?_
  refine lv_lstore (lv' := [(8, .long (0 : Int64)), (6, .long (0 : Int64)), (4, .long (jshl a1 (a2 &&& (1 : Int32)))), (0, .ref h_T), (1, .long a1), (3, .int a2)]) hx hb d_E_holdRoot_11 hl (by decide) rfl (fun ls hl => ?_)
  refine lv_bipush (v := (26 : Int32)) hx hb d_E_holdRoot_13 (by decide) ?_
  refine lv_istore (lv' := [(10, .int (26 : Int32)), (8, .long (0 : Int64)), (6, .long (0 : Int64)), (4, .long (jshl a1 (a2 &&& (1 : Int32)))), (0, .ref h_T), (1, .long a1), (3, .int a2)]) hx hb d_E_holdRoot_15 hl (by decide) rfl (fun ls hl => ?_)
  exact b_17 1000 a1 a2 (jshl a1 (a2 &&& (1 : Int32))) (0 : Int64) (0 : Int64) (26 : Int32) T_sg T_hi T_lo T_pl T_mo _ _ _ hP hD hS (lv_sub hl [4, 5, 6, 3, 2, 1, 0] rfl) hF
