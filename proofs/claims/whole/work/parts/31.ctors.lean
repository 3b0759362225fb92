set_option maxHeartbeats 4000000 in
set_option maxRecDepth 100000 in
theorem c_E_init (l : Launch) (dC : Nat → ClassId) (dI : Nat → Nat → Nat) (h_T sz : Nat) (T_sg : Int32) (T_hi T_lo : Int64) (T_pl T_mo : Int32) : Met l y_E_init w_E_init ({ frames := 1, cells := 0, slots := 0, locals := 12 } : Room) (va_Pc [.ref h_T] (fun U => U.heap.size = sz ∧ va_P (dC, dI) classes [cE h_T T_sg T_hi T_lo T_pl T_mo] U.heap ∧ va_K (dC, dI) classes [] U ∧ va_D (fun _ => True) [cE h_T T_sg T_hi T_lo T_pl T_mo])) (va_Qv (fun _ : Unit => True) (fun (_ : Unit) (t : State) => va_P (dC, dI) classes [cE h_T T_sg T_hi T_lo T_pl T_mo] t.heap ∧ va_K (dC, dI) classes [] t ∧ va_D (va_A [cE h_T T_sg T_hi T_lo T_pl T_mo] sz) [cE h_T T_sg T_hi T_lo T_pl T_mo]) (va_A [cE h_T T_sg T_hi T_lo T_pl T_mo] sz)) 0 0 (va_A [cE h_T T_sg T_hi T_lo T_pl T_mo] sz) := by
  refine Met.ofW (cc := prog_2_method_1_code) (maxL := 1) (ret := none) (by decide) rfl ?_
  intro p e s m args below meth c s₁ B hml hv
  obtain ⟨rfl, hsz, hP, hK, hD0⟩ := hv
  have hx := B.exec
  have hb := B.bytes
  have hr := B.returns
  have hts0 := atoms_spec (ws := w_E_init) B.pre
  have hts : ∀ w ∈ tb, w.before _ s = true := fun w h => hts0 w (List.mem_cons_of_mem _ h)
  clear hts0
  have hown : s.vm.findClass "RoundedNumbers$Exact" = some m.cls := findClass_of_methodNamed B.named
  have hlocks := B.notSynchronized
  have hin : meth.name = "<init>" := (name_of_methodNamed B.named B.method).1
  subst hsz
  have hD := hD0.self (sz := s.heap.size)
  generalize hAe : va_A [cE h_T T_sg T_hi T_lo T_pl T_mo] s.heap.size = A at hD ⊢
  have hA : ∀ q : Nat, s.heap.size ≤ q → A q := fun q h => by rw [← hAe]; exact Or.inr h
  clear hAe
  have hS : va_S A s.heap s.heap [] := va_S.rf
  have hP : va_P (dC, dI) classes [cE h_T T_sg T_hi T_lo T_pl T_mo] s.heap := hP
  have hl := lv_entry ([.ref h_T]) (n := 1) (Nat.le_of_ble_eq_true rfl)
  rw [lg_entry_eq]
  generalize (lg_sl ([.ref h_T]) ++ List.replicate (1 - (lg_sl ([.ref h_T])).length) Slot.unset).toArray = ls at hl ⊢
  have hl : lv_has ls 1 [(0, .ref h_T)] := hl
  refine lv_aload_n hx hb d_E_init_0 rfl (lv_at hl 0 rfl) ?_
  refine W.objInit hx hb hown (hts _ tw_20) (hts _ tw_13) (hts _ tw_14) rfl (by rw [hml]; exact hl.1) rfl d_E_init_1 (Nat.le_of_ble_eq_true rfl) (Nat.le_of_ble_eq_true rfl) ?_
  refine W.eq (g2 := F0 m 4 ls []) rfl ?_
  exact W.vret hx hb hr (fun t ht hW => ⟨⟨(), rfl, trivial, by rw [ht]; exact hP, va_K.moved hW.alike hK, hD⟩, hS.F ht⟩) hS.2.2 d_E_init_4
set_option maxHeartbeats 4000000 in
set_option maxRecDepth 100000 in
theorem c_X_init (l : Launch) (dC : Nat → ClassId) (dI : Nat → Nat → Nat) (h_X sz : Nat) : Met l y_X_init w_X_init ({ frames := 2, cells := 5, slots := 31, locals := 32 } : Room) (va_Pc [.ref h_X] (fun U => U.heap.size = sz ∧ va_P (dC, dI) classes [(h_X, .inr (1, [.null, .null, .int 0, .int 0, .int 0, .null, .null, .null]))] U.heap ∧ va_K (dC, dI) classes [] U ∧ va_D (fun _ => True) [(h_X, .inr (1, [.null, .null, .int 0, .int 0, .int 0, .null, .null, .null]))] ∧ va_Nw (Jvm.Cond.methodLinkNest "RoundedNumbers" (19 : Nat) ({ cls := "RoundedNumbers$Exact", name := "<init>", desc := "()V" } : Jvm.MethodName) "RoundedNumbers") U)) (va_Qv (fun _ : Unit => True) (fun (_ : Unit) (t : State) => ∃ (h_M h_P h_E1 h_E2 h_E3 : Nat) (k_M k_P : ClassId), va_P (dC, dI) classes [cX h_X h_M h_P h_E1 h_E2 h_E3 0 0 0, cL h_M k_M 8 (fun _ => 0), cI h_P k_P 8 (fun _ => 0), cE h_E1 0 0 0 0 0, cE h_E2 0 0 0 0 0, cE h_E3 0 0 0 0 0] t.heap ∧ va_K (dC, dI) classes [(k_M, .long), (k_P, .int)] t ∧ va_D (va_A [(h_X, .inr (1, [.null, .null, .int 0, .int 0, .int 0, .null, .null, .null]))] sz) [cX h_X h_M h_P h_E1 h_E2 h_E3 0 0 0, cL h_M k_M 8 (fun _ => 0), cI h_P k_P 8 (fun _ => 0), cE h_E1 0 0 0 0 0, cE h_E2 0 0 0 0 0, cE h_E3 0 0 0 0 0]) (va_A [(h_X, .inr (1, [.null, .null, .int 0, .int 0, .int 0, .null, .null, .null]))] sz)) 5 31 (va_A [(h_X, .inr (1, [.null, .null, .int 0, .int 0, .int 0, .null, .null, .null]))] sz) := by
  refine Met.ofW (cc := prog_1_method_1_code) (maxL := 1) (ret := none) (by decide) rfl ?_
  intro p e s m args below meth c s₁ B hml hv
  obtain ⟨rfl, hsz, hP, hK, hD0, hNw⟩ := hv
  have hx := B.exec
  have hb := B.bytes
  have hr := B.returns
  have hts0 := atoms_spec (ws := w_X_init) B.pre
  have hts : ∀ w ∈ tb, w.before _ s = true := fun w h => hts0 w (List.mem_cons_of_mem _ h)
  clear hts0
  have hown : s.vm.findClass "RoundedNumbers" = some m.cls := findClass_of_methodNamed B.named
  have hlocks := B.notSynchronized
  have hin : meth.name = "<init>" := (name_of_methodNamed B.named B.method).1
  subst hsz
  have hD := hD0.self (sz := s.heap.size)
  generalize hAe : va_A [(h_X, .inr (1, [.null, .null, .int 0, .int 0, .int 0, .null, .null, .null]))] s.heap.size = A at hD ⊢
  have hA : ∀ q : Nat, s.heap.size ≤ q → A q := fun q h => by rw [← hAe]; exact Or.inr h
  clear hAe
  have hS : va_S A s.heap s.heap [] := va_S.rf
  have hP : va_P (dC, dI) classes [(h_X, .inr (1, [.null, .null, .int 0, .int 0, .int 0, .null, .null, .null]))] s.heap := hP
  have hl := lv_entry ([.ref h_X]) (n := 1) (Nat.le_of_ble_eq_true rfl)
  rw [lg_entry_eq]
  generalize (lg_sl ([.ref h_X]) ++ List.replicate (1 - (lg_sl ([.ref h_X])).length) Slot.unset).toArray = ls at hl ⊢
  have hl : lv_has ls 1 [(0, .ref h_X)] := hl
  refine lv_aload_n hx hb d_X_init_0 rfl (lv_at hl 0 rfl) ?_
  refine W.objInit hx hb hown (hts _ tw_12) (hts _ tw_13) (hts _ tw_14) rfl (by rw [hml]; exact hl.1) rfl d_X_init_1 (Nat.le_of_ble_eq_true rfl) (Nat.le_of_ble_eq_true rfl) ?_
  refine W.eq (g2 := F0 m 4 ls []) rfl ?_
  refine lv_aload_n hx hb d_X_init_4 rfl (lv_at hl 0 rfl) ?_
  refine lv_bipush (v := (8 : Int32)) hx hb d_X_init_5 (by decide) ?_
  refine va_newa (atype := .long) (ty := .long) (N' := 8) (a0 := (8, .inr (.inl (fun _ => 0)))) hx hb (hts _ tw_41) rfl hK hP hD hS hA (fun _ => rfl) (by decide) (by decide) (by decide) (Nat.le_of_ble_eq_true rfl) (Nat.le_of_ble_eq_true rfl) d_X_init_7 (fun h_M k_M H hK hP hD hS => ?_)
  have hP : va_P (dC, dI) classes [(h_X, .inr (1, [.null, .null, .int 0, .int 0, .int 0, .null, .null, .null])), cL h_M k_M 8 (fun _ => 0)] H := hP
  have hD : va_D A [(h_X, .inr (1, [.null, .null, .int 0, .int 0, .int 0, .null, .null, .null])), cL h_M k_M 8 (fun _ => 0)] := hD
  have hK : va_K (dC, dI) classes [(k_M, .long)] s := hK
  refine W.widen (k := 1) (n := 8) (Nat.le_refl _) (Nat.le_refl _) ?_
  refine va_putF (D := (dC, dI)) (ci := 1) (v := .ref h_M) (ty := .array .long) (C := "RoundedNumbers") (T := F_X) (N := 8) hx hb hts in_X t_X t_X_ok n_X hown hK hP hD hS 0 rfl rfl 0 (by decide) (hts _ tw_43) (fun _ h9 => h9) rfl hin rfl (by decide +kernel) rfl rfl (Nat.le_of_ble_eq_true rfl) d_X_init_9 (fun H locs hP hD hS => ?_)
  have hP : va_P (dC, dI) classes [(h_X, .inr (1, [.ref h_M, .null, .int 0, .int 0, .int 0, .null, .null, .null])), cL h_M k_M 8 (fun _ => 0)] H := hP
  have hD : va_D A [(h_X, .inr (1, [.ref h_M, .null, .int 0, .int 0, .int 0, .null, .null, .null])), cL h_M k_M 8 (fun _ => 0)] := hD
  refine lv_aload_n hx hb d_X_init_12 rfl (lv_at hl 0 rfl) ?_
  refine lv_bipush (v := (8 : Int32)) hx hb d_X_init_13 (by decide) ?_
  refine va_newa (atype := .int) (ty := .int) (N' := 8) (a0 := (8, .inl (fun _ => 0))) hx hb (hts _ tw_42) rfl hK hP hD hS hA (fun _ => rfl) (by decide) (by decide) (by decide) (Nat.le_of_ble_eq_true rfl) (Nat.le_of_ble_eq_true rfl) d_X_init_15 (fun h_P k_P H hK hP hD hS => ?_)
  have hP : va_P (dC, dI) classes [(h_X, .inr (1, [.ref h_M, .null, .int 0, .int 0, .int 0, .null, .null, .null])), cL h_M k_M 8 (fun _ => 0), cI h_P k_P 8 (fun _ => 0)] H := hP
  have hD : va_D A [(h_X, .inr (1, [.ref h_M, .null, .int 0, .int 0, .int 0, .null, .null, .null])), cL h_M k_M 8 (fun _ => 0), cI h_P k_P 8 (fun _ => 0)] := hD
  have hK : va_K (dC, dI) classes [(k_M, .long), (k_P, .int)] s := hK
  refine W.widen (k := 2) (n := 16) (Nat.le_refl _) (Nat.le_refl _) ?_
  refine va_putF (D := (dC, dI)) (ci := 1) (v := .ref h_P) (ty := .array .int) (C := "RoundedNumbers") (T := F_X) (N := 8) hx hb hts in_X t_X t_X_ok n_X hown hK hP hD hS 0 rfl rfl 1 (by decide) (hts _ tw_44) (fun _ h9 => h9) rfl hin rfl (by decide +kernel) rfl rfl (Nat.le_of_ble_eq_true rfl) d_X_init_17 (fun H locs hP hD hS => ?_)
  have hP : va_P (dC, dI) classes [(h_X, .inr (1, [.ref h_M, .ref h_P, .int 0, .int 0, .int 0, .null, .null, .null])), cL h_M k_M 8 (fun _ => 0), cI h_P k_P 8 (fun _ => 0)] H := hP
  have hD : va_D A [(h_X, .inr (1, [.ref h_M, .ref h_P, .int 0, .int 0, .int 0, .null, .null, .null])), cL h_M k_M 8 (fun _ => 0), cI h_P k_P 8 (fun _ => 0)] := hD
  refine lv_aload_n hx hb d_X_init_20 rfl (lv_at hl 0 rfl) ?_
  refine va_new (ci := 0) (fs := [.int 0, .long 0, .long 0, .int 0, .int 0]) (C := "RoundedNumbers$Exact") (T := F_E) (N := 5) hx hb hts in_E t_E t_E_ok hown (hts _ tw_15) (hts _ tw_16) (hts _ tw_2) hK hP hD hS hA rfl (fun j hj => by rcases (show j = 0 ∨ j = 1 ∨ j = 2 ∨ j = 3 ∨ j = 4 by omega) with rfl | rfl | rfl | rfl | rfl <;> rfl) (Nat.le_of_ble_eq_true rfl) (Nat.le_of_ble_eq_true rfl) d_X_init_21 (fun h_E1 H hP hD hS => ?_)
  have hP : va_P (dC, dI) classes [(h_X, .inr (1, [.ref h_M, .ref h_P, .int 0, .int 0, .int 0, .null, .null, .null])), cL h_M k_M 8 (fun _ => 0), cI h_P k_P 8 (fun _ => 0), cE h_E1 0 0 0 0 0] H := hP
  have hD : va_D A [(h_X, .inr (1, [.ref h_M, .ref h_P, .int 0, .int 0, .int 0, .null, .null, .null])), cL h_M k_M 8 (fun _ => 0), cI h_P k_P 8 (fun _ => 0), cE h_E1 0 0 0 0 0] := hD
  refine W.widen (k := 3) (n := 21) (Nat.le_refl _) (Nat.le_refl _) ?_
  refine lv_dup hx hb d_X_init_24 rfl ?_
  have hPc := hP.sub (ws' := [cE h_E1 0 0 0 0 0]) [3] rfl
  have hDc := hD.sub (ws' := [cE h_E1 0 0 0 0 0]) [3] (by decide) rfl
  have hKc := hK.sub (tys' := []) [] rfl
  have hFc := va_free (wc := [cE h_E1 0 0 0 0 0]) hD hS hA [3] rfl
  refine va_callv (va_runIN (As := []) (rest := [.ref h_E1, .ref h_X]) ⟨hx, hb, hml, hown, hts⟩ (c_E_init l dC dI h_E1 H.size 0 0 0 0 0) ⟨va_cnB (host := "RoundedNumbers") 0 hts (gw tw_19) rfl rfl rfl hNw (hts _ tw_2) (by decide +kernel) ⟨Nat.le_of_ble_eq_true rfl, Nat.le_of_ble_eq_true rfl⟩, rfl, hts _ tw_18⟩ ⟨fun a U g mk q => by obtain ⟨q0, q1, qP, qK, qD⟩ := q; exact ⟨q0, q1, qP, va_K.moved (u := U) (U := U.calling g mk a) (Vm.Alike.refl U.vm) qK, qD⟩, fun U hU hW => ⟨rfl, by rw [hU], by rw [hU]; exact hPc, va_K.moved hW.alike hKc, hDc.weaken (fun _ _ _ _ => trivial)⟩⟩ rfl rfl hl.1 rfl (lv_room (Nat.le_of_ble_eq_true rfl)) d_X_init_25 ⟨Nat.le_of_ble_eq_true rfl, Nat.le_of_ble_eq_true rfl⟩) hS (fun q _ h => hFc q h) hFc (fun u t H1 locs ht hvm hw hB hz1 hk1 hS => ?_)
  obtain ⟨hP1, hK1, hD1⟩ := hB
  rw [ht] at hP1
  obtain ⟨hP, hD⟩ := va_join (wr := [(h_X, .inr (1, [.ref h_M, .ref h_P, .int 0, .int 0, .int 0, .null, .null, .null])), cL h_M k_M 8 (fun _ => 0), cI h_P k_P 8 (fun _ => 0)]) (w1 := [cE h_E1 0 0 0 0 0]) hP hD [3] [0, 1, 2] rfl rfl (by decide) (by decide) hk1 hFc hP1 hD1
  generalize H1 = H at hP hS ⊢
  have hP : va_P (dC, dI) classes [(h_X, .inr (1, [.ref h_M, .ref h_P, .int 0, .int 0, .int 0, .null, .null, .null])), cL h_M k_M 8 (fun _ => 0), cI h_P k_P 8 (fun _ => 0), cE h_E1 0 0 0 0 0] H := hP
  have hD : va_D A [(h_X, .inr (1, [.ref h_M, .ref h_P, .int 0, .int 0, .int 0, .null, .null, .null])), cL h_M k_M 8 (fun _ => 0), cI h_P k_P 8 (fun _ => 0), cE h_E1 0 0 0 0 0] := hD
  refine W.widen (k := 3) (n := 21) (Nat.le_refl _) (Nat.le_refl _) ?_
  refine va_putF (D := (dC, dI)) (ci := 1) (v := .ref h_E1) (ty := .object "RoundedNumbers$Exact") (C := "RoundedNumbers") (T := F_X) (N := 8) hx hb hts in_X t_X t_X_ok n_X hown hK hP hD hS 0 rfl rfl 5 (by decide) (hts _ tw_48) (fun _ h9 => h9) rfl hin rfl (by decide +kernel) rfl rfl (Nat.le_of_ble_eq_true rfl) d_X_init_28 (fun H locs hP hD hS => ?_)
  have hP : va_P (dC, dI) classes [(h_X, .inr (1, [.ref h_M, .ref h_P, .int 0, .int 0, .int 0, .ref h_E1, .null, .null])), cL h_M k_M 8 (fun _ => 0), cI h_P k_P 8 (fun _ => 0), cE h_E1 0 0 0 0 0] H := hP
  have hD : va_D A [(h_X, .inr (1, [.ref h_M, .ref h_P, .int 0, .int 0, .int 0, .ref h_E1, .null, .null])), cL h_M k_M 8 (fun _ => 0), cI h_P k_P 8 (fun _ => 0), cE h_E1 0 0 0 0 0] := hD
  refine lv_aload_n hx hb d_X_init_31 rfl (lv_at hl 0 rfl) ?_
  refine va_new (ci := 0) (fs := [.int 0, .long 0, .long 0, .int 0, .int 0]) (C := "RoundedNumbers$Exact") (T := F_E) (N := 5) hx hb hts in_E t_E t_E_ok hown (hts _ tw_15) (hts _ tw_16) (hts _ tw_2) hK hP hD hS hA rfl (fun j hj => by rcases (show j = 0 ∨ j = 1 ∨ j = 2 ∨ j = 3 ∨ j = 4 by omega) with rfl | rfl | rfl | rfl | rfl <;> rfl) (Nat.le_of_ble_eq_true rfl) (Nat.le_of_ble_eq_true rfl) d_X_init_32 (fun h_E2 H hP hD hS => ?_)
  have hP : va_P (dC, dI) classes [(h_X, .inr (1, [.ref h_M, .ref h_P, .int 0, .int 0, .int 0, .ref h_E1, .null, .null])), cL h_M k_M 8 (fun _ => 0), cI h_P k_P 8 (fun _ => 0), cE h_E1 0 0 0 0 0, cE h_E2 0 0 0 0 0] H := hP
  have hD : va_D A [(h_X, .inr (1, [.ref h_M, .ref h_P, .int 0, .int 0, .int 0, .ref h_E1, .null, .null])), cL h_M k_M 8 (fun _ => 0), cI h_P k_P 8 (fun _ => 0), cE h_E1 0 0 0 0 0, cE h_E2 0 0 0 0 0] := hD
  refine W.widen (k := 4) (n := 26) (Nat.le_refl _) (Nat.le_refl _) ?_
  refine lv_dup hx hb d_X_init_35 rfl ?_
  have hPc := hP.sub (ws' := [cE h_E2 0 0 0 0 0]) [4] rfl
  have hDc := hD.sub (ws' := [cE h_E2 0 0 0 0 0]) [4] (by decide) rfl
  have hKc := hK.sub (tys' := []) [] rfl
  have hFc := va_free (wc := [cE h_E2 0 0 0 0 0]) hD hS hA [4] rfl
  refine va_callv (va_runIN (As := []) (rest := [.ref h_E2, .ref h_X]) ⟨hx, hb, hml, hown, hts⟩ (c_E_init l dC dI h_E2 H.size 0 0 0 0 0) ⟨va_cnB (host := "RoundedNumbers") 0 hts (gw tw_19) rfl rfl rfl hNw (hts _ tw_2) (by decide +kernel) ⟨Nat.le_of_ble_eq_true rfl, Nat.le_of_ble_eq_true rfl⟩, rfl, hts _ tw_18⟩ ⟨fun a U g mk q => by obtain ⟨q0, q1, qP, qK, qD⟩ := q; exact ⟨q0, q1, qP, va_K.moved (u := U) (U := U.calling g mk a) (Vm.Alike.refl U.vm) qK, qD⟩, fun U hU hW => ⟨rfl, by rw [hU], by rw [hU]; exact hPc, va_K.moved hW.alike hKc, hDc.weaken (fun _ _ _ _ => trivial)⟩⟩ rfl rfl hl.1 rfl (lv_room (Nat.le_of_ble_eq_true rfl)) d_X_init_36 ⟨Nat.le_of_ble_eq_true rfl, Nat.le_of_ble_eq_true rfl⟩) hS (fun q _ h => hFc q h) hFc (fun u t H1 locs ht hvm hw hB hz1 hk1 hS => ?_)
  obtain ⟨hP1, hK1, hD1⟩ := hB
  rw [ht] at hP1
  obtain ⟨hP, hD⟩ := va_join (wr := [(h_X, .inr (1, [.ref h_M, .ref h_P, .int 0, .int 0, .int 0, .ref h_E1, .null, .null])), cL h_M k_M 8 (fun _ => 0), cI h_P k_P 8 (fun _ => 0), cE h_E1 0 0 0 0 0]) (w1 := [cE h_E2 0 0 0 0 0]) hP hD [4] [0, 1, 2, 3] rfl rfl (by decide) (by decide) hk1 hFc hP1 hD1
  generalize H1 = H at hP hS ⊢
  have hP : va_P (dC, dI) classes [(h_X, .inr (1, [.ref h_M, .ref h_P, .int 0, .int 0, .int 0, .ref h_E1, .null, .null])), cL h_M k_M 8 (fun _ => 0), cI h_P k_P 8 (fun _ => 0), cE h_E1 0 0 0 0 0, cE h_E2 0 0 0 0 0] H := hP
  have hD : va_D A [(h_X, .inr (1, [.ref h_M, .ref h_P, .int 0, .int 0, .int 0, .ref h_E1, .null, .null])), cL h_M k_M 8 (fun _ => 0), cI h_P k_P 8 (fun _ => 0), cE h_E1 0 0 0 0 0, cE h_E2 0 0 0 0 0] := hD
  refine W.widen (k := 4) (n := 26) (Nat.le_refl _) (Nat.le_refl _) ?_
  refine va_putF (D := (dC, dI)) (ci := 1) (v := .ref h_E2) (ty := .object "RoundedNumbers$Exact") (C := "RoundedNumbers") (T := F_X) (N := 8) hx hb hts in_X t_X t_X_ok n_X hown hK hP hD hS 0 rfl rfl 6 (by decide) (hts _ tw_49) (fun _ h9 => h9) rfl hin rfl (by decide +kernel) rfl rfl (Nat.le_of_ble_eq_true rfl) d_X_init_39 (fun H locs hP hD hS => ?_)
  have hP : va_P (dC, dI) classes [(h_X, .inr (1, [.ref h_M, .ref h_P, .int 0, .int 0, .int 0, .ref h_E1, .ref h_E2, .null])), cL h_M k_M 8 (fun _ => 0), cI h_P k_P 8 (fun _ => 0), cE h_E1 0 0 0 0 0, cE h_E2 0 0 0 0 0] H := hP
  have hD : va_D A [(h_X, .inr (1, [.ref h_M, .ref h_P, .int 0, .int 0, .int 0, .ref h_E1, .ref h_E2, .null])), cL h_M k_M 8 (fun _ => 0), cI h_P k_P 8 (fun _ => 0), cE h_E1 0 0 0 0 0, cE h_E2 0 0 0 0 0] := hD
  refine lv_aload_n hx hb d_X_init_42 rfl (lv_at hl 0 rfl) ?_
  refine va_new (ci := 0) (fs := [.int 0, .long 0, .long 0, .int 0, .int 0]) (C := "RoundedNumbers$Exact") (T := F_E) (N := 5) hx hb hts in_E t_E t_E_ok hown (hts _ tw_15) (hts _ tw_16) (hts _ tw_2) hK hP hD hS hA rfl (fun j hj => by rcases (show j = 0 ∨ j = 1 ∨ j = 2 ∨ j = 3 ∨ j = 4 by omega) with rfl | rfl | rfl | rfl | rfl <;> rfl) (Nat.le_of_ble_eq_true rfl) (Nat.le_of_ble_eq_true rfl) d_X_init_43 (fun h_E3 H hP hD hS => ?_)
  have hP : va_P (dC, dI) classes [(h_X, .inr (1, [.ref h_M, .ref h_P, .int 0, .int 0, .int 0, .ref h_E1, .ref h_E2, .null])), cL h_M k_M 8 (fun _ => 0), cI h_P k_P 8 (fun _ => 0), cE h_E1 0 0 0 0 0, cE h_E2 0 0 0 0 0, cE h_E3 0 0 0 0 0] H := hP
  have hD : va_D A [(h_X, .inr (1, [.ref h_M, .ref h_P, .int 0, .int 0, .int 0, .ref h_E1, .ref h_E2, .null])), cL h_M k_M 8 (fun _ => 0), cI h_P k_P 8 (fun _ => 0), cE h_E1 0 0 0 0 0, cE h_E2 0 0 0 0 0, cE h_E3 0 0 0 0 0] := hD
  refine W.widen (k := 5) (n := 31) (Nat.le_refl _) (Nat.le_refl _) ?_
  refine lv_dup hx hb d_X_init_46 rfl ?_
  have hPc := hP.sub (ws' := [cE h_E3 0 0 0 0 0]) [5] rfl
  have hDc := hD.sub (ws' := [cE h_E3 0 0 0 0 0]) [5] (by decide) rfl
  have hKc := hK.sub (tys' := []) [] rfl
  have hFc := va_free (wc := [cE h_E3 0 0 0 0 0]) hD hS hA [5] rfl
  refine va_callv (va_runIN (As := []) (rest := [.ref h_E3, .ref h_X]) ⟨hx, hb, hml, hown, hts⟩ (c_E_init l dC dI h_E3 H.size 0 0 0 0 0) ⟨va_cnB (host := "RoundedNumbers") 0 hts (gw tw_19) rfl rfl rfl hNw (hts _ tw_2) (by decide +kernel) ⟨Nat.le_of_ble_eq_true rfl, Nat.le_of_ble_eq_true rfl⟩, rfl, hts _ tw_18⟩ ⟨fun a U g mk q => by obtain ⟨q0, q1, qP, qK, qD⟩ := q; exact ⟨q0, q1, qP, va_K.moved (u := U) (U := U.calling g mk a) (Vm.Alike.refl U.vm) qK, qD⟩, fun U hU hW => ⟨rfl, by rw [hU], by rw [hU]; exact hPc, va_K.moved hW.alike hKc, hDc.weaken (fun _ _ _ _ => trivial)⟩⟩ rfl rfl hl.1 rfl (lv_room (Nat.le_of_ble_eq_true rfl)) d_X_init_47 ⟨Nat.le_of_ble_eq_true rfl, Nat.le_of_ble_eq_true rfl⟩) hS (fun q _ h => hFc q h) hFc (fun u t H1 locs ht hvm hw hB hz1 hk1 hS => ?_)
  obtain ⟨hP1, hK1, hD1⟩ := hB
  rw [ht] at hP1
  obtain ⟨hP, hD⟩ := va_join (wr := [(h_X, .inr (1, [.ref h_M, .ref h_P, .int 0, .int 0, .int 0, .ref h_E1, .ref h_E2, .null])), cL h_M k_M 8 (fun _ => 0), cI h_P k_P 8 (fun _ => 0), cE h_E1 0 0 0 0 0, cE h_E2 0 0 0 0 0]) (w1 := [cE h_E3 0 0 0 0 0]) hP hD [5] [0, 1, 2, 3, 4] rfl rfl (by decide) (by decide) hk1 hFc hP1 hD1
  generalize H1 = H at hP hS ⊢
  have hP : va_P (dC, dI) classes [(h_X, .inr (1, [.ref h_M, .ref h_P, .int 0, .int 0, .int 0, .ref h_E1, .ref h_E2, .null])), cL h_M k_M 8 (fun _ => 0), cI h_P k_P 8 (fun _ => 0), cE h_E1 0 0 0 0 0, cE h_E2 0 0 0 0 0, cE h_E3 0 0 0 0 0] H := hP
  have hD : va_D A [(h_X, .inr (1, [.ref h_M, .ref h_P, .int 0, .int 0, .int 0, .ref h_E1, .ref h_E2, .null])), cL h_M k_M 8 (fun _ => 0), cI h_P k_P 8 (fun _ => 0), cE h_E1 0 0 0 0 0, cE h_E2 0 0 0 0 0, cE h_E3 0 0 0 0 0] := hD
  refine W.widen (k := 5) (n := 31) (Nat.le_refl _) (Nat.le_refl _) ?_
  refine va_putF (D := (dC, dI)) (ci := 1) (v := .ref h_E3) (ty := .object "RoundedNumbers$Exact") (C := "RoundedNumbers") (T := F_X) (N := 8) hx hb hts in_X t_X t_X_ok n_X hown hK hP hD hS 0 rfl rfl 7 (by decide) (hts _ tw_50) (fun _ h9 => h9) rfl hin rfl (by decide +kernel) rfl rfl (Nat.le_of_ble_eq_true rfl) d_X_init_50 (fun H locs hP hD hS => ?_)
  have hP : va_P (dC, dI) classes [(h_X, .inr (1, [.ref h_M, .ref h_P, .int 0, .int 0, .int 0, .ref h_E1, .ref h_E2, .ref h_E3])), cL h_M k_M 8 (fun _ => 0), cI h_P k_P 8 (fun _ => 0), cE h_E1 0 0 0 0 0, cE h_E2 0 0 0 0 0, cE h_E3 0 0 0 0 0] H := hP
  have hD : va_D A [(h_X, .inr (1, [.ref h_M, .ref h_P, .int 0, .int 0, .int 0, .ref h_E1, .ref h_E2, .ref h_E3])), cL h_M k_M 8 (fun _ => 0), cI h_P k_P 8 (fun _ => 0), cE h_E1 0 0 0 0 0, cE h_E2 0 0 0 0 0, cE h_E3 0 0 0 0 0] := hD
  have hP9 : va_P (dC, dI) classes [cX h_X h_M h_P h_E1 h_E2 h_E3 0 0 0, cL h_M k_M 8 (fun _ => 0), cI h_P k_P 8 (fun _ => 0), cE h_E1 0 0 0 0 0, cE h_E2 0 0 0 0 0, cE h_E3 0 0 0 0 0] H := hP
  have hD9 : va_D A [cX h_X h_M h_P h_E1 h_E2 h_E3 0 0 0, cL h_M k_M 8 (fun _ => 0), cI h_P k_P 8 (fun _ => 0), cE h_E1 0 0 0 0 0, cE h_E2 0 0 0 0 0, cE h_E3 0 0 0 0 0] := hD
  exact W.vret hx hb hr (fun t ht hW => ⟨⟨(), rfl, trivial, h_M, h_P, h_E1, h_E2, h_E3, k_M, k_P, by rw [ht]; exact hP9, va_K.moved hW.alike hK, hD9⟩, hS.F ht⟩) hS.2.2 d_X_init_53
set_option maxHeartbeats 4000000 in
set_option maxRecDepth 100000 in
theorem c_Y_init (l : Launch) (dC : Nat → ClassId) (dI : Nat → Nat → Nat) (h_Y sz : Nat) : Met l y_Y_init w_Y_init ({ frames := 1, cells := 5, slots := 84, locals := 12 } : Room) (va_Pc [.ref h_Y] (fun U => U.heap.size = sz ∧ va_P (dC, dI) classes [(h_Y, .inr (2, [.null, .null, .null, .int 0, .int 0, .int 0, .null, .null, .long 0, .int 0, .int 0]))] U.heap ∧ va_K (dC, dI) classes [] U ∧ va_D (fun _ => True) [(h_Y, .inr (2, [.null, .null, .null, .int 0, .int 0, .int 0, .null, .null, .long 0, .int 0, .int 0]))])) (va_Qv (fun _ : Unit => True) (fun (_ : Unit) (t : State) => ∃ (h_O h_N h_B h_G h_K : Nat) (k_O k_N k_B k_G k_K : ClassId), va_P (dC, dI) classes [cY h_Y h_O h_N h_B h_G h_K 0 0 0 0 0 0, cL h_O k_O 8 (fun _ => 0), cI h_N k_N 8 (fun _ => 0), cI h_B k_B 8 (fun _ => 0), cI h_G k_G 30 (fun _ => 0), cI h_K k_K 30 (fun _ => 0)] t.heap ∧ va_K (dC, dI) classes [(k_O, .long), (k_N, .int), (k_B, .boolean), (k_G, .int), (k_K, .int)] t ∧ va_D (va_A [(h_Y, .inr (2, [.null, .null, .null, .int 0, .int 0, .int 0, .null, .null, .long 0, .int 0, .int 0]))] sz) [cY h_Y h_O h_N h_B h_G h_K 0 0 0 0 0 0, cL h_O k_O 8 (fun _ => 0), cI h_N k_N 8 (fun _ => 0), cI h_B k_B 8 (fun _ => 0), cI h_G k_G 30 (fun _ => 0), cI h_K k_K 30 (fun _ => 0)]) (va_A [(h_Y, .inr (2, [.null, .null, .null, .int 0, .int 0, .int 0, .null, .null, .long 0, .int 0, .int 0]))] sz)) 5 84 (va_A [(h_Y, .inr (2, [.null, .null, .null, .int 0, .int 0, .int 0, .null, .null, .long 0, .int 0, .int 0]))] sz) := by
  refine Met.ofW (cc := prog_4_method_1_code) (maxL := 1) (ret := none) (by decide) rfl ?_
  intro p e s m args below meth c s₁ B hml hv
  obtain ⟨rfl, hsz, hP, hK, hD0⟩ := hv
  have hx := B.exec
  have hb := B.bytes
  have hr := B.returns
  have hts0 := atoms_spec (ws := w_Y_init) B.pre
  have hts : ∀ w ∈ tb, w.before _ s = true := fun w h => hts0 w (List.mem_cons_of_mem _ h)
  clear hts0
  have hown : s.vm.findClass "RoundedNumbersModel" = some m.cls := findClass_of_methodNamed B.named
  have hlocks := B.notSynchronized
  have hin : meth.name = "<init>" := (name_of_methodNamed B.named B.method).1
  subst hsz
  have hD := hD0.self (sz := s.heap.size)
  generalize hAe : va_A [(h_Y, .inr (2, [.null, .null, .null, .int 0, .int 0, .int 0, .null, .null, .long 0, .int 0, .int 0]))] s.heap.size = A at hD ⊢
  have hA : ∀ q : Nat, s.heap.size ≤ q → A q := fun q h => by rw [← hAe]; exact Or.inr h
  clear hAe
  have hS : va_S A s.heap s.heap [] := va_S.rf
  have hP : va_P (dC, dI) classes [(h_Y, .inr (2, [.null, .null, .null, .int 0, .int 0, .int 0, .null, .null, .long 0, .int 0, .int 0]))] s.heap := hP
  have hl := lv_entry ([.ref h_Y]) (n := 1) (Nat.le_of_ble_eq_true rfl)
  rw [lg_entry_eq]
  generalize (lg_sl ([.ref h_Y]) ++ List.replicate (1 - (lg_sl ([.ref h_Y])).length) Slot.unset).toArray = ls at hl ⊢
  have hl : lv_has ls 1 [(0, .ref h_Y)] := hl
  refine lv_aload_n hx hb d_Y_init_0 rfl (lv_at hl 0 rfl) ?_
  refine W.objInit hx hb hown (hts _ tw_313) (hts _ tw_13) (hts _ tw_14) rfl (by rw [hml]; exact hl.1) rfl d_Y_init_1 (Nat.le_of_ble_eq_true rfl) (Nat.le_of_ble_eq_true rfl) ?_
  refine W.eq (g2 := F0 m 4 ls []) rfl ?_
  refine lv_aload_n hx hb d_Y_init_4 rfl (lv_at hl 0 rfl) ?_
  refine lv_bipush (v := (8 : Int32)) hx hb d_Y_init_5 (by decide) ?_
  refine va_newa (atype := .long) (ty := .long) (N' := 8) (a0 := (8, .inr (.inl (fun _ => 0)))) hx hb (hts _ tw_41) rfl hK hP hD hS hA (fun _ => rfl) (by decide) (by decide) (by decide) (Nat.le_of_ble_eq_true rfl) (Nat.le_of_ble_eq_true rfl) d_Y_init_7 (fun h_O k_O H hK hP hD hS => ?_)
  have hP : va_P (dC, dI) classes [(h_Y, .inr (2, [.null, .null, .null, .int 0, .int 0, .int 0, .null, .null, .long 0, .int 0, .int 0])), cL h_O k_O 8 (fun _ => 0)] H := hP
  have hD : va_D A [(h_Y, .inr (2, [.null, .null, .null, .int 0, .int 0, .int 0, .null, .null, .long 0, .int 0, .int 0])), cL h_O k_O 8 (fun _ => 0)] := hD
  have hK : va_K (dC, dI) classes [(k_O, .long)] s := hK
  refine W.widen (k := 1) (n := 8) (Nat.le_refl _) (Nat.le_refl _) ?_
  refine va_putF (D := (dC, dI)) (ci := 2) (v := .ref h_O) (ty := .array .long) (C := "RoundedNumbersModel") (T := F_Y) (N := 11) hx hb hts in_Y t_Y t_Y_ok n_Y hown hK hP hD hS 0 rfl rfl 0 (by decide) (hts _ tw_314) (fun _ h9 => h9) rfl hin rfl (by decide +kernel) rfl rfl (Nat.le_of_ble_eq_true rfl) d_Y_init_9 (fun H locs hP hD hS => ?_)
  have hP : va_P (dC, dI) classes [(h_Y, .inr (2, [.ref h_O, .null, .null, .int 0, .int 0, .int 0, .null, .null, .long 0, .int 0, .int 0])), cL h_O k_O 8 (fun _ => 0)] H := hP
  have hD : va_D A [(h_Y, .inr (2, [.ref h_O, .null, .null, .int 0, .int 0, .int 0, .null, .null, .long 0, .int 0, .int 0])), cL h_O k_O 8 (fun _ => 0)] := hD
  refine lv_aload_n hx hb d_Y_init_12 rfl (lv_at hl 0 rfl) ?_
  refine lv_bipush (v := (8 : Int32)) hx hb d_Y_init_13 (by decide) ?_
  refine va_newa (atype := .int) (ty := .int) (N' := 8) (a0 := (8, .inl (fun _ => 0))) hx hb (hts _ tw_42) rfl hK hP hD hS hA (fun _ => rfl) (by decide) (by decide) (by decide) (Nat.le_of_ble_eq_true rfl) (Nat.le_of_ble_eq_true rfl) d_Y_init_15 (fun h_N k_N H hK hP hD hS => ?_)
  have hP : va_P (dC, dI) classes [(h_Y, .inr (2, [.ref h_O, .null, .null, .int 0, .int 0, .int 0, .null, .null, .long 0, .int 0, .int 0])), cL h_O k_O 8 (fun _ => 0), cI h_N k_N 8 (fun _ => 0)] H := hP
  have hD : va_D A [(h_Y, .inr (2, [.ref h_O, .null, .null, .int 0, .int 0, .int 0, .null, .null, .long 0, .int 0, .int 0])), cL h_O k_O 8 (fun _ => 0), cI h_N k_N 8 (fun _ => 0)] := hD
  have hK : va_K (dC, dI) classes [(k_O, .long), (k_N, .int)] s := hK
  refine W.widen (k := 2) (n := 16) (Nat.le_refl _) (Nat.le_refl _) ?_
  refine va_putF (D := (dC, dI)) (ci := 2) (v := .ref h_N) (ty := .array .int) (C := "RoundedNumbersModel") (T := F_Y) (N := 11) hx hb hts in_Y t_Y t_Y_ok n_Y hown hK hP hD hS 0 rfl rfl 1 (by decide) (hts _ tw_315) (fun _ h9 => h9) rfl hin rfl (by decide +kernel) rfl rfl (Nat.le_of_ble_eq_true rfl) d_Y_init_17 (fun H locs hP hD hS => ?_)
  have hP : va_P (dC, dI) classes [(h_Y, .inr (2, [.ref h_O, .ref h_N, .null, .int 0, .int 0, .int 0, .null, .null, .long 0, .int 0, .int 0])), cL h_O k_O 8 (fun _ => 0), cI h_N k_N 8 (fun _ => 0)] H := hP
  have hD : va_D A [(h_Y, .inr (2, [.ref h_O, .ref h_N, .null, .int 0, .int 0, .int 0, .null, .null, .long 0, .int 0, .int 0])), cL h_O k_O 8 (fun _ => 0), cI h_N k_N 8 (fun _ => 0)] := hD
  refine lv_aload_n hx hb d_Y_init_20 rfl (lv_at hl 0 rfl) ?_
  refine lv_bipush (v := (8 : Int32)) hx hb d_Y_init_21 (by decide) ?_
  refine va_newa (atype := .boolean) (ty := .boolean) (N' := 8) (a0 := (8, .inl (fun _ => 0))) hx hb (hts _ tw_348) rfl hK hP hD hS hA (fun _ => rfl) (by decide) (by decide) (by decide) (Nat.le_of_ble_eq_true rfl) (Nat.le_of_ble_eq_true rfl) d_Y_init_23 (fun h_B k_B H hK hP hD hS => ?_)
  have hP : va_P (dC, dI) classes [(h_Y, .inr (2, [.ref h_O, .ref h_N, .null, .int 0, .int 0, .int 0, .null, .null, .long 0, .int 0, .int 0])), cL h_O k_O 8 (fun _ => 0), cI h_N k_N 8 (fun _ => 0), cI h_B k_B 8 (fun _ => 0)] H := hP
  have hD : va_D A [(h_Y, .inr (2, [.ref h_O, .ref h_N, .null, .int 0, .int 0, .int 0, .null, .null, .long 0, .int 0, .int 0])), cL h_O k_O 8 (fun _ => 0), cI h_N k_N 8 (fun _ => 0), cI h_B k_B 8 (fun _ => 0)] := hD
  have hK : va_K (dC, dI) classes [(k_O, .long), (k_N, .int), (k_B, .boolean)] s := hK
  refine W.widen (k := 3) (n := 24) (Nat.le_refl _) (Nat.le_refl _) ?_
  refine va_putF (D := (dC, dI)) (ci := 2) (v := .ref h_B) (ty := .array .boolean) (C := "RoundedNumbersModel") (T := F_Y) (N := 11) hx hb hts in_Y t_Y t_Y_ok n_Y hown hK hP hD hS 0 rfl rfl 2 (by decide) (hts _ tw_316) (fun _ h9 => h9) rfl hin rfl (by decide +kernel) rfl rfl (Nat.le_of_ble_eq_true rfl) d_Y_init_25 (fun H locs hP hD hS => ?_)
  have hP : va_P (dC, dI) classes [(h_Y, .inr (2, [.ref h_O, .ref h_N, .ref h_B, .int 0, .int 0, .int 0, .null, .null, .long 0, .int 0, .int 0])), cL h_O k_O 8 (fun _ => 0), cI h_N k_N 8 (fun _ => 0), cI h_B k_B 8 (fun _ => 0)] H := hP
  have hD : va_D A [(h_Y, .inr (2, [.ref h_O, .ref h_N, .ref h_B, .int 0, .int 0, .int 0, .null, .null, .long 0, .int 0, .int 0])), cL h_O k_O 8 (fun _ => 0), cI h_N k_N 8 (fun _ => 0), cI h_B k_B 8 (fun _ => 0)] := hD
  refine lv_aload_n hx hb d_Y_init_28 rfl (lv_at hl 0 rfl) ?_
  refine lv_bipush (v := (30 : Int32)) hx hb d_Y_init_29 (by decide) ?_
  refine va_newa (atype := .int) (ty := .int) (N' := 30) (a0 := (30, .inl (fun _ => 0))) hx hb (hts _ tw_42) rfl hK hP hD hS hA (fun _ => rfl) (by decide) (by decide) (by decide) (Nat.le_of_ble_eq_true rfl) (Nat.le_of_ble_eq_true rfl) d_Y_init_31 (fun h_G k_G H hK hP hD hS => ?_)
  have hP : va_P (dC, dI) classes [(h_Y, .inr (2, [.ref h_O, .ref h_N, .ref h_B, .int 0, .int 0, .int 0, .null, .null, .long 0, .int 0, .int 0])), cL h_O k_O 8 (fun _ => 0), cI h_N k_N 8 (fun _ => 0), cI h_B k_B 8 (fun _ => 0), cI h_G k_G 30 (fun _ => 0)] H := hP
  have hD : va_D A [(h_Y, .inr (2, [.ref h_O, .ref h_N, .ref h_B, .int 0, .int 0, .int 0, .null, .null, .long 0, .int 0, .int 0])), cL h_O k_O 8 (fun _ => 0), cI h_N k_N 8 (fun _ => 0), cI h_B k_B 8 (fun _ => 0), cI h_G k_G 30 (fun _ => 0)] := hD
  have hK : va_K (dC, dI) classes [(k_O, .long), (k_N, .int), (k_B, .boolean), (k_G, .int)] s := hK
  refine W.widen (k := 4) (n := 54) (Nat.le_refl _) (Nat.le_refl _) ?_
  refine va_putF (D := (dC, dI)) (ci := 2) (v := .ref h_G) (ty := .array .int) (C := "RoundedNumbersModel") (T := F_Y) (N := 11) hx hb hts in_Y t_Y t_Y_ok n_Y hown hK hP hD hS 0 rfl rfl 6 (by decide) (hts _ tw_320) (fun _ h9 => h9) rfl hin rfl (by decide +kernel) rfl rfl (Nat.le_of_ble_eq_true rfl) d_Y_init_33 (fun H locs hP hD hS => ?_)
  have hP : va_P (dC, dI) classes [(h_Y, .inr (2, [.ref h_O, .ref h_N, .ref h_B, .int 0, .int 0, .int 0, .ref h_G, .null, .long 0, .int 0, .int 0])), cL h_O k_O 8 (fun _ => 0), cI h_N k_N 8 (fun _ => 0), cI h_B k_B 8 (fun _ => 0), cI h_G k_G 30 (fun _ => 0)] H := hP
  have hD : va_D A [(h_Y, .inr (2, [.ref h_O, .ref h_N, .ref h_B, .int 0, .int 0, .int 0, .ref h_G, .null, .long 0, .int 0, .int 0])), cL h_O k_O 8 (fun _ => 0), cI h_N k_N 8 (fun _ => 0), cI h_B k_B 8 (fun _ => 0), cI h_G k_G 30 (fun _ => 0)] := hD
  refine lv_aload_n hx hb d_Y_init_36 rfl (lv_at hl 0 rfl) ?_
  refine lv_bipush (v := (30 : Int32)) hx hb d_Y_init_37 (by decide) ?_
  refine va_newa (atype := .int) (ty := .int) (N' := 30) (a0 := (30, .inl (fun _ => 0))) hx hb (hts _ tw_42) rfl hK hP hD hS hA (fun _ => rfl) (by decide) (by decide) (by decide) (Nat.le_of_ble_eq_true rfl) (Nat.le_of_ble_eq_true rfl) d_Y_init_39 (fun h_K k_K H hK hP hD hS => ?_)
  have hP : va_P (dC, dI) classes [(h_Y, .inr (2, [.ref h_O, .ref h_N, .ref h_B, .int 0, .int 0, .int 0, .ref h_G, .null, .long 0, .int 0, .int 0])), cL h_O k_O 8 (fun _ => 0), cI h_N k_N 8 (fun _ => 0), cI h_B k_B 8 (fun _ => 0), cI h_G k_G 30 (fun _ => 0), cI h_K k_K 30 (fun _ => 0)] H := hP
  have hD : va_D A [(h_Y, .inr (2, [.ref h_O, .ref h_N, .ref h_B, .int 0, .int 0, .int 0, .ref h_G, .null, .long 0, .int 0, .int 0])), cL h_O k_O 8 (fun _ => 0), cI h_N k_N 8 (fun _ => 0), cI h_B k_B 8 (fun _ => 0), cI h_G k_G 30 (fun _ => 0), cI h_K k_K 30 (fun _ => 0)] := hD
  have hK : va_K (dC, dI) classes [(k_O, .long), (k_N, .int), (k_B, .boolean), (k_G, .int), (k_K, .int)] s := hK
  refine W.widen (k := 5) (n := 84) (Nat.le_refl _) (Nat.le_refl _) ?_
  refine va_putF (D := (dC, dI)) (ci := 2) (v := .ref h_K) (ty := .array .int) (C := "RoundedNumbersModel") (T := F_Y) (N := 11) hx hb hts in_Y t_Y t_Y_ok n_Y hown hK hP hD hS 0 rfl rfl 7 (by decide) (hts _ tw_321) (fun _ h9 => h9) rfl hin rfl (by decide +kernel) rfl rfl (Nat.le_of_ble_eq_true rfl) d_Y_init_41 (fun H locs hP hD hS => ?_)
  have hP : va_P (dC, dI) classes [(h_Y, .inr (2, [.ref h_O, .ref h_N, .ref h_B, .int 0, .int 0, .int 0, .ref h_G, .ref h_K, .long 0, .int 0, .int 0])), cL h_O k_O 8 (fun _ => 0), cI h_N k_N 8 (fun _ => 0), cI h_B k_B 8 (fun _ => 0), cI h_G k_G 30 (fun _ => 0), cI h_K k_K 30 (fun _ => 0)] H := hP
  have hD : va_D A [(h_Y, .inr (2, [.ref h_O, .ref h_N, .ref h_B, .int 0, .int 0, .int 0, .ref h_G, .ref h_K, .long 0, .int 0, .int 0])), cL h_O k_O 8 (fun _ => 0), cI h_N k_N 8 (fun _ => 0), cI h_B k_B 8 (fun _ => 0), cI h_G k_G 30 (fun _ => 0), cI h_K k_K 30 (fun _ => 0)] := hD
  have hP9 : va_P (dC, dI) classes [cY h_Y h_O h_N h_B h_G h_K 0 0 0 0 0 0, cL h_O k_O 8 (fun _ => 0), cI h_N k_N 8 (fun _ => 0), cI h_B k_B 8 (fun _ => 0), cI h_G k_G 30 (fun _ => 0), cI h_K k_K 30 (fun _ => 0)] H := hP
  have hD9 : va_D A [cY h_Y h_O h_N h_B h_G h_K 0 0 0 0 0 0, cL h_O k_O 8 (fun _ => 0), cI h_N k_N 8 (fun _ => 0), cI h_B k_B 8 (fun _ => 0), cI h_G k_G 30 (fun _ => 0), cI h_K k_K 30 (fun _ => 0)] := hD
  exact W.vret hx hb hr (fun t ht hW => ⟨⟨(), rfl, trivial, h_O, h_N, h_B, h_G, h_K, k_O, k_N, k_B, k_G, k_K, by rw [ht]; exact hP9, va_K.moved hW.alike hK, hD9⟩, hS.F ht⟩) hS.2.2 d_Y_init_44
