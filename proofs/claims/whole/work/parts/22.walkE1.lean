set_option maxHeartbeats 4000000 in
set_option maxRecDepth 100000 in
theorem c_E_length (l : Launch) (dC : Nat → ClassId) (dI : Nat → Nat → Nat) (h_T : Nat) (sz : Nat) (T_sg : Int32) (T_hi : Int64) (T_lo : Int64) (T_pl : Int32) (T_mo : Int32) (o : Int32) (hF : f_E_length T_hi T_lo = some o) : Met l y_E_length w_E_length ({ frames := 2, cells := 0, slots := 0, locals := 43 } : Room) (va_Pc [.ref h_T] (fun U => U.heap.size = sz ∧ va_P (dC, dI) classes [cE h_T T_sg T_hi T_lo T_pl T_mo] U.heap ∧ va_K (dC, dI) classes [] U ∧ va_D (fun _ => True) [cE h_T T_sg T_hi T_lo T_pl T_mo])) (va_Qi (fun (r : Int32) (_ : Unit) => r = o) (fun (_ : Unit) (t : State) => va_P (dC, dI) classes [cE h_T T_sg T_hi T_lo T_pl T_mo] t.heap ∧ va_K (dC, dI) classes [] t ∧ va_D (va_A [cE h_T T_sg T_hi T_lo T_pl T_mo] sz) [cE h_T T_sg T_hi T_lo T_pl T_mo]) (va_A [cE h_T T_sg T_hi T_lo T_pl T_mo] sz)) 0 0 (va_A [cE h_T T_sg T_hi T_lo T_pl T_mo] sz) := by
  refine Met.ofW (cc := prog_2_method_10_code) (maxL := 1) (ret := (some .int)) (by decide) rfl ?_
  intro p e s m args below meth c s₁ B hml hv
  obtain ⟨rfl, hsz, hP, hK, hD0⟩ := hv
  have hx := B.exec
  have hb := B.bytes
  have hr := B.returns
  have hts0 := atoms_spec (ws := w_E_length) B.pre
  have hts : ∀ w ∈ tb, w.before _ s = true := fun w h => hts0 w (List.mem_cons_of_mem _ h)
  clear hts0
  have hown : s.vm.findClass "RoundedNumbers$Exact" = some m.cls := findClass_of_methodNamed B.named
  have hlocks := B.notSynchronized
  subst hsz
  have hD := hD0.self (sz := s.heap.size)
  generalize hAe : va_A [cE h_T T_sg T_hi T_lo T_pl T_mo] s.heap.size = A at hD ⊢
  have hA : ∀ q : Nat, s.heap.size ≤ q → A q := fun q h => by rw [← hAe]; exact Or.inr h
  clear hAe
  have hS : va_S A s.heap s.heap [] := va_S.rf
  have hP : va_P (dC, dI) classes [cE h_T T_sg T_hi T_lo T_pl T_mo] s.heap := hP
  have hl := lv_entry ([.ref h_T]) (n := 1) (Nat.le_of_ble_eq_true rfl)
  rw [lg_entry_eq]
  generalize (lg_sl ([.ref h_T]) ++ List.replicate (1 - (lg_sl ([.ref h_T])).length) Slot.unset).toArray = ls at hl ⊢
  have hl : lv_has ls 1 [(0, .ref h_T)] := hl
  unfold f_E_length at hF
  refine lv_aload_n hx hb d_E_length_0 rfl (lv_at hl 0 rfl) ?_
  refine va_get (D := (dC, dI)) (ci := 0) (v := .long T_hi) (C := "RoundedNumbers$Exact") (T := F_E) (N := 5) hx hb hts in_E hown hK hP 0 rfl rfl 1 (by decide) (hts _ tw_23) (fun _ h9 => h9) rfl d_E_length_1 ?_
  refine lv_lconst (v := (0 : Int64)) hx hb d_E_length_4 (by decide) ?_
  refine W.lcmp hx hb d_E_length_5 ?_
  refine lv_if_eq (tgt := 23) hx hb d_E_length_6 (by decide) (fun c_6 => ?_) (fun c_6 => ?_)
  · replace hF := hif_t c_6 hF
    refine lv_bipush (v := (64 : Int32)) hx hb d_E_length_23 (by decide) ?_
    refine lv_aload_n hx hb d_E_length_25 rfl (lv_at hl 0 rfl) ?_
    refine va_get (D := (dC, dI)) (ci := 0) (v := .long T_lo) (C := "RoundedNumbers$Exact") (T := F_E) (N := 5) hx hb hts in_E hown hK hP 0 rfl rfl 2 (by decide) (hts _ tw_25) (fun _ h9 => h9) rfl d_E_length_26 ?_
    obtain ⟨q_29, hC_29, hF⟩ := hbd hF
    have hPc := hP.sub (ws' := []) [] rfl
    have hDc := hD.sub (ws' := []) [] (by decide) rfl
    have hKc := hK.sub (tys' := []) [] rfl
    have hFc := va_free (wc := []) hD hS hA [] rfl
    refine va_calli (va_runS (As := [.long T_lo]) (rest := [.int (64 : Int32)]) ⟨hx, hb, hml, hown, hts⟩ (c_J_nlz l dC dI s.heap.size T_lo q_29 hC_29) (va_cwS 1 hts g_E_68_JL_numberOfLeadingZeros rfl rfl rfl (by decide +kernel) ⟨Nat.le_of_ble_eq_true rfl, Nat.le_of_ble_eq_true rfl⟩) ⟨fun a U g mk q => by obtain ⟨q0, q1, qP, qK, qD⟩ := q; exact ⟨q0, q1, qP, va_K.moved (u := U) (U := U.calling g mk a) (Vm.Alike.refl U.vm) qK, qD⟩, fun U hU hW => ⟨rfl, by rw [hU], by rw [hU]; exact hPc, va_K.moved hW.alike hKc, hDc.weaken (fun _ _ _ _ => trivial)⟩⟩ rfl rfl hl.1 rfl (lv_room (Nat.le_of_ble_eq_true rfl)) d_E_length_29 ⟨Nat.zero_le _, Nat.zero_le _⟩) hS (fun q _ h => hFc q h) hFc (fun r u t H1 locs ht hvm hw hB hz1 hk1 hS => ?_)
    obtain ⟨hP1, hK1, hD1⟩ := hB
    replace hw := hw.symm
    subst hw
    rw [ht] at hP1
    obtain ⟨hP, hD⟩ := va_join (wr := [cE h_T T_sg T_hi T_lo T_pl T_mo]) (w1 := []) hP hD [] [0] rfl rfl (by decide) (by decide) hk1 hFc hP1 hD1
    generalize H1 = H at hP hS ⊢
    have hP := hP.sub (ws' := [cE h_T T_sg T_hi T_lo T_pl T_mo]) [0] rfl
    have hD := hD.sub (ws' := [cE h_T T_sg T_hi T_lo T_pl T_mo]) [0] (by decide) rfl
    refine lv_isub hx hb d_E_length_32 ?_
    obtain rfl := Option.some.inj hF
    exact W.iret (v := ((64 : Int32) - q_29)) hx hb hr (fun t ht hW => ⟨⟨((64 : Int32) - q_29), (), rfl, rfl, by rw [ht]; exact hP, va_K.moved hW.alike hK, hD⟩, hS.F ht⟩) hS.2.2 d_E_length_33
  · replace hF := hif_f c_6 hF
    refine lv_sipush (v := (128 : Int32)) hx hb d_E_length_9 (by decide) ?_
    refine lv_aload_n hx hb d_E_length_12 rfl (lv_at hl 0 rfl) ?_
    refine va_get (D := (dC, dI)) (ci := 0) (v := .long T_hi) (C := "RoundedNumbers$Exact") (T := F_E) (N := 5) hx hb hts in_E hown hK hP 0 rfl rfl 1 (by decide) (hts _ tw_23) (fun _ h9 => h9) rfl d_E_length_13 ?_
    obtain ⟨q_16, hC_16, hF⟩ := hbd hF
    have hPc := hP.sub (ws' := []) [] rfl
    have hDc := hD.sub (ws' := []) [] (by decide) rfl
    have hKc := hK.sub (tys' := []) [] rfl
    have hFc := va_free (wc := []) hD hS hA [] rfl
    refine va_calli (va_runS (As := [.long T_hi]) (rest := [.int (128 : Int32)]) ⟨hx, hb, hml, hown, hts⟩ (c_J_nlz l dC dI s.heap.size T_hi q_16 hC_16) (va_cwS 1 hts g_E_68_JL_numberOfLeadingZeros rfl rfl rfl (by decide +kernel) ⟨Nat.le_of_ble_eq_true rfl, Nat.le_of_ble_eq_true rfl⟩) ⟨fun a U g mk q => by obtain ⟨q0, q1, qP, qK, qD⟩ := q; exact ⟨q0, q1, qP, va_K.moved (u := U) (U := U.calling g mk a) (Vm.Alike.refl U.vm) qK, qD⟩, fun U hU hW => ⟨rfl, by rw [hU], by rw [hU]; exact hPc, va_K.moved hW.alike hKc, hDc.weaken (fun _ _ _ _ => trivial)⟩⟩ rfl rfl hl.1 rfl (lv_room (Nat.le_of_ble_eq_true rfl)) d_E_length_16 ⟨Nat.zero_le _, Nat.zero_le _⟩) hS (fun q _ h => hFc q h) hFc (fun r u t H1 locs ht hvm hw hB hz1 hk1 hS => ?_)
    obtain ⟨hP1, hK1, hD1⟩ := hB
    replace hw := hw.symm
    subst hw
    rw [ht] at hP1
    obtain ⟨hP, hD⟩ := va_join (wr := [cE h_T T_sg T_hi T_lo T_pl T_mo]) (w1 := []) hP hD [] [0] rfl rfl (by decide) (by decide) hk1 hFc hP1 hD1
    generalize H1 = H at hP hS ⊢
    have hP := hP.sub (ws' := [cE h_T T_sg T_hi T_lo T_pl T_mo]) [0] rfl
    have hD := hD.sub (ws' := [cE h_T T_sg T_hi T_lo T_pl T_mo]) [0] (by decide) rfl
    refine lv_isub hx hb d_E_length_19 ?_
    refine lv_goto (tgt := 33) hx hb d_E_length_20 (by decide) ?_
    obtain rfl := Option.some.inj hF
    exact W.iret (v := ((128 : Int32) - q_16)) hx hb hr (fun t ht hW => ⟨⟨((128 : Int32) - q_16), (), rfl, rfl, by rw [ht]; exact hP, va_K.moved hW.alike hK, hD⟩, hS.F ht⟩) hS.2.2 d_E_length_33
set_option maxHeartbeats 4000000 in
set_option maxRecDepth 100000 in
theorem c_E_shiftUp (l : Launch) (dC : Nat → ClassId) (dI : Nat → Nat → Nat) (h_T : Nat) (sz : Nat) (T_sg : Int32) (T_hi : Int64) (T_lo : Int64) (T_pl : Int32) (T_mo : Int32) (a1 : Int32) (o : Int64 × Int64 × Int32) (hF : f_E_shiftUp T_hi T_lo T_pl a1 = some o) : Met l y_E_shiftUp w_E_shiftUp ({ frames := 0, cells := 0, slots := 0, locals := 0 } : Room) (va_Pc [.ref h_T, .int a1] (fun U => U.heap.size = sz ∧ va_P (dC, dI) classes [cE h_T T_sg T_hi T_lo T_pl T_mo] U.heap ∧ va_K (dC, dI) classes [] U ∧ va_D (fun _ => True) [cE h_T T_sg T_hi T_lo T_pl T_mo])) (va_Qv (fun _ : Unit => True) (fun (_ : Unit) (t : State) => va_P (dC, dI) classes [cE h_T T_sg o.1 o.2.1 o.2.2 T_mo] t.heap ∧ va_K (dC, dI) classes [] t ∧ va_D (va_A [cE h_T T_sg T_hi T_lo T_pl T_mo] sz) [cE h_T T_sg o.1 o.2.1 o.2.2 T_mo]) (va_A [cE h_T T_sg T_hi T_lo T_pl T_mo] sz)) 0 0 (va_A [cE h_T T_sg T_hi T_lo T_pl T_mo] sz) := by
  refine Met.ofW (cc := prog_2_method_12_code) (maxL := 2) (ret := none) (by decide) rfl ?_
  intro p e s m args below meth c s₁ B hml hv
  obtain ⟨rfl, hsz, hP, hK, hD0⟩ := hv
  have hx := B.exec
  have hb := B.bytes
  have hr := B.returns
  have hts0 := atoms_spec (ws := w_E_shiftUp) B.pre
  have hts : ∀ w ∈ tb, w.before _ s = true := fun w h => hts0 w (List.mem_cons_of_mem _ h)
  clear hts0
  have hown : s.vm.findClass "RoundedNumbers$Exact" = some m.cls := findClass_of_methodNamed B.named
  have hlocks := B.notSynchronized
  subst hsz
  have hD := hD0.self (sz := s.heap.size)
  generalize hAe : va_A [cE h_T T_sg T_hi T_lo T_pl T_mo] s.heap.size = A at hD ⊢
  have hA : ∀ q : Nat, s.heap.size ≤ q → A q := fun q h => by rw [← hAe]; exact Or.inr h
  clear hAe
  have hS : va_S A s.heap s.heap [] := va_S.rf
  have hP : va_P (dC, dI) classes [cE h_T T_sg T_hi T_lo T_pl T_mo] s.heap := hP
  have hl := lv_entry ([.ref h_T, .int a1]) (n := 2) (Nat.le_of_ble_eq_true rfl)
  rw [lg_entry_eq]
  generalize (lg_sl ([.ref h_T, .int a1]) ++ List.replicate (2 - (lg_sl ([.ref h_T, .int a1])).length) Slot.unset).toArray = ls at hl ⊢
  have hl : lv_has ls 2 [(0, .ref h_T), (1, .int a1)] := hl
  unfold f_E_shiftUp at hF
  refine lv_iload_n hx hb d_E_shiftUp_0 rfl (lv_at hl 1 rfl) ?_
  refine lv_bipush (v := (64 : Int32)) hx hb d_E_shiftUp_1 (by decide) ?_
  refine lv_icmp_lt (tgt := 27) hx hb d_E_shiftUp_3 (by decide) (fun c_3 => ?_) (fun c_3 => ?_)
  · replace hF := hif_t c_3 hF
    refine lv_iload_n hx hb d_E_shiftUp_27 rfl (lv_at hl 1 rfl) ?_
    refine lv_if_le (tgt := 61) hx hb d_E_shiftUp_28 (by decide) (fun c_28 => ?_) (fun c_28 => ?_)
    · replace hF := hif_t c_28 hF
      refine lv_aload_n hx hb d_E_shiftUp_61 rfl (lv_at hl 0 rfl) ?_
      refine lv_dup hx hb d_E_shiftUp_62 rfl ?_
      refine va_get (D := (dC, dI)) (ci := 0) (v := .int T_pl) (C := "RoundedNumbers$Exact") (T := F_E) (N := 5) hx hb hts in_E hown hK hP 0 rfl rfl 3 (by decide) (hts _ tw_27) (fun _ h9 => h9) rfl d_E_shiftUp_63 ?_
      refine lv_iload_n hx hb d_E_shiftUp_66 rfl (lv_at hl 1 rfl) ?_
      refine lv_isub hx hb d_E_shiftUp_67 ?_
      refine va_put (D := (dC, dI)) (ci := 0) (v := .int (T_pl - a1)) (ty := .int) (C := "RoundedNumbers$Exact") (T := F_E) (N := 5) hx hb hts in_E t_E t_E_ok n_E hown hK hP hD hS 0 rfl rfl 3 (by decide) (hts _ tw_27) (fun _ h9 => h9) rfl (by decide +kernel) rfl rfl (Nat.le_of_ble_eq_true rfl) d_E_shiftUp_68 (fun H locs hP hD hS => ?_)
      have hP : va_P (dC, dI) classes [cE h_T T_sg T_hi T_lo (T_pl - a1) T_mo] H := hP
      have hD : va_D A [cE h_T T_sg T_hi T_lo (T_pl - a1) T_mo] := hD
      obtain rfl := Option.some.inj hF
      exact W.vret hx hb hr (fun t ht hW => ⟨⟨(), rfl, trivial, by rw [ht]; exact hP, va_K.moved hW.alike hK, hD⟩, hS.F ht⟩) hS.2.2 d_E_shiftUp_71
    · replace hF := hif_f c_28 hF
      refine lv_aload_n hx hb d_E_shiftUp_31 rfl (lv_at hl 0 rfl) ?_
      refine lv_aload_n hx hb d_E_shiftUp_32 rfl (lv_at hl 0 rfl) ?_
      refine va_get (D := (dC, dI)) (ci := 0) (v := .long T_hi) (C := "RoundedNumbers$Exact") (T := F_E) (N := 5) hx hb hts in_E hown hK hP 0 rfl rfl 1 (by decide) (hts _ tw_23) (fun _ h9 => h9) rfl d_E_shiftUp_33 ?_
      refine lv_iload_n hx hb d_E_shiftUp_36 rfl (lv_at hl 1 rfl) ?_
      refine lv_lshl (v := (jshl T_hi a1)) hx hb d_E_shiftUp_37 rfl ?_
      refine lv_aload_n hx hb d_E_shiftUp_38 rfl (lv_at hl 0 rfl) ?_
      refine va_get (D := (dC, dI)) (ci := 0) (v := .long T_lo) (C := "RoundedNumbers$Exact") (T := F_E) (N := 5) hx hb hts in_E hown hK hP 0 rfl rfl 2 (by decide) (hts _ tw_25) (fun _ h9 => h9) rfl d_E_shiftUp_39 ?_
      refine lv_bipush (v := (64 : Int32)) hx hb d_E_shiftUp_42 (by decide) ?_
      refine lv_iload_n hx hb d_E_shiftUp_44 rfl (lv_at hl 1 rfl) ?_
      refine lv_isub hx hb d_E_shiftUp_45 ?_
      refine lv_lushr (v := (jushr T_lo ((64 : Int32) - a1))) hx hb d_E_shiftUp_46 rfl ?_
      refine lv_lor hx hb d_E_shiftUp_47 ?_
      refine va_put (D := (dC, dI)) (ci := 0) (v := .long ((jshl T_hi a1) ||| (jushr T_lo ((64 : Int32) - a1)))) (ty := .long) (C := "RoundedNumbers$Exact") (T := F_E) (N := 5) hx hb hts in_E t_E t_E_ok n_E hown hK hP hD hS 0 rfl rfl 1 (by decide) (hts _ tw_23) (fun _ h9 => h9) rfl (by decide +kernel) rfl rfl (Nat.le_of_ble_eq_true rfl) d_E_shiftUp_48 (fun H locs hP hD hS => ?_)
      have hP : va_P (dC, dI) classes [cE h_T T_sg ((jshl T_hi a1) ||| (jushr T_lo ((64 : Int32) - a1))) T_lo T_pl T_mo] H := hP
      have hD : va_D A [cE h_T T_sg ((jshl T_hi a1) ||| (jushr T_lo ((64 : Int32) - a1))) T_lo T_pl T_mo] := hD
      refine lv_aload_n hx hb d_E_shiftUp_51 rfl (lv_at hl 0 rfl) ?_
      refine lv_dup hx hb d_E_shiftUp_52 rfl ?_
      refine va_get (D := (dC, dI)) (ci := 0) (v := .long T_lo) (C := "RoundedNumbers$Exact") (T := F_E) (N := 5) hx hb hts in_E hown hK hP 0 rfl rfl 2 (by decide) (hts _ tw_25) (fun _ h9 => h9) rfl d_E_shiftUp_53 ?_
      refine lv_iload_n hx hb d_E_shiftUp_56 rfl (lv_at hl 1 rfl) ?_
      refine lv_lshl (v := (jshl T_lo a1)) hx hb d_E_shiftUp_57 rfl ?_
      refine va_put (D := (dC, dI)) (ci := 0) (v := .long (jshl T_lo a1)) (ty := .long) (C := "RoundedNumbers$Exact") (T := F_E) (N := 5) hx hb hts in_E t_E t_E_ok n_E hown hK hP hD hS 0 rfl rfl 2 (by decide) (hts _ tw_25) (fun _ h9 => h9) rfl (by decide +kernel) rfl rfl (Nat.le_of_ble_eq_true rfl) d_E_shiftUp_58 (fun H locs hP hD hS => ?_)
      have hP : va_P (dC, dI) classes [cE h_T T_sg ((jshl T_hi a1) ||| (jushr T_lo ((64 : Int32) - a1))) (jshl T_lo a1) T_pl T_mo] H := hP
      have hD : va_D A [cE h_T T_sg ((jshl T_hi a1) ||| (jushr T_lo ((64 : Int32) - a1))) (jshl T_lo a1) T_pl T_mo] := hD
      refine lv_aload_n hx hb d_E_shiftUp_61 rfl (lv_at hl 0 rfl) ?_
      refine lv_dup hx hb d_E_shiftUp_62 rfl ?_
      refine va_get (D := (dC, dI)) (ci := 0) (v := .int T_pl) (C := "RoundedNumbers$Exact") (T := F_E) (N := 5) hx hb hts in_E hown hK hP 0 rfl rfl 3 (by decide) (hts _ tw_27) (fun _ h9 => h9) rfl d_E_shiftUp_63 ?_
      refine lv_iload_n hx hb d_E_shiftUp_66 rfl (lv_at hl 1 rfl) ?_
      refine lv_isub hx hb d_E_shiftUp_67 ?_
      refine va_put (D := (dC, dI)) (ci := 0) (v := .int (T_pl - a1)) (ty := .int) (C := "RoundedNumbers$Exact") (T := F_E) (N := 5) hx hb hts in_E t_E t_E_ok n_E hown hK hP hD hS 0 rfl rfl 3 (by decide) (hts _ tw_27) (fun _ h9 => h9) rfl (by decide +kernel) rfl rfl (Nat.le_of_ble_eq_true rfl) d_E_shiftUp_68 (fun H locs hP hD hS => ?_)
      have hP : va_P (dC, dI) classes [cE h_T T_sg ((jshl T_hi a1) ||| (jushr T_lo ((64 : Int32) - a1))) (jshl T_lo a1) (T_pl - a1) T_mo] H := hP
      have hD : va_D A [cE h_T T_sg ((jshl T_hi a1) ||| (jushr T_lo ((64 : Int32) - a1))) (jshl T_lo a1) (T_pl - a1) T_mo] := hD
      obtain rfl := Option.some.inj hF
      exact W.vret hx hb hr (fun t ht hW => ⟨⟨(), rfl, trivial, by rw [ht]; exact hP, va_K.moved hW.alike hK, hD⟩, hS.F ht⟩) hS.2.2 d_E_shiftUp_71
  · replace hF := hif_f c_3 hF
    refine lv_aload_n hx hb d_E_shiftUp_6 rfl (lv_at hl 0 rfl) ?_
    refine lv_aload_n hx hb d_E_shiftUp_7 rfl (lv_at hl 0 rfl) ?_
    refine va_get (D := (dC, dI)) (ci := 0) (v := .long T_lo) (C := "RoundedNumbers$Exact") (T := F_E) (N := 5) hx hb hts in_E hown hK hP 0 rfl rfl 2 (by decide) (hts _ tw_25) (fun _ h9 => h9) rfl d_E_shiftUp_8 ?_
    refine lv_iload_n hx hb d_E_shiftUp_11 rfl (lv_at hl 1 rfl) ?_
    refine lv_bipush (v := (64 : Int32)) hx hb d_E_shiftUp_12 (by decide) ?_
    refine lv_isub hx hb d_E_shiftUp_14 ?_
    refine lv_lshl (v := (jshl T_lo (a1 - (64 : Int32)))) hx hb d_E_shiftUp_15 rfl ?_
    refine va_put (D := (dC, dI)) (ci := 0) (v := .long (jshl T_lo (a1 - (64 : Int32)))) (ty := .long) (C := "RoundedNumbers$Exact") (T := F_E) (N := 5) hx hb hts in_E t_E t_E_ok n_E hown hK hP hD hS 0 rfl rfl 1 (by decide) (hts _ tw_23) (fun _ h9 => h9) rfl (by decide +kernel) rfl rfl (Nat.le_of_ble_eq_true rfl) d_E_shiftUp_16 (fun H locs hP hD hS => ?_)
    have hP : va_P (dC, dI) classes [cE h_T T_sg (jshl T_lo (a1 - (64 : Int32))) T_lo T_pl T_mo] H := hP
    have hD : va_D A [cE h_T T_sg (jshl T_lo (a1 - (64 : Int32))) T_lo T_pl T_mo] := hD
    refine lv_aload_n hx hb d_E_shiftUp_19 rfl (lv_at hl 0 rfl) ?_
    refine lv_lconst (v := (0 : Int64)) hx hb d_E_shiftUp_20 (by decide) ?_
    refine va_put (D := (dC, dI)) (ci := 0) (v := .long (0 : Int64)) (ty := .long) (C := "RoundedNumbers$Exact") (T := F_E) (N := 5) hx hb hts in_E t_E t_E_ok n_E hown hK hP hD hS 0 rfl rfl 2 (by decide) (hts _ tw_25) (fun _ h9 => h9) rfl (by decide +kernel) rfl rfl (Nat.le_of_ble_eq_true rfl) d_E_shiftUp_21 (fun H locs hP hD hS => ?_)
    have hP : va_P (dC, dI) classes [cE h_T T_sg (jshl T_lo (a1 - (64 : Int32))) (0 : Int64) T_pl T_mo] H := hP
    have hD : va_D A [cE h_T T_sg (jshl T_lo (a1 - (64 : Int32))) (0 : Int64) T_pl T_mo] := hD
    refine lv_goto (tgt := 61) hx hb d_E_shiftUp_24 (by decide) ?_
    refine lv_aload_n hx hb d_E_shiftUp_61 rfl (lv_at hl 0 rfl) ?_
    refine lv_dup hx hb d_E_shiftUp_62 rfl ?_
    refine va_get (D := (dC, dI)) (ci := 0) (v := .int T_pl) (C := "RoundedNumbers$Exact") (T := F_E) (N := 5) hx hb hts in_E hown hK hP 0 rfl rfl 3 (by decide) (hts _ tw_27) (fun _ h9 => h9) rfl d_E_shiftUp_63 ?_
    refine lv_iload_n hx hb d_E_shiftUp_66 rfl (lv_at hl 1 rfl) ?_
    refine lv_isub hx hb d_E_shiftUp_67 ?_
    refine va_put (D := (dC, dI)) (ci := 0) (v := .int (T_pl - a1)) (ty := .int) (C := "RoundedNumbers$Exact") (T := F_E) (N := 5) hx hb hts in_E t_E t_E_ok n_E hown hK hP hD hS 0 rfl rfl 3 (by decide) (hts _ tw_27) (fun _ h9 => h9) rfl (by decide +kernel) rfl rfl (Nat.le_of_ble_eq_true rfl) d_E_shiftUp_68 (fun H locs hP hD hS => ?_)
    have hP : va_P (dC, dI) classes [cE h_T T_sg (jshl T_lo (a1 - (64 : Int32))) (0 : Int64) (T_pl - a1) T_mo] H := hP
    have hD : va_D A [cE h_T T_sg (jshl T_lo (a1 - (64 : Int32))) (0 : Int64) (T_pl - a1) T_mo] := hD
    obtain rfl := Option.some.inj hF
    exact W.vret hx hb hr (fun t ht hW => ⟨⟨(), rfl, trivial, by rw [ht]; exact hP, va_K.moved hW.alike hK, hD⟩, hS.F ht⟩) hS.2.2 d_E_shiftUp_71
set_option maxHeartbeats 4000000 in
set_option maxRecDepth 100000 in
theorem c_E_shiftDown (l : Launch) (dC : Nat → ClassId) (dI : Nat → Nat → Nat) (h_T : Nat) (sz : Nat) (T_sg : Int32) (T_hi : Int64) (T_lo : Int64) (T_pl : Int32) (T_mo : Int32) (a1 : Int32) (o : Int64 × Int64 × Int32 × Int32) (hF : f_E_shiftDown T_hi T_lo T_pl T_mo a1 = some o) : Met l y_E_shiftDown w_E_shiftDown ({ frames := 0, cells := 0, slots := 0, locals := 0 } : Room) (va_Pc [.ref h_T, .int a1] (fun U => U.heap.size = sz ∧ va_P (dC, dI) classes [cE h_T T_sg T_hi T_lo T_pl T_mo] U.heap ∧ va_K (dC, dI) classes [] U ∧ va_D (fun _ => True) [cE h_T T_sg T_hi T_lo T_pl T_mo])) (va_Qv (fun _ : Unit => True) (fun (_ : Unit) (t : State) => va_P (dC, dI) classes [cE h_T T_sg o.1 o.2.1 o.2.2.1 o.2.2.2] t.heap ∧ va_K (dC, dI) classes [] t ∧ va_D (va_A [cE h_T T_sg T_hi T_lo T_pl T_mo] sz) [cE h_T T_sg o.1 o.2.1 o.2.2.1 o.2.2.2]) (va_A [cE h_T T_sg T_hi T_lo T_pl T_mo] sz)) 0 0 (va_A [cE h_T T_sg T_hi T_lo T_pl T_mo] sz) := by
  refine Met.ofW (cc := prog_2_method_13_code) (maxL := 2) (ret := none) (by decide) rfl ?_
  intro p e s m args below meth c s₁ B hml hv
  obtain ⟨rfl, hsz, hP, hK, hD0⟩ := hv
  have hx := B.exec
  have hb := B.bytes
  have hr := B.returns
  have hts0 := atoms_spec (ws := w_E_shiftDown) B.pre
  have hts : ∀ w ∈ tb, w.before _ s = true := fun w h => hts0 w (List.mem_cons_of_mem _ h)
  clear hts0
  have hown : s.vm.findClass "RoundedNumbers$Exact" = some m.cls := findClass_of_methodNamed B.named
  have hlocks := B.notSynchronized
  subst hsz
  have hD := hD0.self (sz := s.heap.size)
  generalize hAe : va_A [cE h_T T_sg T_hi T_lo T_pl T_mo] s.heap.size = A at hD ⊢
  have hA : ∀ q : Nat, s.heap.size ≤ q → A q := fun q h => by rw [← hAe]; exact Or.inr h
  clear hAe
  have hS : va_S A s.heap s.heap [] := va_S.rf
  have hP : va_P (dC, dI) classes [cE h_T T_sg T_hi T_lo T_pl T_mo] s.heap := hP
  have hl := lv_entry ([.ref h_T, .int a1]) (n := 2) (Nat.le_of_ble_eq_true rfl)
  rw [lg_entry_eq]
  generalize (lg_sl ([.ref h_T, .int a1]) ++ List.replicate (2 - (lg_sl ([.ref h_T, .int a1])).length) Slot.unset).toArray = ls at hl ⊢
  have hl : lv_has ls 2 [(0, .ref h_T), (1, .int a1)] := hl
  have b_191 : ∀ (x1 : Int32) (y0 : Int32) (y1 : Int32) (T_hi : Int64) (T_lo : Int64) (T_pl : Int32) (T_mo : Int32) (T_sg : Int32) (H : Heap) (locs : List Loc) (ls : Array Slot), va_P (dC, dI) classes [cE h_T T_sg T_hi T_lo T_pl T_mo] H → va_D A [cE h_T T_sg T_hi T_lo T_pl T_mo] → va_S A s.heap H locs → lv_has ls 2 [(0, .ref h_T), (1, .int x1)] → f_E_shiftDown_191  x1 y0 y1 T_hi T_lo T_pl T_mo = some o → W p l e (headSpec w_E_shiftDown ({ frames := 0, cells := 0, slots := 0, locals := 0 } : Room)).room s m ([.ref h_T, .int a1] : List Value).toArray below meth c H locs 0 0 (MQ below (va_Qv (fun _ : Unit => True) (fun (_ : Unit) (t : State) => va_P (dC, dI) classes [cE h_T T_sg o.1 o.2.1 o.2.2.1 o.2.2.2] t.heap ∧ va_K (dC, dI) classes [] t ∧ va_D A [cE h_T T_sg o.1 o.2.1 o.2.2.1 o.2.2.2]) A) ([.ref h_T, .int a1] : List Value).toArray s 0 0 A) (F0 m 191 ls [.int y0, .int y1, .ref h_T]) := by
    intro x1 y0 y1 T_hi T_lo T_pl T_mo T_sg H locs ls hP hD hS hl hF
    unfold f_E_shiftDown_191 at hF
    refine lv_ior hx hb d_E_shiftDown_191 ?_
    have c_192 : (y1 ||| y0) = 0 ∨ (y1 ||| y0) = 1 := hif_y hF
    replace hF := hif_t c_192 hF
    refine va_put (D := (dC, dI)) (ci := 0) (v := .int (y1 ||| y0)) (ty := .boolean) (C := "RoundedNumbers$Exact") (T := F_E) (N := 5) hx hb hts in_E t_E t_E_ok n_E hown hK hP hD hS 0 rfl rfl 4 (by decide) (hts _ tw_29) (fun _ h9 => h9) rfl (by decide +kernel) (zb_nar c_192) (zb_fit c_192) (Nat.le_of_ble_eq_true rfl) d_E_shiftDown_192 (fun H locs hP hD hS => ?_)
    have hP : va_P (dC, dI) classes [cE h_T T_sg T_hi T_lo T_pl (y1 ||| y0)] H := hP
    have hD : va_D A [cE h_T T_sg T_hi T_lo T_pl (y1 ||| y0)] := hD
    refine lv_aload_n hx hb d_E_shiftDown_195 rfl (lv_at hl 0 rfl) ?_
    refine lv_aload_n hx hb d_E_shiftDown_196 rfl (lv_at hl 0 rfl) ?_
    refine va_get (D := (dC, dI)) (ci := 0) (v := .long T_lo) (C := "RoundedNumbers$Exact") (T := F_E) (N := 5) hx hb hts in_E hown hK hP 0 rfl rfl 2 (by decide) (hts _ tw_25) (fun _ h9 => h9) rfl d_E_shiftDown_197 ?_
    refine lv_iload_n hx hb d_E_shiftDown_200 rfl (lv_at hl 1 rfl) ?_
    refine lv_lushr (v := (jushr T_lo x1)) hx hb d_E_shiftDown_201 rfl ?_
    refine lv_aload_n hx hb d_E_shiftDown_202 rfl (lv_at hl 0 rfl) ?_
    refine va_get (D := (dC, dI)) (ci := 0) (v := .long T_hi) (C := "RoundedNumbers$Exact") (T := F_E) (N := 5) hx hb hts in_E hown hK hP 0 rfl rfl 1 (by decide) (hts _ tw_23) (fun _ h9 => h9) rfl d_E_shiftDown_203 ?_
    refine lv_bipush (v := (64 : Int32)) hx hb d_E_shiftDown_206 (by decide) ?_
    refine lv_iload_n hx hb d_E_shiftDown_208 rfl (lv_at hl 1 rfl) ?_
    refine lv_isub hx hb d_E_shiftDown_209 ?_
    refine lv_lshl (v := (jshl T_hi ((64 : Int32) - x1))) hx hb d_E_shiftDown_210 rfl ?_
    refine lv_lor hx hb d_E_shiftDown_211 ?_
    refine va_put (D := (dC, dI)) (ci := 0) (v := .long ((jushr T_lo x1) ||| (jshl T_hi ((64 : Int32) - x1)))) (ty := .long) (C := "RoundedNumbers$Exact") (T := F_E) (N := 5) hx hb hts in_E t_E t_E_ok n_E hown hK hP hD hS 0 rfl rfl 2 (by decide) (hts _ tw_25) (fun _ h9 => h9) rfl (by decide +kernel) rfl rfl (Nat.le_of_ble_eq_true rfl) d_E_shiftDown_212 (fun H locs hP hD hS => ?_)
    have hP : va_P (dC, dI) classes [cE h_T T_sg T_hi ((jushr T_lo x1) ||| (jshl T_hi ((64 : Int32) - x1))) T_pl (y1 ||| y0)] H := hP
    have hD : va_D A [cE h_T T_sg T_hi ((jushr T_lo x1) ||| (jshl T_hi ((64 : Int32) - x1))) T_pl (y1 ||| y0)] := hD
    refine lv_aload_n hx hb d_E_shiftDown_215 rfl (lv_at hl 0 rfl) ?_
    refine lv_dup hx hb d_E_shiftDown_216 rfl ?_
    refine va_get (D := (dC, dI)) (ci := 0) (v := .long T_hi) (C := "RoundedNumbers$Exact") (T := F_E) (N := 5) hx hb hts in_E hown hK hP 0 rfl rfl 1 (by decide) (hts _ tw_23) (fun _ h9 => h9) rfl d_E_shiftDown_217 ?_
    refine lv_iload_n hx hb d_E_shiftDown_220 rfl (lv_at hl 1 rfl) ?_
    refine lv_lushr (v := (jushr T_hi x1)) hx hb d_E_shiftDown_221 rfl ?_
    refine va_put (D := (dC, dI)) (ci := 0) (v := .long (jushr T_hi x1)) (ty := .long) (C := "RoundedNumbers$Exact") (T := F_E) (N := 5) hx hb hts in_E t_E t_E_ok n_E hown hK hP hD hS 0 rfl rfl 1 (by decide) (hts _ tw_23) (fun _ h9 => h9) rfl (by decide +kernel) rfl rfl (Nat.le_of_ble_eq_true rfl) d_E_shiftDown_222 (fun H locs hP hD hS => ?_)
    have hP : va_P (dC, dI) classes [cE h_T T_sg (jushr T_hi x1) ((jushr T_lo x1) ||| (jshl T_hi ((64 : Int32) - x1))) T_pl (y1 ||| y0)] H := hP
    have hD : va_D A [cE h_T T_sg (jushr T_hi x1) ((jushr T_lo x1) ||| (jshl T_hi ((64 : Int32) - x1))) T_pl (y1 ||| y0)] := hD
    refine lv_aload_n hx hb d_E_shiftDown_225 rfl (lv_at hl 0 rfl) ?_
    refine lv_dup hx hb d_E_shiftDown_226 rfl ?_
    refine va_get (D := (dC, dI)) (ci := 0) (v := .int T_pl) (C := "RoundedNumbers$Exact") (T := F_E) (N := 5) hx hb hts in_E hown hK hP 0 rfl rfl 3 (by decide) (hts _ tw_27) (fun _ h9 => h9) rfl d_E_shiftDown_227 ?_
    refine lv_iload_n hx hb d_E_shiftDown_230 rfl (lv_at hl 1 rfl) ?_
    refine lv_iadd hx hb d_E_shiftDown_231 ?_
    refine va_put (D := (dC, dI)) (ci := 0) (v := .int (T_pl + x1)) (ty := .int) (C := "RoundedNumbers$Exact") (T := F_E) (N := 5) hx hb hts in_E t_E t_E_ok n_E hown hK hP hD hS 0 rfl rfl 3 (by decide) (hts _ tw_27) (fun _ h9 => h9) rfl (by decide +kernel) rfl rfl (Nat.le_of_ble_eq_true rfl) d_E_shiftDown_232 (fun H locs hP hD hS => ?_)
    have hP : va_P (dC, dI) classes [cE h_T T_sg (jushr T_hi x1) ((jushr T_lo x1) ||| (jshl T_hi ((64 : Int32) - x1))) (T_pl + x1) (y1 ||| y0)] H := hP
    have hD : va_D A [cE h_T T_sg (jushr T_hi x1) ((jushr T_lo x1) ||| (jshl T_hi ((64 : Int32) - x1))) (T_pl + x1) (y1 ||| y0)] := hD
    obtain rfl := Option.some.inj hF
    exact W.vret hx hb hr (fun t ht hW => ⟨⟨(), rfl, trivial, by rw [ht]; exact hP, va_K.moved hW.alike hK, hD⟩, hS.F ht⟩) hS.2.2 d_E_shiftDown_235
  have b_147 : ∀ (x1 : Int32) (y0 : Int32) (y1 : Int32) (T_hi : Int64) (T_lo : Int64) (T_pl : Int32) (T_mo : Int32) (T_sg : Int32) (H : Heap) (locs : List Loc) (ls : Array Slot), va_P (dC, dI) classes [cE h_T T_sg T_hi T_lo T_pl T_mo] H → va_D A [cE h_T T_sg T_hi T_lo T_pl T_mo] → va_S A s.heap H locs → lv_has ls 2 [(0, .ref h_T), (1, .int x1)] → f_E_shiftDown_147  x1 y0 y1 T_hi T_lo T_pl T_mo = some o → W p l e (headSpec w_E_shiftDown ({ frames := 0, cells := 0, slots := 0, locals := 0 } : Room)).room s m ([.ref h_T, .int a1] : List Value).toArray below meth c H locs 0 0 (MQ below (va_Qv (fun _ : Unit => True) (fun (_ : Unit) (t : State) => va_P (dC, dI) classes [cE h_T T_sg o.1 o.2.1 o.2.2.1 o.2.2.2] t.heap ∧ va_K (dC, dI) classes [] t ∧ va_D A [cE h_T T_sg o.1 o.2.1 o.2.2.1 o.2.2.2]) A) ([.ref h_T, .int a1] : List Value).toArray s 0 0 A) (F0 m 147 ls [.int y0, .int y1, .ref h_T]) := by
    intro x1 y0 y1 T_hi T_lo T_pl T_mo T_sg H locs ls hP hD hS hl hF
    unfold f_E_shiftDown_147 at hF
    refine lv_ior hx hb d_E_shiftDown_147 ?_
    have c_148 : (y1 ||| y0) = 0 ∨ (y1 ||| y0) = 1 := hif_y hF
    replace hF := hif_t c_148 hF
    refine va_put (D := (dC, dI)) (ci := 0) (v := .int (y1 ||| y0)) (ty := .boolean) (C := "RoundedNumbers$Exact") (T := F_E) (N := 5) hx hb hts in_E t_E t_E_ok n_E hown hK hP hD hS 0 rfl rfl 4 (by decide) (hts _ tw_29) (fun _ h9 => h9) rfl (by decide +kernel) (zb_nar c_148) (zb_fit c_148) (Nat.le_of_ble_eq_true rfl) d_E_shiftDown_148 (fun H locs hP hD hS => ?_)
    have hP : va_P (dC, dI) classes [cE h_T T_sg T_hi T_lo T_pl (y1 ||| y0)] H := hP
    have hD : va_D A [cE h_T T_sg T_hi T_lo T_pl (y1 ||| y0)] := hD
    refine lv_aload_n hx hb d_E_shiftDown_151 rfl (lv_at hl 0 rfl) ?_
    refine lv_aload_n hx hb d_E_shiftDown_152 rfl (lv_at hl 0 rfl) ?_
    refine va_get (D := (dC, dI)) (ci := 0) (v := .long T_hi) (C := "RoundedNumbers$Exact") (T := F_E) (N := 5) hx hb hts in_E hown hK hP 0 rfl rfl 1 (by decide) (hts _ tw_23) (fun _ h9 => h9) rfl d_E_shiftDown_153 ?_
    refine va_put (D := (dC, dI)) (ci := 0) (v := .long T_hi) (ty := .long) (C := "RoundedNumbers$Exact") (T := F_E) (N := 5) hx hb hts in_E t_E t_E_ok n_E hown hK hP hD hS 0 rfl rfl 2 (by decide) (hts _ tw_25) (fun _ h9 => h9) rfl (by decide +kernel) rfl rfl (Nat.le_of_ble_eq_true rfl) d_E_shiftDown_156 (fun H locs hP hD hS => ?_)
    have hP : va_P (dC, dI) classes [cE h_T T_sg T_hi T_hi T_pl (y1 ||| y0)] H := hP
    have hD : va_D A [cE h_T T_sg T_hi T_hi T_pl (y1 ||| y0)] := hD
    refine lv_aload_n hx hb d_E_shiftDown_159 rfl (lv_at hl 0 rfl) ?_
    refine lv_lconst (v := (0 : Int64)) hx hb d_E_shiftDown_160 (by decide) ?_
    refine va_put (D := (dC, dI)) (ci := 0) (v := .long (0 : Int64)) (ty := .long) (C := "RoundedNumbers$Exact") (T := F_E) (N := 5) hx hb hts in_E t_E t_E_ok n_E hown hK hP hD hS 0 rfl rfl 1 (by decide) (hts _ tw_23) (fun _ h9 => h9) rfl (by decide +kernel) rfl rfl (Nat.le_of_ble_eq_true rfl) d_E_shiftDown_161 (fun H locs hP hD hS => ?_)
    have hP : va_P (dC, dI) classes [cE h_T T_sg (0 : Int64) T_hi T_pl (y1 ||| y0)] H := hP
    have hD : va_D A [cE h_T T_sg (0 : Int64) T_hi T_pl (y1 ||| y0)] := hD
    refine lv_goto (tgt := 225) hx hb d_E_shiftDown_164 (by decide) ?_
    refine lv_aload_n hx hb d_E_shiftDown_225 rfl (lv_at hl 0 rfl) ?_
    refine lv_dup hx hb d_E_shiftDown_226 rfl ?_
    refine va_get (D := (dC, dI)) (ci := 0) (v := .int T_pl) (C := "RoundedNumbers$Exact") (T := F_E) (N := 5) hx hb hts in_E hown hK hP 0 rfl rfl 3 (by decide) (hts _ tw_27) (fun _ h9 => h9) rfl d_E_shiftDown_227 ?_
    refine lv_iload_n hx hb d_E_shiftDown_230 rfl (lv_at hl 1 rfl) ?_
    refine lv_iadd hx hb d_E_shiftDown_231 ?_
    refine va_put (D := (dC, dI)) (ci := 0) (v := .int (T_pl + x1)) (ty := .int) (C := "RoundedNumbers$Exact") (T := F_E) (N := 5) hx hb hts in_E t_E t_E_ok n_E hown hK hP hD hS 0 rfl rfl 3 (by decide) (hts _ tw_27) (fun _ h9 => h9) rfl (by decide +kernel) rfl rfl (Nat.le_of_ble_eq_true rfl) d_E_shiftDown_232 (fun H locs hP hD hS => ?_)
    have hP : va_P (dC, dI) classes [cE h_T T_sg (0 : Int64) T_hi (T_pl + x1) (y1 ||| y0)] H := hP
    have hD : va_D A [cE h_T T_sg (0 : Int64) T_hi (T_pl + x1) (y1 ||| y0)] := hD
    obtain rfl := Option.some.inj hF
    exact W.vret hx hb hr (fun t ht hW => ⟨⟨(), rfl, trivial, by rw [ht]; exact hP, va_K.moved hW.alike hK, hD⟩, hS.F ht⟩) hS.2.2 d_E_shiftDown_235
  have b_97 : ∀ (x1 : Int32) (y0 : Int32) (y1 : Int32) (T_hi : Int64) (T_lo : Int64) (T_pl : Int32) (T_mo : Int32) (T_sg : Int32) (H : Heap) (locs : List Loc) (ls : Array Slot), va_P (dC, dI) classes [cE h_T T_sg T_hi T_lo T_pl T_mo] H → va_D A [cE h_T T_sg T_hi T_lo T_pl T_mo] → va_S A s.heap H locs → lv_has ls 2 [(0, .ref h_T), (1, .int x1)] → f_E_shiftDown_97  x1 y0 y1 T_hi T_lo T_pl T_mo = some o → W p l e (headSpec w_E_shiftDown ({ frames := 0, cells := 0, slots := 0, locals := 0 } : Room)).room s m ([.ref h_T, .int a1] : List Value).toArray below meth c H locs 0 0 (MQ below (va_Qv (fun _ : Unit => True) (fun (_ : Unit) (t : State) => va_P (dC, dI) classes [cE h_T T_sg o.1 o.2.1 o.2.2.1 o.2.2.2] t.heap ∧ va_K (dC, dI) classes [] t ∧ va_D A [cE h_T T_sg o.1 o.2.1 o.2.2.1 o.2.2.2]) A) ([.ref h_T, .int a1] : List Value).toArray s 0 0 A) (F0 m 97 ls [.int y0, .int y1, .ref h_T]) := by
    intro x1 y0 y1 T_hi T_lo T_pl T_mo T_sg H locs ls hP hD hS hl hF
    unfold f_E_shiftDown_97 at hF
    refine lv_ior hx hb d_E_shiftDown_97 ?_
    have c_98 : (y1 ||| y0) = 0 ∨ (y1 ||| y0) = 1 := hif_y hF
    replace hF := hif_t c_98 hF
    refine va_put (D := (dC, dI)) (ci := 0) (v := .int (y1 ||| y0)) (ty := .boolean) (C := "RoundedNumbers$Exact") (T := F_E) (N := 5) hx hb hts in_E t_E t_E_ok n_E hown hK hP hD hS 0 rfl rfl 4 (by decide) (hts _ tw_29) (fun _ h9 => h9) rfl (by decide +kernel) (zb_nar c_98) (zb_fit c_98) (Nat.le_of_ble_eq_true rfl) d_E_shiftDown_98 (fun H locs hP hD hS => ?_)
    have hP : va_P (dC, dI) classes [cE h_T T_sg T_hi T_lo T_pl (y1 ||| y0)] H := hP
    have hD : va_D A [cE h_T T_sg T_hi T_lo T_pl (y1 ||| y0)] := hD
    refine lv_aload_n hx hb d_E_shiftDown_101 rfl (lv_at hl 0 rfl) ?_
    refine lv_aload_n hx hb d_E_shiftDown_102 rfl (lv_at hl 0 rfl) ?_
    refine va_get (D := (dC, dI)) (ci := 0) (v := .long T_hi) (C := "RoundedNumbers$Exact") (T := F_E) (N := 5) hx hb hts in_E hown hK hP 0 rfl rfl 1 (by decide) (hts _ tw_23) (fun _ h9 => h9) rfl d_E_shiftDown_103 ?_
    refine lv_iload_n hx hb d_E_shiftDown_106 rfl (lv_at hl 1 rfl) ?_
    refine lv_bipush (v := (64 : Int32)) hx hb d_E_shiftDown_107 (by decide) ?_
    refine lv_isub hx hb d_E_shiftDown_109 ?_
    refine lv_lushr (v := (jushr T_hi (x1 - (64 : Int32)))) hx hb d_E_shiftDown_110 rfl ?_
    refine va_put (D := (dC, dI)) (ci := 0) (v := .long (jushr T_hi (x1 - (64 : Int32)))) (ty := .long) (C := "RoundedNumbers$Exact") (T := F_E) (N := 5) hx hb hts in_E t_E t_E_ok n_E hown hK hP hD hS 0 rfl rfl 2 (by decide) (hts _ tw_25) (fun _ h9 => h9) rfl (by decide +kernel) rfl rfl (Nat.le_of_ble_eq_true rfl) d_E_shiftDown_111 (fun H locs hP hD hS => ?_)
    have hP : va_P (dC, dI) classes [cE h_T T_sg T_hi (jushr T_hi (x1 - (64 : Int32))) T_pl (y1 ||| y0)] H := hP
    have hD : va_D A [cE h_T T_sg T_hi (jushr T_hi (x1 - (64 : Int32))) T_pl (y1 ||| y0)] := hD
    refine lv_aload_n hx hb d_E_shiftDown_114 rfl (lv_at hl 0 rfl) ?_
    refine lv_lconst (v := (0 : Int64)) hx hb d_E_shiftDown_115 (by decide) ?_
    refine va_put (D := (dC, dI)) (ci := 0) (v := .long (0 : Int64)) (ty := .long) (C := "RoundedNumbers$Exact") (T := F_E) (N := 5) hx hb hts in_E t_E t_E_ok n_E hown hK hP hD hS 0 rfl rfl 1 (by decide) (hts _ tw_23) (fun _ h9 => h9) rfl (by decide +kernel) rfl rfl (Nat.le_of_ble_eq_true rfl) d_E_shiftDown_116 (fun H locs hP hD hS => ?_)
    have hP : va_P (dC, dI) classes [cE h_T T_sg (0 : Int64) (jushr T_hi (x1 - (64 : Int32))) T_pl (y1 ||| y0)] H := hP
    have hD : va_D A [cE h_T T_sg (0 : Int64) (jushr T_hi (x1 - (64 : Int32))) T_pl (y1 ||| y0)] := hD
    refine lv_goto (tgt := 225) hx hb d_E_shiftDown_119 (by decide) ?_
    refine lv_aload_n hx hb d_E_shiftDown_225 rfl (lv_at hl 0 rfl) ?_
    refine lv_dup hx hb d_E_shiftDown_226 rfl ?_
    refine va_get (D := (dC, dI)) (ci := 0) (v := .int T_pl) (C := "RoundedNumbers$Exact") (T := F_E) (N := 5) hx hb hts in_E hown hK hP 0 rfl rfl 3 (by decide) (hts _ tw_27) (fun _ h9 => h9) rfl d_E_shiftDown_227 ?_
    refine lv_iload_n hx hb d_E_shiftDown_230 rfl (lv_at hl 1 rfl) ?_
    refine lv_iadd hx hb d_E_shiftDown_231 ?_
    refine va_put (D := (dC, dI)) (ci := 0) (v := .int (T_pl + x1)) (ty := .int) (C := "RoundedNumbers$Exact") (T := F_E) (N := 5) hx hb hts in_E t_E t_E_ok n_E hown hK hP hD hS 0 rfl rfl 3 (by decide) (hts _ tw_27) (fun _ h9 => h9) rfl (by decide +kernel) rfl rfl (Nat.le_of_ble_eq_true rfl) d_E_shiftDown_232 (fun H locs hP hD hS => ?_)
    have hP : va_P (dC, dI) classes [cE h_T T_sg (0 : Int64) (jushr T_hi (x1 - (64 : Int32))) (T_pl + x1) (y1 ||| y0)] H := hP
    have hD : va_D A [cE h_T T_sg (0 : Int64) (jushr T_hi (x1 - (64 : Int32))) (T_pl + x1) (y1 ||| y0)] := hD
    obtain rfl := Option.some.inj hF
    exact W.vret hx hb hr (fun t ht hW => ⟨⟨(), rfl, trivial, by rw [ht]; exact hP, va_K.moved hW.alike hK, hD⟩, hS.F ht⟩) hS.2.2 d_E_shiftDown_235
  have b_40 : ∀ (x1 : Int32) (y0 : Int32) (y1 : Int32) (T_hi : Int64) (T_lo : Int64) (T_pl : Int32) (T_mo : Int32) (T_sg : Int32) (H : Heap) (locs : List Loc) (ls : Array Slot), va_P (dC, dI) classes [cE h_T T_sg T_hi T_lo T_pl T_mo] H → va_D A [cE h_T T_sg T_hi T_lo T_pl T_mo] → va_S A s.heap H locs → lv_has ls 2 [(0, .ref h_T), (1, .int x1)] → f_E_shiftDown_40  x1 y0 y1 T_hi T_lo T_pl T_mo = some o → W p l e (headSpec w_E_shiftDown ({ frames := 0, cells := 0, slots := 0, locals := 0 } : Room)).room s m ([.ref h_T, .int a1] : List Value).toArray below meth c H locs 0 0 (MQ below (va_Qv (fun _ : Unit => True) (fun (_ : Unit) (t : State) => va_P (dC, dI) classes [cE h_T T_sg o.1 o.2.1 o.2.2.1 o.2.2.2] t.heap ∧ va_K (dC, dI) classes [] t ∧ va_D A [cE h_T T_sg o.1 o.2.1 o.2.2.1 o.2.2.2]) A) ([.ref h_T, .int a1] : List Value).toArray s 0 0 A) (F0 m 40 ls [.int y0, .int y1, .ref h_T]) := by
    intro x1 y0 y1 T_hi T_lo T_pl T_mo T_sg H locs ls hP hD hS hl hF
    unfold f_E_shiftDown_40 at hF
    refine lv_ior hx hb d_E_shiftDown_40 ?_
    have c_41 : (y1 ||| y0) = 0 ∨ (y1 ||| y0) = 1 := hif_y hF
    replace hF := hif_t c_41 hF
    refine va_put (D := (dC, dI)) (ci := 0) (v := .int (y1 ||| y0)) (ty := .boolean) (C := "RoundedNumbers$Exact") (T := F_E) (N := 5) hx hb hts in_E t_E t_E_ok n_E hown hK hP hD hS 0 rfl rfl 4 (by decide) (hts _ tw_29) (fun _ h9 => h9) rfl (by decide +kernel) (zb_nar c_41) (zb_fit c_41) (Nat.le_of_ble_eq_true rfl) d_E_shiftDown_41 (fun H locs hP hD hS => ?_)
    have hP : va_P (dC, dI) classes [cE h_T T_sg T_hi T_lo T_pl (y1 ||| y0)] H := hP
    have hD : va_D A [cE h_T T_sg T_hi T_lo T_pl (y1 ||| y0)] := hD
    refine lv_aload_n hx hb d_E_shiftDown_44 rfl (lv_at hl 0 rfl) ?_
    refine lv_lconst (v := (0 : Int64)) hx hb d_E_shiftDown_45 (by decide) ?_
    refine va_put (D := (dC, dI)) (ci := 0) (v := .long (0 : Int64)) (ty := .long) (C := "RoundedNumbers$Exact") (T := F_E) (N := 5) hx hb hts in_E t_E t_E_ok n_E hown hK hP hD hS 0 rfl rfl 2 (by decide) (hts _ tw_25) (fun _ h9 => h9) rfl (by decide +kernel) rfl rfl (Nat.le_of_ble_eq_true rfl) d_E_shiftDown_46 (fun H locs hP hD hS => ?_)
    have hP : va_P (dC, dI) classes [cE h_T T_sg T_hi (0 : Int64) T_pl (y1 ||| y0)] H := hP
    have hD : va_D A [cE h_T T_sg T_hi (0 : Int64) T_pl (y1 ||| y0)] := hD
    refine lv_aload_n hx hb d_E_shiftDown_49 rfl (lv_at hl 0 rfl) ?_
    refine lv_lconst (v := (0 : Int64)) hx hb d_E_shiftDown_50 (by decide) ?_
    refine va_put (D := (dC, dI)) (ci := 0) (v := .long (0 : Int64)) (ty := .long) (C := "RoundedNumbers$Exact") (T := F_E) (N := 5) hx hb hts in_E t_E t_E_ok n_E hown hK hP hD hS 0 rfl rfl 1 (by decide) (hts _ tw_23) (fun _ h9 => h9) rfl (by decide +kernel) rfl rfl (Nat.le_of_ble_eq_true rfl) d_E_shiftDown_51 (fun H locs hP hD hS => ?_)
    have hP : va_P (dC, dI) classes [cE h_T T_sg (0 : Int64) (0 : Int64) T_pl (y1 ||| y0)] H := hP
    have hD : va_D A [cE h_T T_sg (0 : Int64) (0 : Int64) T_pl (y1 ||| y0)] := hD
    refine lv_goto (tgt := 225) hx hb d_E_shiftDown_54 (by decide) ?_
    refine lv_aload_n hx hb d_E_shiftDown_225 rfl (lv_at hl 0 rfl) ?_
    refine lv_dup hx hb d_E_shiftDown_226 rfl ?_
    refine va_get (D := (dC, dI)) (ci := 0) (v := .int T_pl) (C := "RoundedNumbers$Exact") (T := F_E) (N := 5) hx hb hts in_E hown hK hP 0 rfl rfl 3 (by decide) (hts _ tw_27) (fun _ h9 => h9) rfl d_E_shiftDown_227 ?_
    refine lv_iload_n hx hb d_E_shiftDown_230 rfl (lv_at hl 1 rfl) ?_
    refine lv_iadd hx hb d_E_shiftDown_231 ?_
    refine va_put (D := (dC, dI)) (ci := 0) (v := .int (T_pl + x1)) (ty := .int) (C := "RoundedNumbers$Exact") (T := F_E) (N := 5) hx hb hts in_E t_E t_E_ok n_E hown hK hP hD hS 0 rfl rfl 3 (by decide) (hts _ tw_27) (fun _ h9 => h9) rfl (by decide +kernel) rfl rfl (Nat.le_of_ble_eq_true rfl) d_E_shiftDown_232 (fun H locs hP hD hS => ?_)
    have hP : va_P (dC, dI) classes [cE h_T T_sg (0 : Int64) (0 : Int64) (T_pl + x1) (y1 ||| y0)] H := hP
    have hD : va_D A [cE h_T T_sg (0 : Int64) (0 : Int64) (T_pl + x1) (y1 ||| y0)] := hD
    obtain rfl := Option.some.inj hF
    exact W.vret hx hb hr (fun t ht hW => ⟨⟨(), rfl, trivial, by rw [ht]; exact hP, va_K.moved hW.alike hK, hD⟩, hS.F ht⟩) hS.2.2 d_E_shiftDown_235
  unfold f_E_shiftDown at hF
  refine lv_iload_n hx hb d_E_shiftDown_0 rfl (lv_at hl 1 rfl) ?_
  refine lv_if_gt (tgt := 5) hx hb d_E_shiftDown_1 (by decide) (fun c_1 => ?_) (fun c_1 => ?_)
  · replace hF := hif_t c_1 hF
    refine lv_iload_n hx hb d_E_shiftDown_5 rfl (lv_at hl 1 rfl) ?_
    refine lv_sipush (v := (128 : Int32)) hx hb d_E_shiftDown_6 (by decide) ?_
    refine lv_icmp_lt (tgt := 57) hx hb d_E_shiftDown_9 (by decide) (fun c_9 => ?_) (fun c_9 => ?_)
    · replace hF := hif_t c_9 hF
      refine lv_iload_n hx hb d_E_shiftDown_57 rfl (lv_at hl 1 rfl) ?_
      refine lv_bipush (v := (64 : Int32)) hx hb d_E_shiftDown_58 (by decide) ?_
      refine lv_icmp_le (tgt := 122) hx hb d_E_shiftDown_60 (by decide) (fun c_60 => ?_) (fun c_60 => ?_)
      · replace hF := hif_t c_60 hF
        refine lv_iload_n hx hb d_E_shiftDown_122 rfl (lv_at hl 1 rfl) ?_
        refine lv_bipush (v := (64 : Int32)) hx hb d_E_shiftDown_123 (by decide) ?_
        refine lv_icmp_ne (tgt := 167) hx hb d_E_shiftDown_125 (by decide) (fun c_125 => ?_) (fun c_125 => ?_)
        · replace hF := hif_f c_125 hF
          refine lv_aload_n hx hb d_E_shiftDown_167 rfl (lv_at hl 0 rfl) ?_
          refine lv_dup hx hb d_E_shiftDown_168 rfl ?_
          refine va_get (D := (dC, dI)) (ci := 0) (v := .int T_mo) (C := "RoundedNumbers$Exact") (T := F_E) (N := 5) hx hb hts in_E hown hK hP 0 rfl rfl 4 (by decide) (hts _ tw_29) (fun _ h9 => h9) rfl d_E_shiftDown_169 ?_
          refine lv_aload_n hx hb d_E_shiftDown_172 rfl (lv_at hl 0 rfl) ?_
          refine va_get (D := (dC, dI)) (ci := 0) (v := .long T_lo) (C := "RoundedNumbers$Exact") (T := F_E) (N := 5) hx hb hts in_E hown hK hP 0 rfl rfl 2 (by decide) (hts _ tw_25) (fun _ h9 => h9) rfl d_E_shiftDown_173 ?_
          refine lv_bipush (v := (64 : Int32)) hx hb d_E_shiftDown_176 (by decide) ?_
          refine lv_iload_n hx hb d_E_shiftDown_178 rfl (lv_at hl 1 rfl) ?_
          refine lv_isub hx hb d_E_shiftDown_179 ?_
          refine lv_lshl (v := (jshl T_lo ((64 : Int32) - a1))) hx hb d_E_shiftDown_180 rfl ?_
          refine lv_lconst (v := (0 : Int64)) hx hb d_E_shiftDown_181 (by decide) ?_
          refine W.lcmp hx hb d_E_shiftDown_182 ?_
          refine lv_if_eq (tgt := 190) hx hb d_E_shiftDown_183 (by decide) (fun c_183 => ?_) (fun c_183 => ?_)
          · replace hF := hif_t c_183 hF
            refine lv_iconst (v := (0 : Int32)) hx hb d_E_shiftDown_190 (by decide) ?_
            exact b_191 a1 (0 : Int32) T_mo T_hi T_lo T_pl T_mo T_sg _ _ _ hP hD hS (lv_sub hl [0, 1] rfl) hF
          · replace hF := hif_f c_183 hF
            refine lv_iconst (v := (1 : Int32)) hx hb d_E_shiftDown_186 (by decide) ?_
            refine lv_goto (tgt := 191) hx hb d_E_shiftDown_187 (by decide) ?_
            exact b_191 a1 (1 : Int32) T_mo T_hi T_lo T_pl T_mo T_sg _ _ _ hP hD hS (lv_sub hl [0, 1] rfl) hF
        · replace hF := hif_t c_125 hF
          refine lv_aload_n hx hb d_E_shiftDown_128 rfl (lv_at hl 0 rfl) ?_
          refine lv_dup hx hb d_E_shiftDown_129 rfl ?_
          refine va_get (D := (dC, dI)) (ci := 0) (v := .int T_mo) (C := "RoundedNumbers$Exact") (T := F_E) (N := 5) hx hb hts in_E hown hK hP 0 rfl rfl 4 (by decide) (hts _ tw_29) (fun _ h9 => h9) rfl d_E_shiftDown_130 ?_
          refine lv_aload_n hx hb d_E_shiftDown_133 rfl (lv_at hl 0 rfl) ?_
          refine va_get (D := (dC, dI)) (ci := 0) (v := .long T_lo) (C := "RoundedNumbers$Exact") (T := F_E) (N := 5) hx hb hts in_E hown hK hP 0 rfl rfl 2 (by decide) (hts _ tw_25) (fun _ h9 => h9) rfl d_E_shiftDown_134 ?_
          refine lv_lconst (v := (0 : Int64)) hx hb d_E_shiftDown_137 (by decide) ?_
          refine W.lcmp hx hb d_E_shiftDown_138 ?_
          refine lv_if_eq (tgt := 146) hx hb d_E_shiftDown_139 (by decide) (fun c_139 => ?_) (fun c_139 => ?_)
          · replace hF := hif_t c_139 hF
            refine lv_iconst (v := (0 : Int32)) hx hb d_E_shiftDown_146 (by decide) ?_
            exact b_147 a1 (0 : Int32) T_mo T_hi T_lo T_pl T_mo T_sg _ _ _ hP hD hS (lv_sub hl [0, 1] rfl) hF
          · replace hF := hif_f c_139 hF
            refine lv_iconst (v := (1 : Int32)) hx hb d_E_shiftDown_142 (by decide) ?_
            refine lv_goto (tgt := 147) hx hb d_E_shiftDown_143 (by decide) ?_
            exact b_147 a1 (1 : Int32) T_mo T_hi T_lo T_pl T_mo T_sg _ _ _ hP hD hS (lv_sub hl [0, 1] rfl) hF
      · replace hF := hif_f c_60 hF
        refine lv_aload_n hx hb d_E_shiftDown_63 rfl (lv_at hl 0 rfl) ?_
        refine lv_dup hx hb d_E_shiftDown_64 rfl ?_
        refine va_get (D := (dC, dI)) (ci := 0) (v := .int T_mo) (C := "RoundedNumbers$Exact") (T := F_E) (N := 5) hx hb hts in_E hown hK hP 0 rfl rfl 4 (by decide) (hts _ tw_29) (fun _ h9 => h9) rfl d_E_shiftDown_65 ?_
        refine lv_aload_n hx hb d_E_shiftDown_68 rfl (lv_at hl 0 rfl) ?_
        refine va_get (D := (dC, dI)) (ci := 0) (v := .long T_lo) (C := "RoundedNumbers$Exact") (T := F_E) (N := 5) hx hb hts in_E hown hK hP 0 rfl rfl 2 (by decide) (hts _ tw_25) (fun _ h9 => h9) rfl d_E_shiftDown_69 ?_
        refine lv_lconst (v := (0 : Int64)) hx hb d_E_shiftDown_72 (by decide) ?_
        refine W.lcmp hx hb d_E_shiftDown_73 ?_
        refine lv_if_ne (tgt := 92) hx hb d_E_shiftDown_74 (by decide) (fun c_74 => ?_) (fun c_74 => ?_)
        · replace hF := hif_f c_74 hF
          refine lv_iconst (v := (1 : Int32)) hx hb d_E_shiftDown_92 (by decide) ?_
          refine lv_goto (tgt := 97) hx hb d_E_shiftDown_93 (by decide) ?_
          exact b_97 a1 (1 : Int32) T_mo T_hi T_lo T_pl T_mo T_sg _ _ _ hP hD hS (lv_sub hl [0, 1] rfl) hF
        · replace hF := hif_t c_74 hF
          refine lv_aload_n hx hb d_E_shiftDown_77 rfl (lv_at hl 0 rfl) ?_
          refine va_get (D := (dC, dI)) (ci := 0) (v := .long T_hi) (C := "RoundedNumbers$Exact") (T := F_E) (N := 5) hx hb hts in_E hown hK hP 0 rfl rfl 1 (by decide) (hts _ tw_23) (fun _ h9 => h9) rfl d_E_shiftDown_78 ?_
          refine lv_sipush (v := (128 : Int32)) hx hb d_E_shiftDown_81 (by decide) ?_
          refine lv_iload_n hx hb d_E_shiftDown_84 rfl (lv_at hl 1 rfl) ?_
          refine lv_isub hx hb d_E_shiftDown_85 ?_
          refine lv_lshl (v := (jshl T_hi ((128 : Int32) - a1))) hx hb d_E_shiftDown_86 rfl ?_
          refine lv_lconst (v := (0 : Int64)) hx hb d_E_shiftDown_87 (by decide) ?_
          refine W.lcmp hx hb d_E_shiftDown_88 ?_
          refine lv_if_eq (tgt := 96) hx hb d_E_shiftDown_89 (by decide) (fun c_89 => ?_) (fun c_89 => ?_)
          · replace hF := hif_t c_89 hF
            refine lv_iconst (v := (0 : Int32)) hx hb d_E_shiftDown_96 (by decide) ?_
            exact b_97 a1 (0 : Int32) T_mo T_hi T_lo T_pl T_mo T_sg _ _ _ hP hD hS (lv_sub hl [0, 1] rfl) hF
          · replace hF := hif_f c_89 hF
            refine lv_iconst (v := (1 : Int32)) hx hb d_E_shiftDown_92 (by decide) ?_
            refine lv_goto (tgt := 97) hx hb d_E_shiftDown_93 (by decide) ?_
            exact b_97 a1 (1 : Int32) T_mo T_hi T_lo T_pl T_mo T_sg _ _ _ hP hD hS (lv_sub hl [0, 1] rfl) hF
    · replace hF := hif_f c_9 hF
      refine lv_aload_n hx hb d_E_shiftDown_12 rfl (lv_at hl 0 rfl) ?_
      refine lv_dup hx hb d_E_shiftDown_13 rfl ?_
      refine va_get (D := (dC, dI)) (ci := 0) (v := .int T_mo) (C := "RoundedNumbers$Exact") (T := F_E) (N := 5) hx hb hts in_E hown hK hP 0 rfl rfl 4 (by decide) (hts _ tw_29) (fun _ h9 => h9) rfl d_E_shiftDown_14 ?_
      refine lv_aload_n hx hb d_E_shiftDown_17 rfl (lv_at hl 0 rfl) ?_
      refine va_get (D := (dC, dI)) (ci := 0) (v := .long T_hi) (C := "RoundedNumbers$Exact") (T := F_E) (N := 5) hx hb hts in_E hown hK hP 0 rfl rfl 1 (by decide) (hts _ tw_23) (fun _ h9 => h9) rfl d_E_shiftDown_18 ?_
      refine lv_lconst (v := (0 : Int64)) hx hb d_E_shiftDown_21 (by decide) ?_
      refine W.lcmp hx hb d_E_shiftDown_22 ?_
      refine lv_if_ne (tgt := 35) hx hb d_E_shiftDown_23 (by decide) (fun c_23 => ?_) (fun c_23 => ?_)
      · replace hF := hif_f c_23 hF
        refine lv_iconst (v := (1 : Int32)) hx hb d_E_shiftDown_35 (by decide) ?_
        refine lv_goto (tgt := 40) hx hb d_E_shiftDown_36 (by decide) ?_
        exact b_40 a1 (1 : Int32) T_mo T_hi T_lo T_pl T_mo T_sg _ _ _ hP hD hS (lv_sub hl [0, 1] rfl) hF
      · replace hF := hif_t c_23 hF
        refine lv_aload_n hx hb d_E_shiftDown_26 rfl (lv_at hl 0 rfl) ?_
        refine va_get (D := (dC, dI)) (ci := 0) (v := .long T_lo) (C := "RoundedNumbers$Exact") (T := F_E) (N := 5) hx hb hts in_E hown hK hP 0 rfl rfl 2 (by decide) (hts _ tw_25) (fun _ h9 => h9) rfl d_E_shiftDown_27 ?_
        refine lv_lconst (v := (0 : Int64)) hx hb d_E_shiftDown_30 (by decide) ?_
        refine W.lcmp hx hb d_E_shiftDown_31 ?_
        refine lv_if_eq (tgt := 39) hx hb d_E_shiftDown_32 (by decide) (fun c_32 => ?_) (fun c_32 => ?_)
        · replace hF := hif_t c_32 hF
          refine lv_iconst (v := (0 : Int32)) hx hb d_E_shiftDown_39 (by decide) ?_
          exact b_40 a1 (0 : Int32) T_mo T_hi T_lo T_pl T_mo T_sg _ _ _ hP hD hS (lv_sub hl [0, 1] rfl) hF
        · replace hF := hif_f c_32 hF
          refine lv_iconst (v := (1 : Int32)) hx hb d_E_shiftDown_35 (by decide) ?_
          refine lv_goto (tgt := 40) hx hb d_E_shiftDown_36 (by decide) ?_
          exact b_40 a1 (1 : Int32) T_mo T_hi T_lo T_pl T_mo T_sg _ _ _ hP hD hS (lv_sub hl [0, 1] rfl) hF
  · replace hF := hif_f c_1 hF
    obtain rfl := Option.some.inj hF
    exact W.vret hx hb hr (fun t ht hW => ⟨⟨(), rfl, trivial, by rw [ht]; exact hP, va_K.moved hW.alike hK, hD⟩, hS.F ht⟩) hS.2.2 d_E_shiftDown_4
set_option maxHeartbeats 4000000 in
set_option maxRecDepth 100000 in
theorem c_E_lift (l : Launch) (dC : Nat → ClassId) (dI : Nat → Nat → Nat) (h_T : Nat) (sz : Nat) (T_sg : Int32) (T_hi : Int64) (T_lo : Int64) (T_pl : Int32) (T_mo : Int32) (o : Int64 × Int64 × Int32 × Int32) (hF : f_E_lift T_hi T_lo T_pl T_mo = some o) : Met l y_E_lift w_E_lift ({ frames := 3, cells := 0, slots := 0, locals := 63 } : Room) (va_Pc [.ref h_T] (fun U => U.heap.size = sz ∧ va_P (dC, dI) classes [cE h_T T_sg T_hi T_lo T_pl T_mo] U.heap ∧ va_K (dC, dI) classes [] U ∧ va_D (fun _ => True) [cE h_T T_sg T_hi T_lo T_pl T_mo])) (va_Qv (fun _ : Unit => True) (fun (_ : Unit) (t : State) => va_P (dC, dI) classes [cE h_T T_sg o.1 o.2.1 o.2.2.1 o.2.2.2] t.heap ∧ va_K (dC, dI) classes [] t ∧ va_D (va_A [cE h_T T_sg T_hi T_lo T_pl T_mo] sz) [cE h_T T_sg o.1 o.2.1 o.2.2.1 o.2.2.2]) (va_A [cE h_T T_sg T_hi T_lo T_pl T_mo] sz)) 0 0 (va_A [cE h_T T_sg T_hi T_lo T_pl T_mo] sz) := by
  refine Met.ofW (cc := prog_2_method_11_code) (maxL := 2) (ret := none) (by decide) rfl ?_
  intro p e s m args below meth c s₁ B hml hv
  obtain ⟨rfl, hsz, hP, hK, hD0⟩ := hv
  have hx := B.exec
  have hb := B.bytes
  have hr := B.returns
  have hts0 := atoms_spec (ws := w_E_lift) B.pre
  have hts : ∀ w ∈ tb, w.before _ s = true := fun w h => hts0 w (List.mem_cons_of_mem _ h)
  clear hts0
  have hown : s.vm.findClass "RoundedNumbers$Exact" = some m.cls := findClass_of_methodNamed B.named
  have hlocks := B.notSynchronized
  subst hsz
  have hD := hD0.self (sz := s.heap.size)
  generalize hAe : va_A [cE h_T T_sg T_hi T_lo T_pl T_mo] s.heap.size = A at hD ⊢
  have hA : ∀ q : Nat, s.heap.size ≤ q → A q := fun q h => by rw [← hAe]; exact Or.inr h
  clear hAe
  have hS : va_S A s.heap s.heap [] := va_S.rf
  have hP : va_P (dC, dI) classes [cE h_T T_sg T_hi T_lo T_pl T_mo] s.heap := hP
  have hl := lv_entry ([.ref h_T]) (n := 2) (Nat.le_of_ble_eq_true rfl)
  rw [lg_entry_eq]
  generalize (lg_sl ([.ref h_T]) ++ List.replicate (2 - (lg_sl ([.ref h_T])).length) Slot.unset).toArray = ls at hl ⊢
  have hl : lv_has ls 2 [(0, .ref h_T)] := hl
  unfold f_E_lift at hF
  refine lv_bipush (v := (126 : Int32)) hx hb d_E_lift_0 (by decide) ?_
  refine lv_aload_n hx hb d_E_lift_2 rfl (lv_at hl 0 rfl) ?_
  obtain ⟨q_3, hC_3, hF⟩ := hbd hF
  have hPc := hP.sub (ws' := [cE h_T T_sg T_hi T_lo T_pl T_mo]) [0] rfl
  have hDc := hD.sub (ws' := [cE h_T T_sg T_hi T_lo T_pl T_mo]) [0] (by decide) rfl
  have hKc := hK.sub (tys' := []) [] rfl
  have hFc := va_free (wc := [cE h_T T_sg T_hi T_lo T_pl T_mo]) hD hS hA [0] rfl
  refine va_calli (va_runV (As := []) (rest := [.int (126 : Int32)]) ⟨hx, hb, hml, hown, hts⟩ (c_E_length l dC dI h_T s.heap.size T_sg T_hi T_lo T_pl T_mo q_3 hC_3) (cwV 0 hts g_E_62_E_length rfl rfl rfl (by decide +kernel) ⟨Nat.le_of_ble_eq_true rfl, Nat.le_of_ble_eq_true rfl⟩) ⟨fun a U g mk q => by obtain ⟨q0, q1, qP, qK, qD⟩ := q; exact ⟨q0, q1, qP, va_K.moved (u := U) (U := U.calling g mk a) (Vm.Alike.refl U.vm) qK, qD⟩, va_recv hKc hPc (ci := 0) (q0 := 0) rfl rfl, fun U hU hW => ⟨rfl, by rw [hU], by rw [hU]; exact hPc, va_K.moved hW.alike hKc, hDc.weaken (fun _ _ _ _ => trivial)⟩⟩ rfl rfl hl.1 rfl (lv_room (Nat.le_of_ble_eq_true rfl)) d_E_lift_3 ⟨Nat.zero_le _, Nat.zero_le _⟩) hS (fun q _ h => hFc q h) hFc (fun r u t H1 locs ht hvm hw hB hz1 hk1 hS => ?_)
  obtain ⟨hP1, hK1, hD1⟩ := hB
  replace hw := hw.symm
  subst hw
  rw [ht] at hP1
  obtain ⟨hP, hD⟩ := va_join (wr := []) (w1 := [cE h_T T_sg T_hi T_lo T_pl T_mo]) hP hD [0] [] rfl rfl (by decide) (by decide) hk1 hFc hP1 hD1
  generalize H1 = H at hP hS ⊢
  have hP := hP.sub (ws' := [cE h_T T_sg T_hi T_lo T_pl T_mo]) [0] rfl
  have hD := hD.sub (ws' := [cE h_T T_sg T_hi T_lo T_pl T_mo]) [0] (by decide) rfl
  refine lv_isub hx hb d_E_lift_6 ?_
  refine lv_istore_n (lv' := [(1, .int ((126 : Int32) - q_3)), (0, .ref h_T)]) hx hb d_E_lift_7 rfl hl (by decide) rfl (fun ls hl => ?_)
  refine lv_iload_n hx hb d_E_lift_8 rfl (lv_at hl 0 rfl) ?_
  refine lv_if_ge (tgt := 21) hx hb d_E_lift_9 (by decide) (fun c_9 => ?_) (fun c_9 => ?_)
  · replace hF := hif_t c_9 hF
    refine lv_aload_n hx hb d_E_lift_21 rfl (lv_at hl 1 rfl) ?_
    refine lv_iload_n hx hb d_E_lift_22 rfl (lv_at hl 0 rfl) ?_
    obtain ⟨q_23, hC_23, hF⟩ := hbd hF
    have hPc := hP.sub (ws' := [cE h_T T_sg T_hi T_lo T_pl T_mo]) [0] rfl
    have hDc := hD.sub (ws' := [cE h_T T_sg T_hi T_lo T_pl T_mo]) [0] (by decide) rfl
    have hKc := hK.sub (tys' := []) [] rfl
    have hFc := va_free (wc := [cE h_T T_sg T_hi T_lo T_pl T_mo]) hD hS hA [0] rfl
    refine va_callv (va_runV (As := [.int ((126 : Int32) - q_3)]) (rest := []) ⟨hx, hb, hml, hown, hts⟩ (c_E_shiftUp l dC dI h_T H.size T_sg T_hi T_lo T_pl T_mo ((126 : Int32) - q_3) q_23 hC_23) (cwV 1 hts g_E_71_E_shiftUp rfl rfl rfl (by decide +kernel) ⟨Nat.le_of_ble_eq_true rfl, Nat.le_of_ble_eq_true rfl⟩) ⟨fun a U g mk q => by obtain ⟨q0, q1, qP, qK, qD⟩ := q; exact ⟨q0, q1, qP, va_K.moved (u := U) (U := U.calling g mk a) (Vm.Alike.refl U.vm) qK, qD⟩, va_recv hKc hPc (ci := 0) (q0 := 0) rfl rfl, fun U hU hW => ⟨rfl, by rw [hU], by rw [hU]; exact hPc, va_K.moved hW.alike hKc, hDc.weaken (fun _ _ _ _ => trivial)⟩⟩ rfl rfl hl.1 rfl (lv_room (Nat.le_of_ble_eq_true rfl)) d_E_lift_23 ⟨Nat.zero_le _, Nat.zero_le _⟩) hS (fun q _ h => hFc q h) hFc (fun u t H1 locs ht hvm hw hB hz1 hk1 hS => ?_)
    obtain ⟨hP1, hK1, hD1⟩ := hB
    rw [ht] at hP1
    obtain ⟨hP, hD⟩ := va_join (wr := []) (w1 := [cE h_T T_sg q_23.1 q_23.2.1 q_23.2.2 T_mo]) hP hD [0] [] rfl rfl (by decide) (by decide) hk1 hFc hP1 hD1
    generalize H1 = H at hP hS ⊢
    have hP := hP.sub (ws' := [cE h_T T_sg q_23.1 q_23.2.1 q_23.2.2 T_mo]) [0] rfl
    have hD := hD.sub (ws' := [cE h_T T_sg q_23.1 q_23.2.1 q_23.2.2 T_mo]) [0] (by decide) rfl
    obtain rfl := Option.some.inj hF
    exact W.vret hx hb hr (fun t ht hW => ⟨⟨(), rfl, trivial, by rw [ht]; exact hP, va_K.moved hW.alike hK, hD⟩, hS.F ht⟩) hS.2.2 d_E_lift_26
  · replace hF := hif_f c_9 hF
    refine lv_aload_n hx hb d_E_lift_12 rfl (lv_at hl 1 rfl) ?_
    refine lv_iload_n hx hb d_E_lift_13 rfl (lv_at hl 0 rfl) ?_
    refine lv_ineg hx hb d_E_lift_14 ?_
    obtain ⟨q_15, hC_15, hF⟩ := hbd hF
    have hPc := hP.sub (ws' := [cE h_T T_sg T_hi T_lo T_pl T_mo]) [0] rfl
    have hDc := hD.sub (ws' := [cE h_T T_sg T_hi T_lo T_pl T_mo]) [0] (by decide) rfl
    have hKc := hK.sub (tys' := []) [] rfl
    have hFc := va_free (wc := [cE h_T T_sg T_hi T_lo T_pl T_mo]) hD hS hA [0] rfl
    refine va_callv (va_runV (As := [.int (-((126 : Int32) - q_3))]) (rest := []) ⟨hx, hb, hml, hown, hts⟩ (c_E_shiftDown l dC dI h_T H.size T_sg T_hi T_lo T_pl T_mo (-((126 : Int32) - q_3)) q_15 hC_15) (cwV 1 hts g_E_58_E_shiftDown rfl rfl rfl (by decide +kernel) ⟨Nat.le_of_ble_eq_true rfl, Nat.le_of_ble_eq_true rfl⟩) ⟨fun a U g mk q => by obtain ⟨q0, q1, qP, qK, qD⟩ := q; exact ⟨q0, q1, qP, va_K.moved (u := U) (U := U.calling g mk a) (Vm.Alike.refl U.vm) qK, qD⟩, va_recv hKc hPc (ci := 0) (q0 := 0) rfl rfl, fun U hU hW => ⟨rfl, by rw [hU], by rw [hU]; exact hPc, va_K.moved hW.alike hKc, hDc.weaken (fun _ _ _ _ => trivial)⟩⟩ rfl rfl hl.1 rfl (lv_room (Nat.le_of_ble_eq_true rfl)) d_E_lift_15 ⟨Nat.zero_le _, Nat.zero_le _⟩) hS (fun q _ h => hFc q h) hFc (fun u t H1 locs ht hvm hw hB hz1 hk1 hS => ?_)
    obtain ⟨hP1, hK1, hD1⟩ := hB
    rw [ht] at hP1
    obtain ⟨hP, hD⟩ := va_join (wr := []) (w1 := [cE h_T T_sg q_15.1 q_15.2.1 q_15.2.2.1 q_15.2.2.2]) hP hD [0] [] rfl rfl (by decide) (by decide) hk1 hFc hP1 hD1
    generalize H1 = H at hP hS ⊢
    have hP := hP.sub (ws' := [cE h_T T_sg q_15.1 q_15.2.1 q_15.2.2.1 q_15.2.2.2]) [0] rfl
    have hD := hD.sub (ws' := [cE h_T T_sg q_15.1 q_15.2.1 q_15.2.2.1 q_15.2.2.2]) [0] (by decide) rfl
    refine lv_goto (tgt := 26) hx hb d_E_lift_18 (by decide) ?_
    obtain rfl := Option.some.inj hF
    exact W.vret hx hb hr (fun t ht hW => ⟨⟨(), rfl, trivial, by rw [ht]; exact hP, va_K.moved hW.alike hK, hD⟩, hS.F ht⟩) hS.2.2 d_E_lift_26
