set_option maxHeartbeats 4000000 in
set_option maxRecDepth 100000 in
theorem c_X_isRegister (l : Launch) (dC : Nat → ClassId) (dI : Nat → Nat → Nat) (sz : Nat) (a0 : Int32) (o : Int32) (hF : f_X_isRegister a0 = some o) : Met l y_X_isRegister w_X_isRegister ({ frames := 0, cells := 0, slots := 0, locals := 0 } : Room) (va_Pc [.int a0] (fun U => U.heap.size = sz ∧ va_P (dC, dI) classes [] U.heap ∧ va_K (dC, dI) classes [] U ∧ va_D (fun _ => True) [])) (va_Qi (fun (r : Int32) (_ : Unit) => r = o) (fun (_ : Unit) (t : State) => va_P (dC, dI) classes [] t.heap ∧ va_K (dC, dI) classes [] t ∧ va_D (va_A [] sz) []) (va_A [] sz)) 0 0 (va_A [] sz) := by
  refine Met.ofW (cc := prog_1_method_20_code) (maxL := 1) (ret := (some .boolean)) (by decide) rfl ?_
  intro p e s m args below meth c s₁ B hml hv
  obtain ⟨rfl, hsz, hP, hK, hD0⟩ := hv
  have hx := B.exec
  have hb := B.bytes
  have hr := B.returns
  have hts0 := atoms_spec (ws := w_X_isRegister) B.pre
  have hts : ∀ w ∈ tb, w.before _ s = true := fun w h => hts0 w (List.mem_cons_of_mem _ h)
  clear hts0
  have hown : s.vm.findClass "RoundedNumbers" = some m.cls := findClass_of_methodNamed B.named
  have hlocks := B.notSynchronized
  subst hsz
  have hD := hD0.self (sz := s.heap.size)
  generalize hAe : va_A [] s.heap.size = A at hD ⊢
  have hA : ∀ q : Nat, s.heap.size ≤ q → A q := fun q h => by rw [← hAe]; exact Or.inr h
  clear hAe
  have hS : va_S A s.heap s.heap [] := va_S.rf
  have hP : va_P (dC, dI) classes [] s.heap := hP
  have hl := lv_entry ([.int a0]) (n := 1) (Nat.le_of_ble_eq_true rfl)
  rw [lg_entry_eq]
  generalize (lg_sl ([.int a0]) ++ List.replicate (1 - (lg_sl ([.int a0])).length) Slot.unset).toArray = ls at hl ⊢
  have hl : lv_has ls 1 [(0, .int a0)] := hl
  unfold f_X_isRegister at hF
  refine lv_iload_n hx hb d_X_isRegister_0 rfl (lv_at hl 0 rfl) ?_
  refine lv_if_lt (tgt := 14) hx hb d_X_isRegister_1 (by decide) (fun c_1 => ?_) (fun c_1 => ?_)
  · replace hF := hif_t c_1 hF
    refine lv_iconst (v := (0 : Int32)) hx hb d_X_isRegister_14 (by decide) ?_
    obtain rfl := Option.some.inj hF
    exact W.zret (v := (0 : Int32)) (ty := .boolean) hx hb hr rfl (fun t ht hW => ⟨⟨(0 : Int32), (), rfl, rfl, by rw [ht]; exact hP, va_K.moved hW.alike hK, hD⟩, hS.F ht⟩) hS.2.2 d_X_isRegister_15
  · replace hF := hif_f c_1 hF
    refine lv_iload_n hx hb d_X_isRegister_4 rfl (lv_at hl 0 rfl) ?_
    refine lv_bipush (v := (8 : Int32)) hx hb d_X_isRegister_5 (by decide) ?_
    refine lv_icmp_ge (tgt := 14) hx hb d_X_isRegister_7 (by decide) (fun c_7 => ?_) (fun c_7 => ?_)
    · replace hF := hif_t c_7 hF
      refine lv_iconst (v := (0 : Int32)) hx hb d_X_isRegister_14 (by decide) ?_
      obtain rfl := Option.some.inj hF
      exact W.zret (v := (0 : Int32)) (ty := .boolean) hx hb hr rfl (fun t ht hW => ⟨⟨(0 : Int32), (), rfl, rfl, by rw [ht]; exact hP, va_K.moved hW.alike hK, hD⟩, hS.F ht⟩) hS.2.2 d_X_isRegister_15
    · replace hF := hif_f c_7 hF
      refine lv_iconst (v := (1 : Int32)) hx hb d_X_isRegister_10 (by decide) ?_
      refine lv_goto (tgt := 15) hx hb d_X_isRegister_11 (by decide) ?_
      obtain rfl := Option.some.inj hF
      exact W.zret (v := (1 : Int32)) (ty := .boolean) hx hb hr rfl (fun t ht hW => ⟨⟨(1 : Int32), (), rfl, rfl, by rw [ht]; exact hP, va_K.moved hW.alike hK, hD⟩, hS.F ht⟩) hS.2.2 d_X_isRegister_15
set_option maxHeartbeats 4000000 in
set_option maxRecDepth 100000 in
theorem c_X_order (l : Launch) (dC : Nat → ClassId) (dI : Nat → Nat → Nat) (sz : Nat) (a0 : Int64) (a1 : Int64) (o : Int32) (hF : f_X_order a0 a1 = some o) : Met l y_X_order w_X_order ({ frames := 0, cells := 0, slots := 0, locals := 0 } : Room) (va_Pc [.long a0, .long a1] (fun U => U.heap.size = sz ∧ va_P (dC, dI) classes [] U.heap ∧ va_K (dC, dI) classes [] U ∧ va_D (fun _ => True) [])) (va_Qi (fun (r : Int32) (_ : Unit) => r = o) (fun (_ : Unit) (t : State) => va_P (dC, dI) classes [] t.heap ∧ va_K (dC, dI) classes [] t ∧ va_D (va_A [] sz) []) (va_A [] sz)) 0 0 (va_A [] sz) := by
  refine Met.ofW (cc := prog_1_method_25_code) (maxL := 4) (ret := (some .int)) (by decide) rfl ?_
  intro p e s m args below meth c s₁ B hml hv
  obtain ⟨rfl, hsz, hP, hK, hD0⟩ := hv
  have hx := B.exec
  have hb := B.bytes
  have hr := B.returns
  have hts0 := atoms_spec (ws := w_X_order) B.pre
  have hts : ∀ w ∈ tb, w.before _ s = true := fun w h => hts0 w (List.mem_cons_of_mem _ h)
  clear hts0
  have hown : s.vm.findClass "RoundedNumbers" = some m.cls := findClass_of_methodNamed B.named
  have hlocks := B.notSynchronized
  subst hsz
  have hD := hD0.self (sz := s.heap.size)
  generalize hAe : va_A [] s.heap.size = A at hD ⊢
  have hA : ∀ q : Nat, s.heap.size ≤ q → A q := fun q h => by rw [← hAe]; exact Or.inr h
  clear hAe
  have hS : va_S A s.heap s.heap [] := va_S.rf
  have hP : va_P (dC, dI) classes [] s.heap := hP
  have hl := lv_entry ([.long a0, .long a1]) (n := 4) (Nat.le_of_ble_eq_true rfl)
  rw [lg_entry_eq]
  generalize (lg_sl ([.long a0, .long a1]) ++ List.replicate (4 - (lg_sl ([.long a0, .long a1])).length) Slot.unset).toArray = ls at hl ⊢
  have hl : lv_has ls 4 [(0, .long a0), (2, .long a1)] := hl
  unfold f_X_order at hF
  refine lv_lload_n hx hb d_X_order_0 rfl (lv_at hl 0 rfl) ?_
  refine lv_lload_n hx hb d_X_order_1 rfl (lv_at hl 1 rfl) ?_
  refine W.lcmp hx hb d_X_order_2 ?_
  refine lv_if_ge (tgt := 10) hx hb d_X_order_3 (by decide) (fun c_3 => ?_) (fun c_3 => ?_)
  · replace hF := hif_t c_3 hF
    refine lv_lload_n hx hb d_X_order_10 rfl (lv_at hl 0 rfl) ?_
    refine lv_lload_n hx hb d_X_order_11 rfl (lv_at hl 1 rfl) ?_
    refine W.lcmp hx hb d_X_order_12 ?_
    refine lv_if_le (tgt := 20) hx hb d_X_order_13 (by decide) (fun c_13 => ?_) (fun c_13 => ?_)
    · replace hF := hif_t c_13 hF
      refine lv_iconst (v := (0 : Int32)) hx hb d_X_order_20 (by decide) ?_
      obtain rfl := Option.some.inj hF
      exact W.iret (v := (0 : Int32)) hx hb hr (fun t ht hW => ⟨⟨(0 : Int32), (), rfl, rfl, by rw [ht]; exact hP, va_K.moved hW.alike hK, hD⟩, hS.F ht⟩) hS.2.2 d_X_order_21
    · replace hF := hif_f c_13 hF
      refine lv_iconst (v := (1 : Int32)) hx hb d_X_order_16 (by decide) ?_
      refine lv_goto (tgt := 21) hx hb d_X_order_17 (by decide) ?_
      obtain rfl := Option.some.inj hF
      exact W.iret (v := (1 : Int32)) hx hb hr (fun t ht hW => ⟨⟨(1 : Int32), (), rfl, rfl, by rw [ht]; exact hP, va_K.moved hW.alike hK, hD⟩, hS.F ht⟩) hS.2.2 d_X_order_21
  · replace hF := hif_f c_3 hF
    refine lv_iconst (v := (-1 : Int32)) hx hb d_X_order_6 (by decide) ?_
    refine lv_goto (tgt := 21) hx hb d_X_order_7 (by decide) ?_
    obtain rfl := Option.some.inj hF
    exact W.iret (v := (-1 : Int32)) hx hb hr (fun t ht hW => ⟨⟨(-1 : Int32), (), rfl, rfl, by rw [ht]; exact hP, va_K.moved hW.alike hK, hD⟩, hS.F ht⟩) hS.2.2 d_X_order_21
set_option maxHeartbeats 4000000 in
set_option maxRecDepth 100000 in
theorem c_X_bitLength (l : Launch) (dC : Nat → ClassId) (dI : Nat → Nat → Nat) (sz : Nat) (a0 : Int64) (o : Int32) (hF : f_X_bitLength a0 = some o) : Met l y_X_bitLength w_X_bitLength ({ frames := 2, cells := 0, slots := 0, locals := 43 } : Room) (va_Pc [.long a0] (fun U => U.heap.size = sz ∧ va_P (dC, dI) classes [] U.heap ∧ va_K (dC, dI) classes [] U ∧ va_D (fun _ => True) [])) (va_Qi (fun (r : Int32) (_ : Unit) => r = o) (fun (_ : Unit) (t : State) => va_P (dC, dI) classes [] t.heap ∧ va_K (dC, dI) classes [] t ∧ va_D (va_A [] sz) []) (va_A [] sz)) 0 0 (va_A [] sz) := by
  refine Met.ofW (cc := prog_1_method_26_code) (maxL := 2) (ret := (some .int)) (by decide) rfl ?_
  intro p e s m args below meth c s₁ B hml hv
  obtain ⟨rfl, hsz, hP, hK, hD0⟩ := hv
  have hx := B.exec
  have hb := B.bytes
  have hr := B.returns
  have hts0 := atoms_spec (ws := w_X_bitLength) B.pre
  have hts : ∀ w ∈ tb, w.before _ s = true := fun w h => hts0 w (List.mem_cons_of_mem _ h)
  clear hts0
  have hown : s.vm.findClass "RoundedNumbers" = some m.cls := findClass_of_methodNamed B.named
  have hlocks := B.notSynchronized
  subst hsz
  have hD := hD0.self (sz := s.heap.size)
  generalize hAe : va_A [] s.heap.size = A at hD ⊢
  have hA : ∀ q : Nat, s.heap.size ≤ q → A q := fun q h => by rw [← hAe]; exact Or.inr h
  clear hAe
  have hS : va_S A s.heap s.heap [] := va_S.rf
  have hP : va_P (dC, dI) classes [] s.heap := hP
  have hl := lv_entry ([.long a0]) (n := 2) (Nat.le_of_ble_eq_true rfl)
  rw [lg_entry_eq]
  generalize (lg_sl ([.long a0]) ++ List.replicate (2 - (lg_sl ([.long a0])).length) Slot.unset).toArray = ls at hl ⊢
  have hl : lv_has ls 2 [(0, .long a0)] := hl
  unfold f_X_bitLength at hF
  refine lv_bipush (v := (64 : Int32)) hx hb d_X_bitLength_0 (by decide) ?_
  refine lv_lload_n hx hb d_X_bitLength_2 rfl (lv_at hl 0 rfl) ?_
  obtain ⟨q_3, hC_3, hF⟩ := hbd hF
  have hPc := hP.sub (ws' := []) [] rfl
  have hDc := hD.sub (ws' := []) [] (by decide) rfl
  have hKc := hK.sub (tys' := []) [] rfl
  have hFc := va_free (wc := []) hD hS hA [] rfl
  refine va_calli (va_runS (As := [.long a0]) (rest := [.int (64 : Int32)]) ⟨hx, hb, hml, hown, hts⟩ (c_J_nlz l dC dI s.heap.size a0 q_3 hC_3) (va_cwS 1 hts g_X_165_JL_numberOfLeadingZeros rfl rfl rfl (by decide +kernel) ⟨Nat.le_of_ble_eq_true rfl, Nat.le_of_ble_eq_true rfl⟩) ⟨fun a U g mk q => by obtain ⟨q0, q1, qP, qK, qD⟩ := q; exact ⟨q0, q1, qP, va_K.moved (u := U) (U := U.calling g mk a) (Vm.Alike.refl U.vm) qK, qD⟩, fun U hU hW => ⟨rfl, by rw [hU], by rw [hU]; exact hPc, va_K.moved hW.alike hKc, hDc.weaken (fun _ _ _ _ => trivial)⟩⟩ rfl rfl hl.1 rfl (lv_room (Nat.le_of_ble_eq_true rfl)) d_X_bitLength_3 ⟨Nat.zero_le _, Nat.zero_le _⟩) hS (fun q _ h => hFc q h) hFc (fun r u t H1 locs ht hvm hw hB hz1 hk1 hS => ?_)
  obtain ⟨hP1, hK1, hD1⟩ := hB
  replace hw := hw.symm
  subst hw
  rw [ht] at hP1
  obtain ⟨hP, hD⟩ := va_join (wr := []) (w1 := []) hP hD [] [] rfl rfl (by decide) (by decide) hk1 hFc hP1 hD1
  generalize H1 = H at hP hS ⊢
  have hP := hP.sub (ws' := []) [] rfl
  have hD := hD.sub (ws' := []) [] (by decide) rfl
  refine lv_isub hx hb d_X_bitLength_6 ?_
  obtain rfl := Option.some.inj hF
  exact W.iret (v := ((64 : Int32) - q_3)) hx hb hr (fun t ht hW => ⟨⟨((64 : Int32) - q_3), (), rfl, rfl, by rw [ht]; exact hP, va_K.moved hW.alike hK, hD⟩, hS.F ht⟩) hS.2.2 d_X_bitLength_7
set_option maxHeartbeats 4000000 in
set_option maxRecDepth 100000 in
theorem c_X_isNumber (l : Launch) (dC : Nat → ClassId) (dI : Nat → Nat → Nat) (sz : Nat) (a0 : Int64) (a1 : Int32) (o : Int32) (hF : f_X_isNumber a0 a1 = some o) : Met l y_X_isNumber w_X_isNumber ({ frames := 3, cells := 0, slots := 0, locals := 64 } : Room) (va_Pc [.long a0, .int a1] (fun U => U.heap.size = sz ∧ va_P (dC, dI) classes [] U.heap ∧ va_K (dC, dI) classes [] U ∧ va_D (fun _ => True) [])) (va_Qi (fun (r : Int32) (_ : Unit) => r = o) (fun (_ : Unit) (t : State) => va_P (dC, dI) classes [] t.heap ∧ va_K (dC, dI) classes [] t ∧ va_D (va_A [] sz) []) (va_A [] sz)) 0 0 (va_A [] sz) := by
  refine Met.ofW (cc := prog_1_method_27_code) (maxL := 4) (ret := (some .boolean)) (by decide) rfl ?_
  intro p e s m args below meth c s₁ B hml hv
  obtain ⟨rfl, hsz, hP, hK, hD0⟩ := hv
  have hx := B.exec
  have hb := B.bytes
  have hr := B.returns
  have hts0 := atoms_spec (ws := w_X_isNumber) B.pre
  have hts : ∀ w ∈ tb, w.before _ s = true := fun w h => hts0 w (List.mem_cons_of_mem _ h)
  clear hts0
  have hown : s.vm.findClass "RoundedNumbers" = some m.cls := findClass_of_methodNamed B.named
  have hlocks := B.notSynchronized
  subst hsz
  have hD := hD0.self (sz := s.heap.size)
  generalize hAe : va_A [] s.heap.size = A at hD ⊢
  have hA : ∀ q : Nat, s.heap.size ≤ q → A q := fun q h => by rw [← hAe]; exact Or.inr h
  clear hAe
  have hS : va_S A s.heap s.heap [] := va_S.rf
  have hP : va_P (dC, dI) classes [] s.heap := hP
  have hl := lv_entry ([.long a0, .int a1]) (n := 4) (Nat.le_of_ble_eq_true rfl)
  rw [lg_entry_eq]
  generalize (lg_sl ([.long a0, .int a1]) ++ List.replicate (4 - (lg_sl ([.long a0, .int a1])).length) Slot.unset).toArray = ls at hl ⊢
  have hl : lv_has ls 4 [(0, .long a0), (2, .int a1)] := hl
  unfold f_X_isNumber at hF
  refine lv_iload_n hx hb d_X_isNumber_0 rfl (lv_at hl 1 rfl) ?_
  refine lv_lload_n hx hb d_X_isNumber_1 rfl (lv_at hl 0 rfl) ?_
  refine va_mabs_long hx hb (hml.trans hl.1.symm) hown (hts _ tw_80) (hts _ tw_81) (hts _ tw_4) (hts _ tw_82) (Nat.le_of_ble_eq_true rfl) (Nat.le_of_ble_eq_true rfl) (Nat.zero_le _) (Nat.zero_le _) d_X_isNumber_2 ?_
  refine W.eq (g2 := F0 m 5 ls [.long (jabs a0), .int a1]) rfl ?_
  obtain ⟨q_5, hC_5, hF⟩ := hbd hF
  have hPc := hP.sub (ws' := []) [] rfl
  have hDc := hD.sub (ws' := []) [] (by decide) rfl
  have hKc := hK.sub (tys' := []) [] rfl
  have hFc := va_free (wc := []) hD hS hA [] rfl
  refine va_calli (va_runS (As := [.long (jabs a0)]) (rest := [.int a1]) ⟨hx, hb, hml, hown, hts⟩ (c_X_bitLength l dC dI s.heap.size (jabs a0) q_5 hC_5) (cwS 1 hts g_X_168_X_bitLength rfl rfl rfl (by decide +kernel) ⟨Nat.le_of_ble_eq_true rfl, Nat.le_of_ble_eq_true rfl⟩) ⟨fun a U g mk q => by obtain ⟨q0, q1, qP, qK, qD⟩ := q; exact ⟨q0, q1, qP, va_K.moved (u := U) (U := U.calling g mk a) (Vm.Alike.refl U.vm) qK, qD⟩, fun U hU hW => ⟨rfl, by rw [hU], by rw [hU]; exact hPc, va_K.moved hW.alike hKc, hDc.weaken (fun _ _ _ _ => trivial)⟩⟩ rfl rfl hl.1 rfl (lv_room (Nat.le_of_ble_eq_true rfl)) d_X_isNumber_5 ⟨Nat.zero_le _, Nat.zero_le _⟩) hS (fun q _ h => hFc q h) hFc (fun r u t H1 locs ht hvm hw hB hz1 hk1 hS => ?_)
  obtain ⟨hP1, hK1, hD1⟩ := hB
  replace hw := hw.symm
  subst hw
  rw [ht] at hP1
  obtain ⟨hP, hD⟩ := va_join (wr := []) (w1 := []) hP hD [] [] rfl rfl (by decide) (by decide) hk1 hFc hP1 hD1
  generalize H1 = H at hP hS ⊢
  have hP := hP.sub (ws' := []) [] rfl
  have hD := hD.sub (ws' := []) [] (by decide) rfl
  refine lv_iadd hx hb d_X_isNumber_8 ?_
  refine lv_iconst (v := (1 : Int32)) hx hb d_X_isNumber_9 (by decide) ?_
  refine lv_isub hx hb d_X_isNumber_10 ?_
  refine lv_istore_n (lv' := [(3, .int ((a1 + q_5) - (1 : Int32))), (0, .long a0), (2, .int a1)]) hx hb d_X_isNumber_11 rfl hl (by decide) rfl (fun ls hl => ?_)
  refine lv_lload_n hx hb d_X_isNumber_12 rfl (lv_at hl 1 rfl) ?_
  refine lv_lconst (v := (0 : Int64)) hx hb d_X_isNumber_13 (by decide) ?_
  refine W.lcmp hx hb d_X_isNumber_14 ?_
  refine lv_if_eq (tgt := 30) hx hb d_X_isNumber_15 (by decide) (fun c_15 => ?_) (fun c_15 => ?_)
  · replace hF := hif_t c_15 hF
    refine lv_iconst (v := (1 : Int32)) hx hb d_X_isNumber_30 (by decide) ?_
    refine lv_goto (tgt := 35) hx hb d_X_isNumber_31 (by decide) ?_
    obtain rfl := Option.some.inj hF
    exact W.zret (v := (1 : Int32)) (ty := .boolean) hx hb hr rfl (fun t ht hW => ⟨⟨(1 : Int32), (), rfl, rfl, by rw [ht]; exact hP, va_K.moved hW.alike hK, hD⟩, hS.F ht⟩) hS.2.2 d_X_isNumber_35
  · replace hF := hif_f c_15 hF
    refine lv_iload_n hx hb d_X_isNumber_18 rfl (lv_at hl 0 rfl) ?_
    refine lv_bipush (v := (-100 : Int32)) hx hb d_X_isNumber_19 (by decide) ?_
    refine lv_icmp_lt (tgt := 34) hx hb d_X_isNumber_21 (by decide) (fun c_21 => ?_) (fun c_21 => ?_)
    · replace hF := hif_t c_21 hF
      refine lv_iconst (v := (0 : Int32)) hx hb d_X_isNumber_34 (by decide) ?_
      obtain rfl := Option.some.inj hF
      exact W.zret (v := (0 : Int32)) (ty := .boolean) hx hb hr rfl (fun t ht hW => ⟨⟨(0 : Int32), (), rfl, rfl, by rw [ht]; exact hP, va_K.moved hW.alike hK, hD⟩, hS.F ht⟩) hS.2.2 d_X_isNumber_35
    · replace hF := hif_f c_21 hF
      refine lv_iload_n hx hb d_X_isNumber_24 rfl (lv_at hl 0 rfl) ?_
      refine lv_bipush (v := (100 : Int32)) hx hb d_X_isNumber_25 (by decide) ?_
      refine lv_icmp_ge (tgt := 34) hx hb d_X_isNumber_27 (by decide) (fun c_27 => ?_) (fun c_27 => ?_)
      · replace hF := hif_t c_27 hF
        refine lv_iconst (v := (0 : Int32)) hx hb d_X_isNumber_34 (by decide) ?_
        obtain rfl := Option.some.inj hF
        exact W.zret (v := (0 : Int32)) (ty := .boolean) hx hb hr rfl (fun t ht hW => ⟨⟨(0 : Int32), (), rfl, rfl, by rw [ht]; exact hP, va_K.moved hW.alike hK, hD⟩, hS.F ht⟩) hS.2.2 d_X_isNumber_35
      · replace hF := hif_f c_27 hF
        refine lv_iconst (v := (1 : Int32)) hx hb d_X_isNumber_30 (by decide) ?_
        refine lv_goto (tgt := 35) hx hb d_X_isNumber_31 (by decide) ?_
        obtain rfl := Option.some.inj hF
        exact W.zret (v := (1 : Int32)) (ty := .boolean) hx hb hr rfl (fun t ht hW => ⟨⟨(1 : Int32), (), rfl, rfl, by rw [ht]; exact hP, va_K.moved hW.alike hK, hD⟩, hS.F ht⟩) hS.2.2 d_X_isNumber_35
set_option maxHeartbeats 4000000 in
set_option maxRecDepth 100000 in
theorem c_X_leftAfter (l : Launch) (dC : Nat → ClassId) (dI : Nat → Nat → Nat) (sz : Nat) (a0 : Int64) (a1 : Int64) (a2 : Int32) (o : Int64) (hF : f_X_leftAfter a0 a1 a2 = some o) : Met l y_X_leftAfter w_X_leftAfter ({ frames := 1, cells := 0, slots := 0, locals := 23 } : Room) (va_Pc [.long a0, .long a1, .int a2] (fun U => U.heap.size = sz ∧ va_P (dC, dI) classes [] U.heap ∧ va_K (dC, dI) classes [] U ∧ va_D (fun _ => True) [])) (va_Ql (fun (r : Int64) (_ : Unit) => r = o) (fun (_ : Unit) (t : State) => va_P (dC, dI) classes [] t.heap ∧ va_K (dC, dI) classes [] t ∧ va_D (va_A [] sz) []) (va_A [] sz)) 0 0 (va_A [] sz) := by
  refine Met.ofW (cc := prog_1_method_34_code) (maxL := 8) (ret := (some .long)) (by decide) rfl ?_
  intro p e s m args below meth c s₁ B hml hv
  obtain ⟨rfl, hsz, hP, hK, hD0⟩ := hv
  have hx := B.exec
  have hb := B.bytes
  have hr := B.returns
  have hts0 := atoms_spec (ws := w_X_leftAfter) B.pre
  have hts : ∀ w ∈ tb, w.before _ s = true := fun w h => hts0 w (List.mem_cons_of_mem _ h)
  clear hts0
  have hown : s.vm.findClass "RoundedNumbers" = some m.cls := findClass_of_methodNamed B.named
  have hlocks := B.notSynchronized
  subst hsz
  have hD := hD0.self (sz := s.heap.size)
  generalize hAe : va_A [] s.heap.size = A at hD ⊢
  have hA : ∀ q : Nat, s.heap.size ≤ q → A q := fun q h => by rw [← hAe]; exact Or.inr h
  clear hAe
  have hS : va_S A s.heap s.heap [] := va_S.rf
  have hP : va_P (dC, dI) classes [] s.heap := hP
  have hl := lv_entry ([.long a0, .long a1, .int a2]) (n := 8) (Nat.le_of_ble_eq_true rfl)
  rw [lg_entry_eq]
  generalize (lg_sl ([.long a0, .long a1, .int a2]) ++ List.replicate (8 - (lg_sl ([.long a0, .long a1, .int a2])).length) Slot.unset).toArray = ls at hl ⊢
  have hl : lv_has ls 8 [(0, .long a0), (2, .long a1), (4, .int a2)] := hl
  have b_17 : ∀ n_ : Nat, ∀ (x2 : Int64) (x5 : Int64) (x7 : Int32) (H : Heap) (locs : List Loc) (ls : Array Slot), va_P (dC, dI) classes [] H → va_D A [] → va_S A s.heap H locs → lv_has ls 8 [(2, .long x2), (5, .long x5), (7, .int x7)] → f_X_leftAfter_17 n_ x2 x5 x7 = some o → W p l e (headSpec w_X_leftAfter ({ frames := 1, cells := 0, slots := 0, locals := 23 } : Room)).room s m ([.long a0, .long a1, .int a2] : List Value).toArray below meth c H locs 0 0 (MQ below (va_Ql (fun (r : Int64) (_ : Unit) => r = o) (fun (_ : Unit) (t : State) => va_P (dC, dI) classes [] t.heap ∧ va_K (dC, dI) classes [] t ∧ va_D A []) A) ([.long a0, .long a1, .int a2] : List Value).toArray s 0 0 A) (F0 m 17 ls []) := by
    intro n_
    induction n_ with
    | zero =>
      intro x2 x5 x7 H locs ls hP hD hS hl hF
      rw [f_X_leftAfter_17] at hF
      exact absurd hF (by simp)
    | succ n_ ih =>
      obtain ⟨k_17, ek_17⟩ : ∃ k, k = f_X_leftAfter_17 n_ := ⟨_, rfl⟩
      rw [← ek_17] at ih
      have hk_17 := ih
      intro x2 x5 x7 H locs ls hP hD hS hl hF
      rw [f_X_leftAfter_17, ← ek_17] at hF
      refine lv_iload hx hb d_X_leftAfter_17 (lv_at hl 2 rfl) ?_
      refine lv_if_le (tgt := 42) hx hb d_X_leftAfter_19 (by decide) (fun c_19 => ?_) (fun c_19 => ?_)
      · replace hF := hif_t c_19 hF
        refine lv_lload hx hb d_X_leftAfter_42 (lv_at hl 1 rfl) ?_
        obtain rfl := Option.some.inj hF
        exact W.lret (v := x5) hx hb hr (fun t ht hW => ⟨⟨x5, (), rfl, rfl, by rw [ht]; exact hP, va_K.moved hW.alike hK, hD⟩, hS.F ht⟩) hS.2.2 d_X_leftAfter_44
      · replace hF := hif_f c_19 hF
        refine lv_lload hx hb d_X_leftAfter_22 (lv_at hl 1 rfl) ?_
        refine lv_iload hx hb d_X_leftAfter_24 (lv_at hl 2 rfl) ?_
        refine lv_bipush (v := (10 : Int32)) hx hb d_X_leftAfter_26 (by decide) ?_
        refine va_mmin hx hb (hml.trans hl.1.symm) hown (hts _ tw_223) (hts _ tw_224) (hts _ tw_4) (hts _ tw_225) (Nat.le_of_ble_eq_true rfl) (Nat.le_of_ble_eq_true rfl) (Nat.zero_le _) (Nat.zero_le _) d_X_leftAfter_28 ?_
        refine W.eq (g2 := F0 m 31 ls [.int (jmin x7 (10 : Int32)), .long x5]) rfl ?_
        refine lv_lshl (v := (jshl x5 (jmin x7 (10 : Int32)))) hx hb d_X_leftAfter_31 rfl ?_
        refine lv_lload_n hx hb d_X_leftAfter_32 rfl (lv_at hl 0 rfl) ?_
        have c_33 : ¬ x2 = 0 := hif_n hF
        replace hF := hif_f c_33 hF
        refine lv_lrem hx hb d_X_leftAfter_33 c_33 ?_
        refine lv_lstore (lv' := [(5, .long ((jshl x5 (jmin x7 (10 : Int32))) - (jshl x5 (jmin x7 (10 : Int32))) / x2 * x2)), (2, .long x2), (7, .int x7)]) hx hb d_X_leftAfter_34 hl (by decide) rfl (fun ls hl => ?_)
        refine lv_iinc (v := (x7 + (-10 : Int32))) (lv' := [(7, .int (x7 + (-10 : Int32))), (5, .long ((jshl x5 (jmin x7 (10 : Int32))) - (jshl x5 (jmin x7 (10 : Int32))) / x2 * x2)), (2, .long x2)]) hx hb d_X_leftAfter_36 hl (k := 2) rfl rfl (by decide) rfl (fun ls hl => ?_)
        refine lv_goto (tgt := 17) hx hb d_X_leftAfter_39 (by decide) ?_
        exact hk_17 x2 ((jshl x5 (jmin x7 (10 : Int32))) - (jshl x5 (jmin x7 (10 : Int32))) / x2 * x2) (x7 + (-10 : Int32)) _ _ _ hP hD hS (lv_sub hl [2, 1, 0] rfl) hF
  unfold f_X_leftAfter at hF
  refine lv_lload_n hx hb d_X_leftAfter_0 rfl (lv_at hl 1 rfl) ?_
  refine lv_lconst (v := (0 : Int64)) hx hb d_X_leftAfter_1 (by decide) ?_
  refine W.lcmp hx hb d_X_leftAfter_2 ?_
  refine lv_if_gt (tgt := 8) hx hb d_X_leftAfter_3 (by decide) (fun c_3 => ?_) (fun c_3 => ?_)
  · replace hF := hif_t c_3 hF
    refine lv_lload_n hx hb d_X_leftAfter_8 rfl (lv_at hl 0 rfl) ?_
    refine lv_lload_n hx hb d_X_leftAfter_9 rfl (lv_at hl 1 rfl) ?_
    have c_10 : ¬ a1 = 0 := hif_n hF
    replace hF := hif_f c_10 hF
    refine lv_lrem hx hb d_X_leftAfter_10 c_10 ?_
    refine lv_lstore (lv' := [(5, .long (a0 - a0 / a1 * a1)), (0, .long a0), (2, .long a1), (4, .int a2)]) hx hb d_X_leftAfter_11 hl (by decide) rfl (fun ls hl => ?_)
    refine lv_iload hx hb d_X_leftAfter_13 (lv_at hl 3 rfl) ?_
    refine lv_istore (lv' := [(7, .int a2), (5, .long (a0 - a0 / a1 * a1)), (0, .long a0), (2, .long a1), (4, .int a2)]) hx hb d_X_leftAfter_15 hl (by decide) rfl (fun ls hl => ?_)
    exact b_17 1000 a1 (a0 - a0 / a1 * a1) a2 _ _ _ hP hD hS (lv_sub hl [3, 1, 0] rfl) hF
  · replace hF := hif_f c_3 hF
    refine lv_lconst (v := (0 : Int64)) hx hb d_X_leftAfter_6 (by decide) ?_
    obtain rfl := Option.some.inj hF
    exact W.lret (v := (0 : Int64)) hx hb hr (fun t ht hW => ⟨⟨(0 : Int64), (), rfl, rfl, by rw [ht]; exact hP, va_K.moved hW.alike hK, hD⟩, hS.F ht⟩) hS.2.2 d_X_leftAfter_7
set_option maxHeartbeats 4000000 in
set_option maxRecDepth 100000 in
theorem c_X_shifted (l : Launch) (dC : Nat → ClassId) (dI : Nat → Nat → Nat) (sz : Nat) (a0 : Int64) (a1 : Int32) (o : Int64) (hF : f_X_shifted a0 a1 = some o) : Met l y_X_shifted w_X_shifted ({ frames := 0, cells := 0, slots := 0, locals := 0 } : Room) (va_Pc [.long a0, .int a1] (fun U => U.heap.size = sz ∧ va_P (dC, dI) classes [] U.heap ∧ va_K (dC, dI) classes [] U ∧ va_D (fun _ => True) [])) (va_Ql (fun (r : Int64) (_ : Unit) => r = o) (fun (_ : Unit) (t : State) => va_P (dC, dI) classes [] t.heap ∧ va_K (dC, dI) classes [] t ∧ va_D (va_A [] sz) []) (va_A [] sz)) 0 0 (va_A [] sz) := by
  refine Met.ofW (cc := prog_1_method_35_code) (maxL := 3) (ret := (some .long)) (by decide) rfl ?_
  intro p e s m args below meth c s₁ B hml hv
  obtain ⟨rfl, hsz, hP, hK, hD0⟩ := hv
  have hx := B.exec
  have hb := B.bytes
  have hr := B.returns
  have hts0 := atoms_spec (ws := w_X_shifted) B.pre
  have hts : ∀ w ∈ tb, w.before _ s = true := fun w h => hts0 w (List.mem_cons_of_mem _ h)
  clear hts0
  have hown : s.vm.findClass "RoundedNumbers" = some m.cls := findClass_of_methodNamed B.named
  have hlocks := B.notSynchronized
  subst hsz
  have hD := hD0.self (sz := s.heap.size)
  generalize hAe : va_A [] s.heap.size = A at hD ⊢
  have hA : ∀ q : Nat, s.heap.size ≤ q → A q := fun q h => by rw [← hAe]; exact Or.inr h
  clear hAe
  have hS : va_S A s.heap s.heap [] := va_S.rf
  have hP : va_P (dC, dI) classes [] s.heap := hP
  have hl := lv_entry ([.long a0, .int a1]) (n := 3) (Nat.le_of_ble_eq_true rfl)
  rw [lg_entry_eq]
  generalize (lg_sl ([.long a0, .int a1]) ++ List.replicate (3 - (lg_sl ([.long a0, .int a1])).length) Slot.unset).toArray = ls at hl ⊢
  have hl : lv_has ls 3 [(0, .long a0), (2, .int a1)] := hl
  unfold f_X_shifted at hF
  refine lv_iload_n hx hb d_X_shifted_0 rfl (lv_at hl 1 rfl) ?_
  refine lv_if_lt (tgt := 8) hx hb d_X_shifted_1 (by decide) (fun c_1 => ?_) (fun c_1 => ?_)
  · replace hF := hif_t c_1 hF
    refine lv_iload_n hx hb d_X_shifted_8 rfl (lv_at hl 1 rfl) ?_
    refine lv_bipush (v := (-64 : Int32)) hx hb d_X_shifted_9 (by decide) ?_
    refine lv_icmp_le (tgt := 21) hx hb d_X_shifted_11 (by decide) (fun c_11 => ?_) (fun c_11 => ?_)
    · replace hF := hif_t c_11 hF
      refine lv_lconst (v := (0 : Int64)) hx hb d_X_shifted_21 (by decide) ?_
      obtain rfl := Option.some.inj hF
      exact W.lret (v := (0 : Int64)) hx hb hr (fun t ht hW => ⟨⟨(0 : Int64), (), rfl, rfl, by rw [ht]; exact hP, va_K.moved hW.alike hK, hD⟩, hS.F ht⟩) hS.2.2 d_X_shifted_22
    · replace hF := hif_f c_11 hF
      refine lv_lload_n hx hb d_X_shifted_14 rfl (lv_at hl 0 rfl) ?_
      refine lv_iload_n hx hb d_X_shifted_15 rfl (lv_at hl 1 rfl) ?_
      refine lv_ineg hx hb d_X_shifted_16 ?_
      refine lv_lshr (v := (jshr a0 (-a1))) hx hb d_X_shifted_17 rfl ?_
      refine lv_goto (tgt := 22) hx hb d_X_shifted_18 (by decide) ?_
      obtain rfl := Option.some.inj hF
      exact W.lret (v := (jshr a0 (-a1))) hx hb hr (fun t ht hW => ⟨⟨(jshr a0 (-a1)), (), rfl, rfl, by rw [ht]; exact hP, va_K.moved hW.alike hK, hD⟩, hS.F ht⟩) hS.2.2 d_X_shifted_22
  · replace hF := hif_f c_1 hF
    refine lv_lload_n hx hb d_X_shifted_4 rfl (lv_at hl 0 rfl) ?_
    refine lv_iload_n hx hb d_X_shifted_5 rfl (lv_at hl 1 rfl) ?_
    refine lv_lshl (v := (jshl a0 a1)) hx hb d_X_shifted_6 rfl ?_
    obtain rfl := Option.some.inj hF
    exact W.lret (v := (jshl a0 a1)) hx hb hr (fun t ht hW => ⟨⟨(jshl a0 a1), (), rfl, rfl, by rw [ht]; exact hP, va_K.moved hW.alike hK, hD⟩, hS.F ht⟩) hS.2.2 d_X_shifted_7
set_option maxHeartbeats 4000000 in
set_option maxRecDepth 100000 in
theorem c_X_isNarrow (l : Launch) (dC : Nat → ClassId) (dI : Nat → Nat → Nat) (h_X : Nat) (h_M : Nat) (h_P : Nat) (h_E1 : Nat) (h_E2 : Nat) (h_E3 : Nat) (k_M : ClassId) (sz : Nat) (X_lo : Int32) (X_ro : Int32) (X_rc : Int32) (M_f : Nat → Int64) (a1 : Int32) (o : Int32) (hF : f_X_isNarrow M_f a1 = some o) : Met l y_X_isNarrow w_X_isNarrow ({ frames := 0, cells := 0, slots := 0, locals := 0 } : Room) (va_Pc [.ref h_X, .int a1] (fun U => U.heap.size = sz ∧ va_P (dC, dI) classes [cX h_X h_M h_P h_E1 h_E2 h_E3 X_lo X_ro X_rc, cL h_M k_M 8 M_f] U.heap ∧ va_K (dC, dI) classes [(k_M, .long)] U ∧ va_D (fun _ => True) [cX h_X h_M h_P h_E1 h_E2 h_E3 X_lo X_ro X_rc, cL h_M k_M 8 M_f])) (va_Qi (fun (r : Int32) (_ : Unit) => r = o) (fun (_ : Unit) (t : State) => va_P (dC, dI) classes [cX h_X h_M h_P h_E1 h_E2 h_E3 X_lo X_ro X_rc, cL h_M k_M 8 M_f] t.heap ∧ va_K (dC, dI) classes [(k_M, .long)] t ∧ va_D (va_A [cX h_X h_M h_P h_E1 h_E2 h_E3 X_lo X_ro X_rc, cL h_M k_M 8 M_f] sz) [cX h_X h_M h_P h_E1 h_E2 h_E3 X_lo X_ro X_rc, cL h_M k_M 8 M_f]) (va_A [cX h_X h_M h_P h_E1 h_E2 h_E3 X_lo X_ro X_rc, cL h_M k_M 8 M_f] sz)) 0 0 (va_A [cX h_X h_M h_P h_E1 h_E2 h_E3 X_lo X_ro X_rc, cL h_M k_M 8 M_f] sz) := by
  refine Met.ofW (cc := prog_1_method_21_code) (maxL := 2) (ret := (some .boolean)) (by decide) rfl ?_
  intro p e s m args below meth c s₁ B hml hv
  obtain ⟨rfl, hsz, hP, hK, hD0⟩ := hv
  have hx := B.exec
  have hb := B.bytes
  have hr := B.returns
  have hts0 := atoms_spec (ws := w_X_isNarrow) B.pre
  have hts : ∀ w ∈ tb, w.before _ s = true := fun w h => hts0 w (List.mem_cons_of_mem _ h)
  clear hts0
  have hown : s.vm.findClass "RoundedNumbers" = some m.cls := findClass_of_methodNamed B.named
  have hlocks := B.notSynchronized
  subst hsz
  have hD := hD0.self (sz := s.heap.size)
  generalize hAe : va_A [cX h_X h_M h_P h_E1 h_E2 h_E3 X_lo X_ro X_rc, cL h_M k_M 8 M_f] s.heap.size = A at hD ⊢
  have hA : ∀ q : Nat, s.heap.size ≤ q → A q := fun q h => by rw [← hAe]; exact Or.inr h
  clear hAe
  have hS : va_S A s.heap s.heap [] := va_S.rf
  have hP : va_P (dC, dI) classes [cX h_X h_M h_P h_E1 h_E2 h_E3 X_lo X_ro X_rc, cL h_M k_M 8 M_f] s.heap := hP
  have hl := lv_entry ([.ref h_X, .int a1]) (n := 2) (Nat.le_of_ble_eq_true rfl)
  rw [lg_entry_eq]
  generalize (lg_sl ([.ref h_X, .int a1]) ++ List.replicate (2 - (lg_sl ([.ref h_X, .int a1])).length) Slot.unset).toArray = ls at hl ⊢
  have hl : lv_has ls 2 [(0, .ref h_X), (1, .int a1)] := hl
  unfold f_X_isNarrow at hF
  refine lv_aload_n hx hb d_X_isNarrow_0 rfl (lv_at hl 0 rfl) ?_
  refine va_get (D := (dC, dI)) (ci := 1) (v := .ref h_M) (C := "RoundedNumbers") (T := F_X) (N := 8) hx hb hts in_X hown hK hP 0 rfl rfl 0 (by decide) (hts _ tw_43) (fun _ h9 => h9) rfl d_X_isNarrow_1 ?_
  refine lv_iload_n hx hb d_X_isNarrow_4 rfl (lv_at hl 1 rfl) ?_
  have c_5 : ¬ (a1 < 0 ∨ 8 ≤ a1.toNatClampNeg) := hif_n hF
  replace hF := hif_f c_5 hF
  refine va_lald hx hb hK hP 1 0 rfl rfl c_5 d_X_isNarrow_5 ?_
  refine lv_ldc2 (v := (536870911 : Int64)) hx hb hown (hts _ tw_113) d_X_isNarrow_6 ?_
  refine lv_land hx hb d_X_isNarrow_9 ?_
  refine lv_lconst (v := (0 : Int64)) hx hb d_X_isNarrow_10 (by decide) ?_
  refine W.lcmp hx hb d_X_isNarrow_11 ?_
  refine lv_if_ne (tgt := 19) hx hb d_X_isNarrow_12 (by decide) (fun c_12 => ?_) (fun c_12 => ?_)
  · replace hF := hif_f c_12 hF
    refine lv_iconst (v := (0 : Int32)) hx hb d_X_isNarrow_19 (by decide) ?_
    obtain rfl := Option.some.inj hF
    exact W.zret (v := (0 : Int32)) (ty := .boolean) hx hb hr rfl (fun t ht hW => ⟨⟨(0 : Int32), (), rfl, rfl, by rw [ht]; exact hP, va_K.moved hW.alike hK, hD⟩, hS.F ht⟩) hS.2.2 d_X_isNarrow_20
  · replace hF := hif_t c_12 hF
    refine lv_iconst (v := (1 : Int32)) hx hb d_X_isNarrow_15 (by decide) ?_
    refine lv_goto (tgt := 20) hx hb d_X_isNarrow_16 (by decide) ?_
    obtain rfl := Option.some.inj hF
    exact W.zret (v := (1 : Int32)) (ty := .boolean) hx hb hr rfl (fun t ht hW => ⟨⟨(1 : Int32), (), rfl, rfl, by rw [ht]; exact hP, va_K.moved hW.alike hK, hD⟩, hS.F ht⟩) hS.2.2 d_X_isNarrow_20
set_option maxHeartbeats 4000000 in
set_option maxRecDepth 100000 in
theorem c_X_mayTake (l : Launch) (dC : Nat → ClassId) (dI : Nat → Nat → Nat) (h_X : Nat) (h_M : Nat) (h_P : Nat) (h_E1 : Nat) (h_E2 : Nat) (h_E3 : Nat) (k_M : ClassId) (sz : Nat) (X_lo : Int32) (X_ro : Int32) (X_rc : Int32) (M_f : Nat → Int64) (a1 : Int32) (a2 : Int32) (a3 : Int32) (a4 : Int32) (o : Int32) (hF : f_X_mayTake M_f a1 a2 a3 a4 = some o) : Met l y_X_mayTake w_X_mayTake ({ frames := 1, cells := 0, slots := 0, locals := 21 } : Room) (va_Pc [.ref h_X, .int a1, .int a2, .int a3, .int a4] (fun U => U.heap.size = sz ∧ va_P (dC, dI) classes [cX h_X h_M h_P h_E1 h_E2 h_E3 X_lo X_ro X_rc, cL h_M k_M 8 M_f] U.heap ∧ va_K (dC, dI) classes [(k_M, .long)] U ∧ va_D (fun _ => True) [cX h_X h_M h_P h_E1 h_E2 h_E3 X_lo X_ro X_rc, cL h_M k_M 8 M_f])) (va_Qi (fun (r : Int32) (_ : Unit) => r = o) (fun (_ : Unit) (t : State) => va_P (dC, dI) classes [cX h_X h_M h_P h_E1 h_E2 h_E3 X_lo X_ro X_rc, cL h_M k_M 8 M_f] t.heap ∧ va_K (dC, dI) classes [(k_M, .long)] t ∧ va_D (va_A [cX h_X h_M h_P h_E1 h_E2 h_E3 X_lo X_ro X_rc, cL h_M k_M 8 M_f] sz) [cX h_X h_M h_P h_E1 h_E2 h_E3 X_lo X_ro X_rc, cL h_M k_M 8 M_f]) (va_A [cX h_X h_M h_P h_E1 h_E2 h_E3 X_lo X_ro X_rc, cL h_M k_M 8 M_f] sz)) 0 0 (va_A [cX h_X h_M h_P h_E1 h_E2 h_E3 X_lo X_ro X_rc, cL h_M k_M 8 M_f] sz) := by
  refine Met.ofW (cc := prog_1_method_22_code) (maxL := 5) (ret := (some .boolean)) (by decide) rfl ?_
  intro p e s m args below meth c s₁ B hml hv
  obtain ⟨rfl, hsz, hP, hK, hD0⟩ := hv
  have hx := B.exec
  have hb := B.bytes
  have hr := B.returns
  have hts0 := atoms_spec (ws := w_X_mayTake) B.pre
  have hts : ∀ w ∈ tb, w.before _ s = true := fun w h => hts0 w (List.mem_cons_of_mem _ h)
  clear hts0
  have hown : s.vm.findClass "RoundedNumbers" = some m.cls := findClass_of_methodNamed B.named
  have hlocks := B.notSynchronized
  subst hsz
  have hD := hD0.self (sz := s.heap.size)
  generalize hAe : va_A [cX h_X h_M h_P h_E1 h_E2 h_E3 X_lo X_ro X_rc, cL h_M k_M 8 M_f] s.heap.size = A at hD ⊢
  have hA : ∀ q : Nat, s.heap.size ≤ q → A q := fun q h => by rw [← hAe]; exact Or.inr h
  clear hAe
  have hS : va_S A s.heap s.heap [] := va_S.rf
  have hP : va_P (dC, dI) classes [cX h_X h_M h_P h_E1 h_E2 h_E3 X_lo X_ro X_rc, cL h_M k_M 8 M_f] s.heap := hP
  have hl := lv_entry ([.ref h_X, .int a1, .int a2, .int a3, .int a4]) (n := 5) (Nat.le_of_ble_eq_true rfl)
  rw [lg_entry_eq]
  generalize (lg_sl ([.ref h_X, .int a1, .int a2, .int a3, .int a4]) ++ List.replicate (5 - (lg_sl ([.ref h_X, .int a1, .int a2, .int a3, .int a4])).length) Slot.unset).toArray = ls at hl ⊢
  have hl : lv_has ls 5 [(0, .ref h_X), (1, .int a1), (2, .int a2), (3, .int a3), (4, .int a4)] := hl
  unfold f_X_mayTake at hF
  refine lv_iload_n hx hb d_X_mayTake_0 rfl (lv_at hl 1 rfl) ?_
  obtain ⟨q_1, hC_1, hF⟩ := hbd hF
  have hPc := hP.sub (ws' := []) [] rfl
  have hDc := hD.sub (ws' := []) [] (by decide) rfl
  have hKc := hK.sub (tys' := []) [] rfl
  have hFc := va_free (wc := []) hD hS hA [] rfl
  refine va_calli (va_runS (As := [.int a1]) (rest := []) ⟨hx, hb, hml, hown, hts⟩ (c_X_isRegister l dC dI s.heap.size a1 q_1 hC_1) (cwS 1 hts g_X_30_X_isRegister rfl rfl rfl (by decide +kernel) ⟨Nat.le_of_ble_eq_true rfl, Nat.le_of_ble_eq_true rfl⟩) ⟨fun a U g mk q => by obtain ⟨q0, q1, qP, qK, qD⟩ := q; exact ⟨q0, q1, qP, va_K.moved (u := U) (U := U.calling g mk a) (Vm.Alike.refl U.vm) qK, qD⟩, fun U hU hW => ⟨rfl, by rw [hU], by rw [hU]; exact hPc, va_K.moved hW.alike hKc, hDc.weaken (fun _ _ _ _ => trivial)⟩⟩ rfl rfl hl.1 rfl (lv_room (Nat.le_of_ble_eq_true rfl)) d_X_mayTake_1 ⟨Nat.zero_le _, Nat.zero_le _⟩) hS (fun q _ h => hFc q h) hFc (fun r u t H1 locs ht hvm hw hB hz1 hk1 hS => ?_)
  obtain ⟨hP1, hK1, hD1⟩ := hB
  replace hw := hw.symm
  subst hw
  rw [ht] at hP1
  obtain ⟨hP, hD⟩ := va_join (wr := [cX h_X h_M h_P h_E1 h_E2 h_E3 X_lo X_ro X_rc, cL h_M k_M 8 M_f]) (w1 := []) hP hD [] [0, 1] rfl rfl (by decide) (by decide) hk1 hFc hP1 hD1
  generalize H1 = H at hP hS ⊢
  have hP := hP.sub (ws' := [cX h_X h_M h_P h_E1 h_E2 h_E3 X_lo X_ro X_rc, cL h_M k_M 8 M_f]) [0, 1] rfl
  have hD := hD.sub (ws' := [cX h_X h_M h_P h_E1 h_E2 h_E3 X_lo X_ro X_rc, cL h_M k_M 8 M_f]) [0, 1] (by decide) rfl
  refine lv_if_eq (tgt := 21) hx hb d_X_mayTake_4 (by decide) (fun c_4 => ?_) (fun c_4 => ?_)
  · replace hF := hif_t c_4 hF
    refine lv_iconst (v := (0 : Int32)) hx hb d_X_mayTake_21 (by decide) ?_
    obtain rfl := Option.some.inj hF
    exact W.zret (v := (0 : Int32)) (ty := .boolean) hx hb hr rfl (fun t ht hW => ⟨⟨(0 : Int32), (), rfl, rfl, by rw [ht]; exact hP, va_K.moved hW.alike hK, hD⟩, hS.F ht⟩) hS.2.2 d_X_mayTake_22
  · replace hF := hif_f c_4 hF
    refine lv_iload_n hx hb d_X_mayTake_7 rfl (lv_at hl 2 rfl) ?_
    obtain ⟨q_8, hC_8, hF⟩ := hbd hF
    have hPc := hP.sub (ws' := []) [] rfl
    have hDc := hD.sub (ws' := []) [] (by decide) rfl
    have hKc := hK.sub (tys' := []) [] rfl
    have hFc := va_free (wc := []) hD hS hA [] rfl
    refine va_calli (va_runS (As := [.int a2]) (rest := []) ⟨hx, hb, hml, hown, hts⟩ (c_X_isRegister l dC dI H.size a2 q_8 hC_8) (cwS 1 hts g_X_30_X_isRegister rfl rfl rfl (by decide +kernel) ⟨Nat.le_of_ble_eq_true rfl, Nat.le_of_ble_eq_true rfl⟩) ⟨fun a U g mk q => by obtain ⟨q0, q1, qP, qK, qD⟩ := q; exact ⟨q0, q1, qP, va_K.moved (u := U) (U := U.calling g mk a) (Vm.Alike.refl U.vm) qK, qD⟩, fun U hU hW => ⟨rfl, by rw [hU], by rw [hU]; exact hPc, va_K.moved hW.alike hKc, hDc.weaken (fun _ _ _ _ => trivial)⟩⟩ rfl rfl hl.1 rfl (lv_room (Nat.le_of_ble_eq_true rfl)) d_X_mayTake_8 ⟨Nat.zero_le _, Nat.zero_le _⟩) hS (fun q _ h => hFc q h) hFc (fun r u t H1 locs ht hvm hw hB hz1 hk1 hS => ?_)
    obtain ⟨hP1, hK1, hD1⟩ := hB
    replace hw := hw.symm
    subst hw
    rw [ht] at hP1
    obtain ⟨hP, hD⟩ := va_join (wr := [cX h_X h_M h_P h_E1 h_E2 h_E3 X_lo X_ro X_rc, cL h_M k_M 8 M_f]) (w1 := []) hP hD [] [0, 1] rfl rfl (by decide) (by decide) hk1 hFc hP1 hD1
    generalize H1 = H at hP hS ⊢
    have hP := hP.sub (ws' := [cX h_X h_M h_P h_E1 h_E2 h_E3 X_lo X_ro X_rc, cL h_M k_M 8 M_f]) [0, 1] rfl
    have hD := hD.sub (ws' := [cX h_X h_M h_P h_E1 h_E2 h_E3 X_lo X_ro X_rc, cL h_M k_M 8 M_f]) [0, 1] (by decide) rfl
    refine lv_if_eq (tgt := 21) hx hb d_X_mayTake_11 (by decide) (fun c_11 => ?_) (fun c_11 => ?_)
    · replace hF := hif_t c_11 hF
      refine lv_iconst (v := (0 : Int32)) hx hb d_X_mayTake_21 (by decide) ?_
      obtain rfl := Option.some.inj hF
      exact W.zret (v := (0 : Int32)) (ty := .boolean) hx hb hr rfl (fun t ht hW => ⟨⟨(0 : Int32), (), rfl, rfl, by rw [ht]; exact hP, va_K.moved hW.alike hK, hD⟩, hS.F ht⟩) hS.2.2 d_X_mayTake_22
    · replace hF := hif_f c_11 hF
      refine lv_iload_n hx hb d_X_mayTake_14 rfl (lv_at hl 3 rfl) ?_
      obtain ⟨q_15, hC_15, hF⟩ := hbd hF
      have hPc := hP.sub (ws' := []) [] rfl
      have hDc := hD.sub (ws' := []) [] (by decide) rfl
      have hKc := hK.sub (tys' := []) [] rfl
      have hFc := va_free (wc := []) hD hS hA [] rfl
      refine va_calli (va_runS (As := [.int a3]) (rest := []) ⟨hx, hb, hml, hown, hts⟩ (c_X_isRegister l dC dI H.size a3 q_15 hC_15) (cwS 1 hts g_X_30_X_isRegister rfl rfl rfl (by decide +kernel) ⟨Nat.le_of_ble_eq_true rfl, Nat.le_of_ble_eq_true rfl⟩) ⟨fun a U g mk q => by obtain ⟨q0, q1, qP, qK, qD⟩ := q; exact ⟨q0, q1, qP, va_K.moved (u := U) (U := U.calling g mk a) (Vm.Alike.refl U.vm) qK, qD⟩, fun U hU hW => ⟨rfl, by rw [hU], by rw [hU]; exact hPc, va_K.moved hW.alike hKc, hDc.weaken (fun _ _ _ _ => trivial)⟩⟩ rfl rfl hl.1 rfl (lv_room (Nat.le_of_ble_eq_true rfl)) d_X_mayTake_15 ⟨Nat.zero_le _, Nat.zero_le _⟩) hS (fun q _ h => hFc q h) hFc (fun r u t H1 locs ht hvm hw hB hz1 hk1 hS => ?_)
      obtain ⟨hP1, hK1, hD1⟩ := hB
      replace hw := hw.symm
      subst hw
      rw [ht] at hP1
      obtain ⟨hP, hD⟩ := va_join (wr := [cX h_X h_M h_P h_E1 h_E2 h_E3 X_lo X_ro X_rc, cL h_M k_M 8 M_f]) (w1 := []) hP hD [] [0, 1] rfl rfl (by decide) (by decide) hk1 hFc hP1 hD1
      generalize H1 = H at hP hS ⊢
      have hP := hP.sub (ws' := [cX h_X h_M h_P h_E1 h_E2 h_E3 X_lo X_ro X_rc, cL h_M k_M 8 M_f]) [0, 1] rfl
      have hD := hD.sub (ws' := [cX h_X h_M h_P h_E1 h_E2 h_E3 X_lo X_ro X_rc, cL h_M k_M 8 M_f]) [0, 1] (by decide) rfl
      refine lv_if_ne (tgt := 23) hx hb d_X_mayTake_18 (by decide) (fun c_18 => ?_) (fun c_18 => ?_)
      · replace hF := hif_f c_18 hF
        refine lv_iload hx hb d_X_mayTake_23 (lv_at hl 4 rfl) ?_
        refine lv_if_eq (tgt := 44) hx hb d_X_mayTake_25 (by decide) (fun c_25 => ?_) (fun c_25 => ?_)
        · replace hF := hif_t c_25 hF
          refine lv_iconst (v := (1 : Int32)) hx hb d_X_mayTake_44 (by decide) ?_
          refine lv_goto (tgt := 49) hx hb d_X_mayTake_45 (by decide) ?_
          obtain rfl := Option.some.inj hF
          exact W.zret (v := (1 : Int32)) (ty := .boolean) hx hb hr rfl (fun t ht hW => ⟨⟨(1 : Int32), (), rfl, rfl, by rw [ht]; exact hP, va_K.moved hW.alike hK, hD⟩, hS.F ht⟩) hS.2.2 d_X_mayTake_49
        · replace hF := hif_f c_25 hF
          refine lv_aload_n hx hb d_X_mayTake_28 rfl (lv_at hl 0 rfl) ?_
          refine lv_iload_n hx hb d_X_mayTake_29 rfl (lv_at hl 2 rfl) ?_
          obtain ⟨q_30, hC_30, hF⟩ := hbd hF
          have hPc := hP.sub (ws' := [cX h_X h_M h_P h_E1 h_E2 h_E3 X_lo X_ro X_rc, cL h_M k_M 8 M_f]) [0, 1] rfl
          have hDc := hD.sub (ws' := [cX h_X h_M h_P h_E1 h_E2 h_E3 X_lo X_ro X_rc, cL h_M k_M 8 M_f]) [0, 1] (by decide) rfl
          have hKc := hK.sub (tys' := [(k_M, .long)]) [0] rfl
          have hFc := va_free (wc := [cX h_X h_M h_P h_E1 h_E2 h_E3 X_lo X_ro X_rc, cL h_M k_M 8 M_f]) hD hS hA [0, 1] rfl
          refine va_calli (va_runV (As := [.int a2]) (rest := []) ⟨hx, hb, hml, hown, hts⟩ (c_X_isNarrow l dC dI h_X h_M h_P h_E1 h_E2 h_E3 k_M H.size X_lo X_ro X_rc M_f a2 q_30 hC_30) (cwV 1 hts g_X_100_X_isNarrow rfl rfl rfl (by decide +kernel) ⟨Nat.le_of_ble_eq_true rfl, Nat.le_of_ble_eq_true rfl⟩) ⟨fun a U g mk q => by obtain ⟨q0, q1, qP, qK, qD⟩ := q; exact ⟨q0, q1, qP, va_K.moved (u := U) (U := U.calling g mk a) (Vm.Alike.refl U.vm) qK, qD⟩, va_recv hKc hPc (ci := 1) (q0 := 0) rfl rfl, fun U hU hW => ⟨rfl, by rw [hU], by rw [hU]; exact hPc, va_K.moved hW.alike hKc, hDc.weaken (fun _ _ _ _ => trivial)⟩⟩ rfl rfl hl.1 rfl (lv_room (Nat.le_of_ble_eq_true rfl)) d_X_mayTake_30 ⟨Nat.zero_le _, Nat.zero_le _⟩) hS (fun q _ h => hFc q h) hFc (fun r u t H1 locs ht hvm hw hB hz1 hk1 hS => ?_)
          obtain ⟨hP1, hK1, hD1⟩ := hB
          replace hw := hw.symm
          subst hw
          rw [ht] at hP1
          obtain ⟨hP, hD⟩ := va_join (wr := []) (w1 := [cX h_X h_M h_P h_E1 h_E2 h_E3 X_lo X_ro X_rc, cL h_M k_M 8 M_f]) hP hD [0, 1] [] rfl rfl (by decide) (by decide) hk1 hFc hP1 hD1
          generalize H1 = H at hP hS ⊢
          have hP := hP.sub (ws' := [cX h_X h_M h_P h_E1 h_E2 h_E3 X_lo X_ro X_rc, cL h_M k_M 8 M_f]) [0, 1] rfl
          have hD := hD.sub (ws' := [cX h_X h_M h_P h_E1 h_E2 h_E3 X_lo X_ro X_rc, cL h_M k_M 8 M_f]) [0, 1] (by decide) rfl
          refine lv_if_eq (tgt := 48) hx hb d_X_mayTake_33 (by decide) (fun c_33 => ?_) (fun c_33 => ?_)
          · replace hF := hif_t c_33 hF
            refine lv_iconst (v := (0 : Int32)) hx hb d_X_mayTake_48 (by decide) ?_
            obtain rfl := Option.some.inj hF
            exact W.zret (v := (0 : Int32)) (ty := .boolean) hx hb hr rfl (fun t ht hW => ⟨⟨(0 : Int32), (), rfl, rfl, by rw [ht]; exact hP, va_K.moved hW.alike hK, hD⟩, hS.F ht⟩) hS.2.2 d_X_mayTake_49
          · replace hF := hif_f c_33 hF
            refine lv_aload_n hx hb d_X_mayTake_36 rfl (lv_at hl 0 rfl) ?_
            refine lv_iload_n hx hb d_X_mayTake_37 rfl (lv_at hl 3 rfl) ?_
            obtain ⟨q_38, hC_38, hF⟩ := hbd hF
            have hPc := hP.sub (ws' := [cX h_X h_M h_P h_E1 h_E2 h_E3 X_lo X_ro X_rc, cL h_M k_M 8 M_f]) [0, 1] rfl
            have hDc := hD.sub (ws' := [cX h_X h_M h_P h_E1 h_E2 h_E3 X_lo X_ro X_rc, cL h_M k_M 8 M_f]) [0, 1] (by decide) rfl
            have hKc := hK.sub (tys' := [(k_M, .long)]) [0] rfl
            have hFc := va_free (wc := [cX h_X h_M h_P h_E1 h_E2 h_E3 X_lo X_ro X_rc, cL h_M k_M 8 M_f]) hD hS hA [0, 1] rfl
            refine va_calli (va_runV (As := [.int a3]) (rest := []) ⟨hx, hb, hml, hown, hts⟩ (c_X_isNarrow l dC dI h_X h_M h_P h_E1 h_E2 h_E3 k_M H.size X_lo X_ro X_rc M_f a3 q_38 hC_38) (cwV 1 hts g_X_100_X_isNarrow rfl rfl rfl (by decide +kernel) ⟨Nat.le_of_ble_eq_true rfl, Nat.le_of_ble_eq_true rfl⟩) ⟨fun a U g mk q => by obtain ⟨q0, q1, qP, qK, qD⟩ := q; exact ⟨q0, q1, qP, va_K.moved (u := U) (U := U.calling g mk a) (Vm.Alike.refl U.vm) qK, qD⟩, va_recv hKc hPc (ci := 1) (q0 := 0) rfl rfl, fun U hU hW => ⟨rfl, by rw [hU], by rw [hU]; exact hPc, va_K.moved hW.alike hKc, hDc.weaken (fun _ _ _ _ => trivial)⟩⟩ rfl rfl hl.1 rfl (lv_room (Nat.le_of_ble_eq_true rfl)) d_X_mayTake_38 ⟨Nat.zero_le _, Nat.zero_le _⟩) hS (fun q _ h => hFc q h) hFc (fun r u t H1 locs ht hvm hw hB hz1 hk1 hS => ?_)
            obtain ⟨hP1, hK1, hD1⟩ := hB
            replace hw := hw.symm
            subst hw
            rw [ht] at hP1
            obtain ⟨hP, hD⟩ := va_join (wr := []) (w1 := [cX h_X h_M h_P h_E1 h_E2 h_E3 X_lo X_ro X_rc, cL h_M k_M 8 M_f]) hP hD [0, 1] [] rfl rfl (by decide) (by decide) hk1 hFc hP1 hD1
            generalize H1 = H at hP hS ⊢
            have hP := hP.sub (ws' := [cX h_X h_M h_P h_E1 h_E2 h_E3 X_lo X_ro X_rc, cL h_M k_M 8 M_f]) [0, 1] rfl
            have hD := hD.sub (ws' := [cX h_X h_M h_P h_E1 h_E2 h_E3 X_lo X_ro X_rc, cL h_M k_M 8 M_f]) [0, 1] (by decide) rfl
            refine lv_if_eq (tgt := 48) hx hb d_X_mayTake_41 (by decide) (fun c_41 => ?_) (fun c_41 => ?_)
            · replace hF := hif_t c_41 hF
              refine lv_iconst (v := (0 : Int32)) hx hb d_X_mayTake_48 (by decide) ?_
              obtain rfl := Option.some.inj hF
              exact W.zret (v := (0 : Int32)) (ty := .boolean) hx hb hr rfl (fun t ht hW => ⟨⟨(0 : Int32), (), rfl, rfl, by rw [ht]; exact hP, va_K.moved hW.alike hK, hD⟩, hS.F ht⟩) hS.2.2 d_X_mayTake_49
            · replace hF := hif_f c_41 hF
              refine lv_iconst (v := (1 : Int32)) hx hb d_X_mayTake_44 (by decide) ?_
              refine lv_goto (tgt := 49) hx hb d_X_mayTake_45 (by decide) ?_
              obtain rfl := Option.some.inj hF
              exact W.zret (v := (1 : Int32)) (ty := .boolean) hx hb hr rfl (fun t ht hW => ⟨⟨(1 : Int32), (), rfl, rfl, by rw [ht]; exact hP, va_K.moved hW.alike hK, hD⟩, hS.F ht⟩) hS.2.2 d_X_mayTake_49
      · replace hF := hif_t c_18 hF
        refine lv_iconst (v := (0 : Int32)) hx hb d_X_mayTake_21 (by decide) ?_
        obtain rfl := Option.some.inj hF
        exact W.zret (v := (0 : Int32)) (ty := .boolean) hx hb hr rfl (fun t ht hW => ⟨⟨(0 : Int32), (), rfl, rfl, by rw [ht]; exact hP, va_K.moved hW.alike hK, hD⟩, hS.F ht⟩) hS.2.2 d_X_mayTake_22
set_option maxHeartbeats 4000000 in
set_option maxRecDepth 100000 in
theorem c_X_narrowRegisters (l : Launch) (dC : Nat → ClassId) (dI : Nat → Nat → Nat) (h_X : Nat) (h_M : Nat) (h_P : Nat) (h_E1 : Nat) (h_E2 : Nat) (h_E3 : Nat) (k_M : ClassId) (sz : Nat) (X_lo : Int32) (X_ro : Int32) (X_rc : Int32) (M_f : Nat → Int64) (o : Int32) (hF : f_X_narrowRegisters M_f = some o) : Met l y_X_narrowRegisters w_X_narrowRegisters ({ frames := 1, cells := 0, slots := 0, locals := 21 } : Room) (va_Pc [.ref h_X] (fun U => U.heap.size = sz ∧ va_P (dC, dI) classes [cX h_X h_M h_P h_E1 h_E2 h_E3 X_lo X_ro X_rc, cL h_M k_M 8 M_f] U.heap ∧ va_K (dC, dI) classes [(k_M, .long)] U ∧ va_D (fun _ => True) [cX h_X h_M h_P h_E1 h_E2 h_E3 X_lo X_ro X_rc, cL h_M k_M 8 M_f])) (va_Qi (fun (r : Int32) (_ : Unit) => r = o) (fun (_ : Unit) (t : State) => va_P (dC, dI) classes [cX h_X h_M h_P h_E1 h_E2 h_E3 X_lo X_ro X_rc, cL h_M k_M 8 M_f] t.heap ∧ va_K (dC, dI) classes [(k_M, .long)] t ∧ va_D (va_A [cX h_X h_M h_P h_E1 h_E2 h_E3 X_lo X_ro X_rc, cL h_M k_M 8 M_f] sz) [cX h_X h_M h_P h_E1 h_E2 h_E3 X_lo X_ro X_rc, cL h_M k_M 8 M_f]) (va_A [cX h_X h_M h_P h_E1 h_E2 h_E3 X_lo X_ro X_rc, cL h_M k_M 8 M_f] sz)) 0 0 (va_A [cX h_X h_M h_P h_E1 h_E2 h_E3 X_lo X_ro X_rc, cL h_M k_M 8 M_f] sz) := by
  refine Met.ofW (cc := prog_1_method_23_code) (maxL := 3) (ret := (some .int)) (by decide) rfl ?_
  intro p e s m args below meth c s₁ B hml hv
  obtain ⟨rfl, hsz, hP, hK, hD0⟩ := hv
  have hx := B.exec
  have hb := B.bytes
  have hr := B.returns
  have hts0 := atoms_spec (ws := w_X_narrowRegisters) B.pre
  have hts : ∀ w ∈ tb, w.before _ s = true := fun w h => hts0 w (List.mem_cons_of_mem _ h)
  clear hts0
  have hown : s.vm.findClass "RoundedNumbers" = some m.cls := findClass_of_methodNamed B.named
  have hlocks := B.notSynchronized
  subst hsz
  have hD := hD0.self (sz := s.heap.size)
  generalize hAe : va_A [cX h_X h_M h_P h_E1 h_E2 h_E3 X_lo X_ro X_rc, cL h_M k_M 8 M_f] s.heap.size = A at hD ⊢
  have hA : ∀ q : Nat, s.heap.size ≤ q → A q := fun q h => by rw [← hAe]; exact Or.inr h
  clear hAe
  have hS : va_S A s.heap s.heap [] := va_S.rf
  have hP : va_P (dC, dI) classes [cX h_X h_M h_P h_E1 h_E2 h_E3 X_lo X_ro X_rc, cL h_M k_M 8 M_f] s.heap := hP
  have hl := lv_entry ([.ref h_X]) (n := 3) (Nat.le_of_ble_eq_true rfl)
  rw [lg_entry_eq]
  generalize (lg_sl ([.ref h_X]) ++ List.replicate (3 - (lg_sl ([.ref h_X])).length) Slot.unset).toArray = ls at hl ⊢
  have hl : lv_has ls 3 [(0, .ref h_X)] := hl
  have b_4 : ∀ n_ : Nat, ∀ (x1 : Int32) (x2 : Int32) (M_f : Nat → Int64) (X_lo : Int32) (X_ro : Int32) (X_rc : Int32) (H : Heap) (locs : List Loc) (ls : Array Slot), va_P (dC, dI) classes [cX h_X h_M h_P h_E1 h_E2 h_E3 X_lo X_ro X_rc, cL h_M k_M 8 M_f] H → va_D A [cX h_X h_M h_P h_E1 h_E2 h_E3 X_lo X_ro X_rc, cL h_M k_M 8 M_f] → va_S A s.heap H locs → lv_has ls 3 [(0, .ref h_X), (1, .int x1), (2, .int x2)] → f_X_narrowRegisters_4 n_ x1 x2 M_f = some o → W p l e (headSpec w_X_narrowRegisters ({ frames := 1, cells := 0, slots := 0, locals := 21 } : Room)).room s m ([.ref h_X] : List Value).toArray below meth c H locs 0 0 (MQ below (va_Qi (fun (r : Int32) (_ : Unit) => r = o) (fun (_ : Unit) (t : State) => va_P (dC, dI) classes [cX h_X h_M h_P h_E1 h_E2 h_E3 X_lo X_ro X_rc, cL h_M k_M 8 M_f] t.heap ∧ va_K (dC, dI) classes [(k_M, .long)] t ∧ va_D A [cX h_X h_M h_P h_E1 h_E2 h_E3 X_lo X_ro X_rc, cL h_M k_M 8 M_f]) A) ([.ref h_X] : List Value).toArray s 0 0 A) (F0 m 4 ls []) := by
    intro n_
    induction n_ with
    | zero =>
      intro x1 x2 M_f X_lo X_ro X_rc H locs ls hP hD hS hl hF
      rw [f_X_narrowRegisters_4] at hF
      exact absurd hF (by simp)
    | succ n_ ih =>
      obtain ⟨k_4, ek_4⟩ : ∃ k, k = f_X_narrowRegisters_4 n_ := ⟨_, rfl⟩
      rw [← ek_4] at ih
      have hk_4 := ih
      intro x1 x2 M_f X_lo X_ro X_rc H locs ls hP hD hS hl hF
      rw [f_X_narrowRegisters_4, ← ek_4] at hF
      refine lv_iload_n hx hb d_X_narrowRegisters_4 rfl (lv_at hl 2 rfl) ?_
      refine lv_bipush (v := (8 : Int32)) hx hb d_X_narrowRegisters_5 (by decide) ?_
      refine lv_icmp_ge (tgt := 27) hx hb d_X_narrowRegisters_7 (by decide) (fun c_7 => ?_) (fun c_7 => ?_)
      · replace hF := hif_t c_7 hF
        refine lv_iload_n hx hb d_X_narrowRegisters_27 rfl (lv_at hl 1 rfl) ?_
        obtain rfl := Option.some.inj hF
        exact W.iret (v := x1) hx hb hr (fun t ht hW => ⟨⟨x1, (), rfl, rfl, by rw [ht]; exact hP, va_K.moved hW.alike hK, hD⟩, hS.F ht⟩) hS.2.2 d_X_narrowRegisters_28
      · replace hF := hif_f c_7 hF
        refine lv_aload_n hx hb d_X_narrowRegisters_10 rfl (lv_at hl 0 rfl) ?_
        refine lv_iload_n hx hb d_X_narrowRegisters_11 rfl (lv_at hl 2 rfl) ?_
        obtain ⟨q_12, hC_12, hF⟩ := hbd hF
        have hPc := hP.sub (ws' := [cX h_X h_M h_P h_E1 h_E2 h_E3 X_lo X_ro X_rc, cL h_M k_M 8 M_f]) [0, 1] rfl
        have hDc := hD.sub (ws' := [cX h_X h_M h_P h_E1 h_E2 h_E3 X_lo X_ro X_rc, cL h_M k_M 8 M_f]) [0, 1] (by decide) rfl
        have hKc := hK.sub (tys' := [(k_M, .long)]) [0] rfl
        have hFc := va_free (wc := [cX h_X h_M h_P h_E1 h_E2 h_E3 X_lo X_ro X_rc, cL h_M k_M 8 M_f]) hD hS hA [0, 1] rfl
        refine va_calli (va_runV (As := [.int x2]) (rest := []) ⟨hx, hb, hml, hown, hts⟩ (c_X_isNarrow l dC dI h_X h_M h_P h_E1 h_E2 h_E3 k_M H.size X_lo X_ro X_rc M_f x2 q_12 hC_12) (cwV 1 hts g_X_100_X_isNarrow rfl rfl rfl (by decide +kernel) ⟨Nat.le_of_ble_eq_true rfl, Nat.le_of_ble_eq_true rfl⟩) ⟨fun a U g mk q => by obtain ⟨q0, q1, qP, qK, qD⟩ := q; exact ⟨q0, q1, qP, va_K.moved (u := U) (U := U.calling g mk a) (Vm.Alike.refl U.vm) qK, qD⟩, va_recv hKc hPc (ci := 1) (q0 := 0) rfl rfl, fun U hU hW => ⟨rfl, by rw [hU], by rw [hU]; exact hPc, va_K.moved hW.alike hKc, hDc.weaken (fun _ _ _ _ => trivial)⟩⟩ rfl rfl hl.1 rfl (lv_room (Nat.le_of_ble_eq_true rfl)) d_X_narrowRegisters_12 ⟨Nat.zero_le _, Nat.zero_le _⟩) hS (fun q _ h => hFc q h) hFc (fun r u t H1 locs ht hvm hw hB hz1 hk1 hS => ?_)
        obtain ⟨hP1, hK1, hD1⟩ := hB
        replace hw := hw.symm
        subst hw
        rw [ht] at hP1
        obtain ⟨hP, hD⟩ := va_join (wr := []) (w1 := [cX h_X h_M h_P h_E1 h_E2 h_E3 X_lo X_ro X_rc, cL h_M k_M 8 M_f]) hP hD [0, 1] [] rfl rfl (by decide) (by decide) hk1 hFc hP1 hD1
        generalize H1 = H at hP hS ⊢
        have hP := hP.sub (ws' := [cX h_X h_M h_P h_E1 h_E2 h_E3 X_lo X_ro X_rc, cL h_M k_M 8 M_f]) [0, 1] rfl
        have hD := hD.sub (ws' := [cX h_X h_M h_P h_E1 h_E2 h_E3 X_lo X_ro X_rc, cL h_M k_M 8 M_f]) [0, 1] (by decide) rfl
        refine lv_if_eq (tgt := 21) hx hb d_X_narrowRegisters_15 (by decide) (fun c_15 => ?_) (fun c_15 => ?_)
        · replace hF := hif_t c_15 hF
          refine lv_iinc (v := (x2 + (1 : Int32))) (lv' := [(2, .int (x2 + (1 : Int32))), (0, .ref h_X), (1, .int x1)]) hx hb d_X_narrowRegisters_21 hl (k := 2) rfl rfl (by decide) rfl (fun ls hl => ?_)
          refine lv_goto (tgt := 4) hx hb d_X_narrowRegisters_24 (by decide) ?_
          exact hk_4 x1 (x2 + (1 : Int32)) M_f X_lo X_ro X_rc _ _ _ hP hD hS (lv_sub hl [1, 2, 0] rfl) hF
        · replace hF := hif_f c_15 hF
          refine lv_iinc (v := (x1 + (1 : Int32))) (lv' := [(1, .int (x1 + (1 : Int32))), (0, .ref h_X), (2, .int x2)]) hx hb d_X_narrowRegisters_18 hl (k := 1) rfl rfl (by decide) rfl (fun ls hl => ?_)
          refine lv_iinc (v := (x2 + (1 : Int32))) (lv' := [(2, .int (x2 + (1 : Int32))), (1, .int (x1 + (1 : Int32))), (0, .ref h_X)]) hx hb d_X_narrowRegisters_21 hl (k := 2) rfl rfl (by decide) rfl (fun ls hl => ?_)
          refine lv_goto (tgt := 4) hx hb d_X_narrowRegisters_24 (by decide) ?_
          exact hk_4 (x1 + (1 : Int32)) (x2 + (1 : Int32)) M_f X_lo X_ro X_rc _ _ _ hP hD hS (lv_sub hl [2, 1, 0] rfl) hF
  unfold f_X_narrowRegisters at hF
  refine lv_iconst (v := (0 : Int32)) hx hb d_X_narrowRegisters_0 (by decide) ?_
  refine lv_istore_n (lv' := [(1, .int (0 : Int32)), (0, .ref h_X)]) hx hb d_X_narrowRegisters_1 rfl hl (by decide) rfl (fun ls hl => ?_)
  refine lv_iconst (v := (0 : Int32)) hx hb d_X_narrowRegisters_2 (by decide) ?_
  refine lv_istore_n (lv' := [(2, .int (0 : Int32)), (1, .int (0 : Int32)), (0, .ref h_X)]) hx hb d_X_narrowRegisters_3 rfl hl (by decide) rfl (fun ls hl => ?_)
  exact b_4 1000 (0 : Int32) (0 : Int32) M_f X_lo X_ro X_rc _ _ _ hP hD hS (lv_sub hl [2, 1, 0] rfl) hF
