set_option maxHeartbeats 4000000 in
set_option maxRecDepth 100000 in
theorem c_Y_toward (l : Launch) (dC : Nat → ClassId) (dI : Nat → Nat → Nat) (h_Y : Nat) (h_O : Nat) (h_N : Nat) (h_B : Nat) (h_G : Nat) (h_K : Nat) (k_O : ClassId) (k_N : ClassId) (k_B : ClassId) (sz : Nat) (Y_lo : Int32) (Y_ie : Int32) (Y_ra : Int32) (Y_to : Int64) (Y_te : Int32) (Y_re : Int32) (O_f : Nat → Int64) (N_f : Nat → Int32) (B_f : Nat → Int32) (a1 : Int32) (a2 : Int32) (a3 : Int64) (a4 : Int32) (o : Int32 × Int32 × Int32 × Int32 × (Nat → Int64) × (Nat → Int32) × (Nat → Int32)) (hF : f_Y_toward Y_lo Y_ie Y_ra O_f N_f B_f a1 a2 a3 a4 = some o) : Met l y_Y_toward w_Y_toward ({ frames := 3, cells := 0, slots := 0, locals := 73 } : Room) (va_Pc [.ref h_Y, .int a1, .int a2, .long a3, .int a4] (fun U => U.heap.size = sz ∧ va_P (dC, dI) classes [cY h_Y h_O h_N h_B h_G h_K Y_lo Y_ie Y_ra Y_to Y_te Y_re, cL h_O k_O 8 O_f, cI h_N k_N 8 N_f, cI h_B k_B 8 B_f] U.heap ∧ va_K (dC, dI) classes [(k_O, .long), (k_N, .int), (k_B, .boolean)] U ∧ va_D (fun _ => True) [cY h_Y h_O h_N h_B h_G h_K Y_lo Y_ie Y_ra Y_to Y_te Y_re, cL h_O k_O 8 O_f, cI h_N k_N 8 N_f, cI h_B k_B 8 B_f])) (va_Qi (fun (r : Int32) (_ : Unit) => r = o.1) (fun (_ : Unit) (t : State) => va_P (dC, dI) classes [cY h_Y h_O h_N h_B h_G h_K o.2.1 o.2.2.1 o.2.2.2.1 Y_to Y_te Y_re, cL h_O k_O 8 o.2.2.2.2.1, cI h_N k_N 8 o.2.2.2.2.2.1, cI h_B k_B 8 o.2.2.2.2.2.2] t.heap ∧ va_K (dC, dI) classes [(k_O, .long), (k_N, .int), (k_B, .boolean)] t ∧ va_D (va_A [cY h_Y h_O h_N h_B h_G h_K Y_lo Y_ie Y_ra Y_to Y_te Y_re, cL h_O k_O 8 O_f, cI h_N k_N 8 N_f, cI h_B k_B 8 B_f] sz) [cY h_Y h_O h_N h_B h_G h_K o.2.1 o.2.2.1 o.2.2.2.1 Y_to Y_te Y_re, cL h_O k_O 8 o.2.2.2.2.1, cI h_N k_N 8 o.2.2.2.2.2.1, cI h_B k_B 8 o.2.2.2.2.2.2]) (va_A [cY h_Y h_O h_N h_B h_G h_K Y_lo Y_ie Y_ra Y_to Y_te Y_re, cL h_O k_O 8 O_f, cI h_N k_N 8 N_f, cI h_B k_B 8 B_f] sz)) 0 0 (va_A [cY h_Y h_O h_N h_B h_G h_K Y_lo Y_ie Y_ra Y_to Y_te Y_re, cL h_O k_O 8 O_f, cI h_N k_N 8 N_f, cI h_B k_B 8 B_f] sz) := by
  refine Met.ofW (cc := prog_4_method_35_code) (maxL := 6) (ret := (some .int)) (by decide) rfl ?_
  intro p e s m args below meth c s₁ B hml hv
  obtain ⟨rfl, hsz, hP, hK, hD0⟩ := hv
  have hx := B.exec
  have hb := B.bytes
  have hr := B.returns
  have hts0 := atoms_spec (ws := w_Y_toward) B.pre
  have hts : ∀ w ∈ tb, w.before _ s = true := fun w h => hts0 w (List.mem_cons_of_mem _ h)
  clear hts0
  have hown : s.vm.findClass "RoundedNumbersModel" = some m.cls := findClass_of_methodNamed B.named
  have hlocks := B.notSynchronized
  subst hsz
  have hD := hD0.self (sz := s.heap.size)
  generalize hAe : va_A [cY h_Y h_O h_N h_B h_G h_K Y_lo Y_ie Y_ra Y_to Y_te Y_re, cL h_O k_O 8 O_f, cI h_N k_N 8 N_f, cI h_B k_B 8 B_f] s.heap.size = A at hD ⊢
  have hA : ∀ q : Nat, s.heap.size ≤ q → A q := fun q h => by rw [← hAe]; exact Or.inr h
  clear hAe
  have hS : va_S A s.heap s.heap [] := va_S.rf
  have hP : va_P (dC, dI) classes [cY h_Y h_O h_N h_B h_G h_K Y_lo Y_ie Y_ra Y_to Y_te Y_re, cL h_O k_O 8 O_f, cI h_N k_N 8 N_f, cI h_B k_B 8 B_f] s.heap := hP
  have hl := lv_entry ([.ref h_Y, .int a1, .int a2, .long a3, .int a4]) (n := 6) (Nat.le_of_ble_eq_true rfl)
  rw [lg_entry_eq]
  generalize (lg_sl ([.ref h_Y, .int a1, .int a2, .long a3, .int a4]) ++ List.replicate (6 - (lg_sl ([.ref h_Y, .int a1, .int a2, .long a3, .int a4])).length) Slot.unset).toArray = ls at hl ⊢
  have hl : lv_has ls 6 [(0, .ref h_Y), (1, .int a1), (2, .int a2), (3, .long a3), (5, .int a4)] := hl
  unfold f_Y_toward at hF
  refine lv_lload_n hx hb d_Y_toward_0 rfl (lv_at hl 3 rfl) ?_
  refine lv_iload hx hb d_Y_toward_1 (lv_at hl 4 rfl) ?_
  obtain ⟨q_3, hC_3, hF⟩ := hbd hF
  have hPc := hP.sub (ws' := []) [] rfl
  have hDc := hD.sub (ws' := []) [] (by decide) rfl
  have hKc := hK.sub (tys' := []) [] rfl
  have hFc := va_free (wc := []) hD hS hA [] rfl
  refine va_calli (va_runS (As := [.long a3, .int a4]) (rest := []) ⟨hx, hb, hml, hown, hts⟩ (c_Y_inRange l dC dI s.heap.size a3 a4 q_3 hC_3) (cwS 2 hts g_Y_39_Y_inRange rfl rfl rfl (by decide +kernel) ⟨Nat.le_of_ble_eq_true rfl, Nat.le_of_ble_eq_true rfl⟩) ⟨fun a U g mk q => by obtain ⟨q0, q1, qP, qK, qD⟩ := q; exact ⟨q0, q1, qP, va_K.moved (u := U) (U := U.calling g mk a) (Vm.Alike.refl U.vm) qK, qD⟩, fun U hU hW => ⟨rfl, by rw [hU], by rw [hU]; exact hPc, va_K.moved hW.alike hKc, hDc.weaken (fun _ _ _ _ => trivial)⟩⟩ rfl rfl hl.1 rfl (lv_room (Nat.le_of_ble_eq_true rfl)) d_Y_toward_3 ⟨Nat.zero_le _, Nat.zero_le _⟩) hS (fun q _ h => hFc q h) hFc (fun r u t H1 locs ht hvm hw hB hz1 hk1 hS => ?_)
  obtain ⟨hP1, hK1, hD1⟩ := hB
  replace hw := hw.symm
  subst hw
  rw [ht] at hP1
  obtain ⟨hP, hD⟩ := va_join (wr := [cY h_Y h_O h_N h_B h_G h_K Y_lo Y_ie Y_ra Y_to Y_te Y_re, cL h_O k_O 8 O_f, cI h_N k_N 8 N_f, cI h_B k_B 8 B_f]) (w1 := []) hP hD [] [0, 1, 2, 3] rfl rfl (by decide) (by decide) hk1 hFc hP1 hD1
  generalize H1 = H at hP hS ⊢
  have hP := hP.sub (ws' := [cY h_Y h_O h_N h_B h_G h_K Y_lo Y_ie Y_ra Y_to Y_te Y_re, cL h_O k_O 8 O_f, cI h_N k_N 8 N_f, cI h_B k_B 8 B_f]) [0, 1, 2, 3] rfl
  have hD := hD.sub (ws' := [cY h_Y h_O h_N h_B h_G h_K Y_lo Y_ie Y_ra Y_to Y_te Y_re, cL h_O k_O 8 O_f, cI h_N k_N 8 N_f, cI h_B k_B 8 B_f]) [0, 1, 2, 3] (by decide) rfl
  refine lv_if_eq (tgt := 22) hx hb d_Y_toward_6 (by decide) (fun c_6 => ?_) (fun c_6 => ?_)
  · replace hF := hif_t c_6 hF
    refine lv_aload_n hx hb d_Y_toward_22 rfl (lv_at hl 0 rfl) ?_
    refine lv_iload_n hx hb d_Y_toward_23 rfl (lv_at hl 1 rfl) ?_
    refine lv_iconst (v := (0 : Int32)) hx hb d_Y_toward_24 (by decide) ?_
    refine lv_lconst (v := (0 : Int64)) hx hb d_Y_toward_25 (by decide) ?_
    refine lv_iconst (v := (0 : Int32)) hx hb d_Y_toward_26 (by decide) ?_
    refine lv_iconst (v := (0 : Int32)) hx hb d_Y_toward_27 (by decide) ?_
    obtain ⟨q_28, hC_28, hF⟩ := hbd hF
    have hPc := hP.sub (ws' := [cY h_Y h_O h_N h_B h_G h_K Y_lo Y_ie Y_ra Y_to Y_te Y_re, cL h_O k_O 8 O_f, cI h_N k_N 8 N_f, cI h_B k_B 8 B_f]) [0, 1, 2, 3] rfl
    have hDc := hD.sub (ws' := [cY h_Y h_O h_N h_B h_G h_K Y_lo Y_ie Y_ra Y_to Y_te Y_re, cL h_O k_O 8 O_f, cI h_N k_N 8 N_f, cI h_B k_B 8 B_f]) [0, 1, 2, 3] (by decide) rfl
    have hKc := hK.sub (tys' := [(k_O, .long), (k_N, .int), (k_B, .boolean)]) [0, 1, 2] rfl
    have hFc := va_free (wc := [cY h_Y h_O h_N h_B h_G h_K Y_lo Y_ie Y_ra Y_to Y_te Y_re, cL h_O k_O 8 O_f, cI h_N k_N 8 N_f, cI h_B k_B 8 B_f]) hD hS hA [0, 1, 2, 3] rfl
    refine va_calli (va_runV (As := [.int a1, .int (0 : Int32), .long (0 : Int64), .int (0 : Int32), .int (0 : Int32)]) (rest := []) ⟨hx, hb, hml, hown, hts⟩ (c_Y_finish l dC dI h_Y h_O h_N h_B h_G h_K k_O k_N k_B H.size Y_lo Y_ie Y_ra Y_to Y_te Y_re O_f N_f B_f a1 (0 : Int32) (0 : Int64) (0 : Int32) (0 : Int32) q_28 hC_28) (cwV 5 hts g_Y_64_Y_finish rfl rfl rfl (by decide +kernel) ⟨Nat.le_of_ble_eq_true rfl, Nat.le_of_ble_eq_true rfl⟩) ⟨fun a U g mk q => by obtain ⟨q0, q1, qP, qK, qD⟩ := q; exact ⟨q0, q1, qP, va_K.moved (u := U) (U := U.calling g mk a) (Vm.Alike.refl U.vm) qK, qD⟩, va_recv hKc hPc (ci := 2) (q0 := 0) rfl rfl, fun U hU hW => ⟨rfl, by rw [hU], by rw [hU]; exact hPc, va_K.moved hW.alike hKc, hDc.weaken (fun _ _ _ _ => trivial)⟩⟩ rfl rfl hl.1 rfl (lv_room (Nat.le_of_ble_eq_true rfl)) d_Y_toward_28 ⟨Nat.zero_le _, Nat.zero_le _⟩) hS (fun q _ h => hFc q h) hFc (fun r u t H1 locs ht hvm hw hB hz1 hk1 hS => ?_)
    obtain ⟨hP1, hK1, hD1⟩ := hB
    replace hw := hw.symm
    subst hw
    rw [ht] at hP1
    obtain ⟨hP, hD⟩ := va_join (wr := []) (w1 := [cY h_Y h_O h_N h_B h_G h_K q_28.2.1 q_28.2.2.1 q_28.2.2.2.1 Y_to Y_te Y_re, cL h_O k_O 8 q_28.2.2.2.2.1, cI h_N k_N 8 q_28.2.2.2.2.2.1, cI h_B k_B 8 q_28.2.2.2.2.2.2]) hP hD [0, 1, 2, 3] [] rfl rfl (by decide) (by decide) hk1 hFc hP1 hD1
    generalize H1 = H at hP hS ⊢
    have hP := hP.sub (ws' := [cY h_Y h_O h_N h_B h_G h_K q_28.2.1 q_28.2.2.1 q_28.2.2.2.1 Y_to Y_te Y_re, cL h_O k_O 8 q_28.2.2.2.2.1, cI h_N k_N 8 q_28.2.2.2.2.2.1, cI h_B k_B 8 q_28.2.2.2.2.2.2]) [0, 1, 2, 3] rfl
    have hD := hD.sub (ws' := [cY h_Y h_O h_N h_B h_G h_K q_28.2.1 q_28.2.2.1 q_28.2.2.2.1 Y_to Y_te Y_re, cL h_O k_O 8 q_28.2.2.2.2.1, cI h_N k_N 8 q_28.2.2.2.2.2.1, cI h_B k_B 8 q_28.2.2.2.2.2.2]) [0, 1, 2, 3] (by decide) rfl
    obtain rfl := Option.some.inj hF
    exact W.iret (v := q_28.1) hx hb hr (fun t ht hW => ⟨⟨q_28.1, (), rfl, rfl, by rw [ht]; exact hP, va_K.moved hW.alike hK, hD⟩, hS.F ht⟩) hS.2.2 d_Y_toward_31
  · replace hF := hif_f c_6 hF
    refine lv_aload_n hx hb d_Y_toward_9 rfl (lv_at hl 0 rfl) ?_
    refine lv_iload_n hx hb d_Y_toward_10 rfl (lv_at hl 1 rfl) ?_
    refine lv_iload_n hx hb d_Y_toward_11 rfl (lv_at hl 2 rfl) ?_
    refine lv_lload_n hx hb d_Y_toward_12 rfl (lv_at hl 3 rfl) ?_
    refine lv_iload hx hb d_Y_toward_13 (lv_at hl 4 rfl) ?_
    refine lv_iconst (v := (0 : Int32)) hx hb d_Y_toward_15 (by decide) ?_
    obtain ⟨q_16, hC_16, hF⟩ := hbd hF
    have hPc := hP.sub (ws' := [cY h_Y h_O h_N h_B h_G h_K Y_lo Y_ie Y_ra Y_to Y_te Y_re, cL h_O k_O 8 O_f, cI h_N k_N 8 N_f, cI h_B k_B 8 B_f]) [0, 1, 2, 3] rfl
    have hDc := hD.sub (ws' := [cY h_Y h_O h_N h_B h_G h_K Y_lo Y_ie Y_ra Y_to Y_te Y_re, cL h_O k_O 8 O_f, cI h_N k_N 8 N_f, cI h_B k_B 8 B_f]) [0, 1, 2, 3] (by decide) rfl
    have hKc := hK.sub (tys' := [(k_O, .long), (k_N, .int), (k_B, .boolean)]) [0, 1, 2] rfl
    have hFc := va_free (wc := [cY h_Y h_O h_N h_B h_G h_K Y_lo Y_ie Y_ra Y_to Y_te Y_re, cL h_O k_O 8 O_f, cI h_N k_N 8 N_f, cI h_B k_B 8 B_f]) hD hS hA [0, 1, 2, 3] rfl
    refine va_calli (va_runV (As := [.int a1, .int a2, .long a3, .int a4, .int (0 : Int32)]) (rest := []) ⟨hx, hb, hml, hown, hts⟩ (c_Y_finish l dC dI h_Y h_O h_N h_B h_G h_K k_O k_N k_B H.size Y_lo Y_ie Y_ra Y_to Y_te Y_re O_f N_f B_f a1 a2 a3 a4 (0 : Int32) q_16 hC_16) (cwV 5 hts g_Y_64_Y_finish rfl rfl rfl (by decide +kernel) ⟨Nat.le_of_ble_eq_true rfl, Nat.le_of_ble_eq_true rfl⟩) ⟨fun a U g mk q => by obtain ⟨q0, q1, qP, qK, qD⟩ := q; exact ⟨q0, q1, qP, va_K.moved (u := U) (U := U.calling g mk a) (Vm.Alike.refl U.vm) qK, qD⟩, va_recv hKc hPc (ci := 2) (q0 := 0) rfl rfl, fun U hU hW => ⟨rfl, by rw [hU], by rw [hU]; exact hPc, va_K.moved hW.alike hKc, hDc.weaken (fun _ _ _ _ => trivial)⟩⟩ rfl rfl hl.1 rfl (lv_room (Nat.le_of_ble_eq_true rfl)) d_Y_toward_16 ⟨Nat.zero_le _, Nat.zero_le _⟩) hS (fun q _ h => hFc q h) hFc (fun r u t H1 locs ht hvm hw hB hz1 hk1 hS => ?_)
    obtain ⟨hP1, hK1, hD1⟩ := hB
    replace hw := hw.symm
    subst hw
    rw [ht] at hP1
    obtain ⟨hP, hD⟩ := va_join (wr := []) (w1 := [cY h_Y h_O h_N h_B h_G h_K q_16.2.1 q_16.2.2.1 q_16.2.2.2.1 Y_to Y_te Y_re, cL h_O k_O 8 q_16.2.2.2.2.1, cI h_N k_N 8 q_16.2.2.2.2.2.1, cI h_B k_B 8 q_16.2.2.2.2.2.2]) hP hD [0, 1, 2, 3] [] rfl rfl (by decide) (by decide) hk1 hFc hP1 hD1
    generalize H1 = H at hP hS ⊢
    have hP := hP.sub (ws' := [cY h_Y h_O h_N h_B h_G h_K q_16.2.1 q_16.2.2.1 q_16.2.2.2.1 Y_to Y_te Y_re, cL h_O k_O 8 q_16.2.2.2.2.1, cI h_N k_N 8 q_16.2.2.2.2.2.1, cI h_B k_B 8 q_16.2.2.2.2.2.2]) [0, 1, 2, 3] rfl
    have hD := hD.sub (ws' := [cY h_Y h_O h_N h_B h_G h_K q_16.2.1 q_16.2.2.1 q_16.2.2.2.1 Y_to Y_te Y_re, cL h_O k_O 8 q_16.2.2.2.2.1, cI h_N k_N 8 q_16.2.2.2.2.2.1, cI h_B k_B 8 q_16.2.2.2.2.2.2]) [0, 1, 2, 3] (by decide) rfl
    refine lv_goto (tgt := 31) hx hb d_Y_toward_19 (by decide) ?_
    obtain rfl := Option.some.inj hF
    exact W.iret (v := q_16.1) hx hb hr (fun t ht hW => ⟨⟨q_16.1, (), rfl, rfl, by rw [ht]; exact hP, va_K.moved hW.alike hK, hD⟩, hS.F ht⟩) hS.2.2 d_Y_toward_31
set_option maxHeartbeats 4000000 in
set_option maxRecDepth 100000 in
theorem c_Y_step (l : Launch) (dC : Nat → ClassId) (dI : Nat → Nat → Nat) (h_Y : Nat) (h_O : Nat) (h_N : Nat) (h_B : Nat) (h_G : Nat) (h_K : Nat) (k_O : ClassId) (k_N : ClassId) (k_B : ClassId) (sz : Nat) (Y_lo : Int32) (Y_ie : Int32) (Y_ra : Int32) (Y_to : Int64) (Y_te : Int32) (Y_re : Int32) (O_f : Nat → Int64) (N_f : Nat → Int32) (B_f : Nat → Int32) (a1 : Int32) (a2 : Int32) (a3 : Int32) (a4 : Int32) (o : Int32 × Int32 × Int32 × Int32 × (Nat → Int64) × (Nat → Int32) × (Nat → Int32)) (hF : f_Y_step Y_lo Y_ie Y_ra O_f N_f B_f a1 a2 a3 a4 = some o) : Met l y_Y_step w_Y_step ({ frames := 4, cells := 0, slots := 0, locals := 98 } : Room) (va_Pc [.ref h_Y, .int a1, .int a2, .int a3, .int a4] (fun U => U.heap.size = sz ∧ va_P (dC, dI) classes [cY h_Y h_O h_N h_B h_G h_K Y_lo Y_ie Y_ra Y_to Y_te Y_re, cL h_O k_O 8 O_f, cI h_N k_N 8 N_f, cI h_B k_B 8 B_f] U.heap ∧ va_K (dC, dI) classes [(k_O, .long), (k_N, .int), (k_B, .boolean)] U ∧ va_D (fun _ => True) [cY h_Y h_O h_N h_B h_G h_K Y_lo Y_ie Y_ra Y_to Y_te Y_re, cL h_O k_O 8 O_f, cI h_N k_N 8 N_f, cI h_B k_B 8 B_f])) (va_Qi (fun (r : Int32) (_ : Unit) => r = o.1) (fun (_ : Unit) (t : State) => va_P (dC, dI) classes [cY h_Y h_O h_N h_B h_G h_K o.2.1 o.2.2.1 o.2.2.2.1 Y_to Y_te Y_re, cL h_O k_O 8 o.2.2.2.2.1, cI h_N k_N 8 o.2.2.2.2.2.1, cI h_B k_B 8 o.2.2.2.2.2.2] t.heap ∧ va_K (dC, dI) classes [(k_O, .long), (k_N, .int), (k_B, .boolean)] t ∧ va_D (va_A [cY h_Y h_O h_N h_B h_G h_K Y_lo Y_ie Y_ra Y_to Y_te Y_re, cL h_O k_O 8 O_f, cI h_N k_N 8 N_f, cI h_B k_B 8 B_f] sz) [cY h_Y h_O h_N h_B h_G h_K o.2.1 o.2.2.1 o.2.2.2.1 Y_to Y_te Y_re, cL h_O k_O 8 o.2.2.2.2.1, cI h_N k_N 8 o.2.2.2.2.2.1, cI h_B k_B 8 o.2.2.2.2.2.2]) (va_A [cY h_Y h_O h_N h_B h_G h_K Y_lo Y_ie Y_ra Y_to Y_te Y_re, cL h_O k_O 8 O_f, cI h_N k_N 8 N_f, cI h_B k_B 8 B_f] sz)) 0 0 (va_A [cY h_Y h_O h_N h_B h_G h_K Y_lo Y_ie Y_ra Y_to Y_te Y_re, cL h_O k_O 8 O_f, cI h_N k_N 8 N_f, cI h_B k_B 8 B_f] sz) := by
  refine Met.ofW (cc := prog_4_method_34_code) (maxL := 11) (ret := (some .int)) (by decide) rfl ?_
  intro p e s m args below meth c s₁ B hml hv
  obtain ⟨rfl, hsz, hP, hK, hD0⟩ := hv
  have hx := B.exec
  have hb := B.bytes
  have hr := B.returns
  have hts0 := atoms_spec (ws := w_Y_step) B.pre
  have hts : ∀ w ∈ tb, w.before _ s = true := fun w h => hts0 w (List.mem_cons_of_mem _ h)
  clear hts0
  have hown : s.vm.findClass "RoundedNumbersModel" = some m.cls := findClass_of_methodNamed B.named
  have hlocks := B.notSynchronized
  subst hsz
  have hD := hD0.self (sz := s.heap.size)
  generalize hAe : va_A [cY h_Y h_O h_N h_B h_G h_K Y_lo Y_ie Y_ra Y_to Y_te Y_re, cL h_O k_O 8 O_f, cI h_N k_N 8 N_f, cI h_B k_B 8 B_f] s.heap.size = A at hD ⊢
  have hA : ∀ q : Nat, s.heap.size ≤ q → A q := fun q h => by rw [← hAe]; exact Or.inr h
  clear hAe
  have hS : va_S A s.heap s.heap [] := va_S.rf
  have hP : va_P (dC, dI) classes [cY h_Y h_O h_N h_B h_G h_K Y_lo Y_ie Y_ra Y_to Y_te Y_re, cL h_O k_O 8 O_f, cI h_N k_N 8 N_f, cI h_B k_B 8 B_f] s.heap := hP
  have hl := lv_entry ([.ref h_Y, .int a1, .int a2, .int a3, .int a4]) (n := 11) (Nat.le_of_ble_eq_true rfl)
  rw [lg_entry_eq]
  generalize (lg_sl ([.ref h_Y, .int a1, .int a2, .int a3, .int a4]) ++ List.replicate (11 - (lg_sl ([.ref h_Y, .int a1, .int a2, .int a3, .int a4])).length) Slot.unset).toArray = ls at hl ⊢
  have hl : lv_has ls 11 [(0, .ref h_Y), (1, .int a1), (2, .int a2), (3, .int a3), (4, .int a4)] := hl
  have b_109 : ∀ n_ : Nat, ∀ (x1 : Int32) (x2 : Int32) (x5 : Int32) (x6 : Int64) (x8 : Int32) (x9 : Int32) (x10 : Int32) (Y_lo : Int32) (Y_ie : Int32) (Y_ra : Int32) (O_f : Nat → Int64) (N_f : Nat → Int32) (B_f : Nat → Int32) (Y_to : Int64) (Y_te : Int32) (Y_re : Int32) (H : Heap) (locs : List Loc) (ls : Array Slot), va_P (dC, dI) classes [cY h_Y h_O h_N h_B h_G h_K Y_lo Y_ie Y_ra Y_to Y_te Y_re, cL h_O k_O 8 O_f, cI h_N k_N 8 N_f, cI h_B k_B 8 B_f] H → va_D A [cY h_Y h_O h_N h_B h_G h_K Y_lo Y_ie Y_ra Y_to Y_te Y_re, cL h_O k_O 8 O_f, cI h_N k_N 8 N_f, cI h_B k_B 8 B_f] → va_S A s.heap H locs → lv_has ls 11 [(0, .ref h_Y), (1, .int x1), (2, .int x2), (5, .int x5), (6, .long x6), (8, .int x8), (9, .int x9), (10, .int x10)] → f_Y_step_109 n_ x1 x2 x5 x6 x8 x9 x10 Y_lo Y_ie Y_ra O_f N_f B_f = some o → W p l e (headSpec w_Y_step ({ frames := 4, cells := 0, slots := 0, locals := 98 } : Room)).room s m ([.ref h_Y, .int a1, .int a2, .int a3, .int a4] : List Value).toArray below meth c H locs 0 0 (MQ below (va_Qi (fun (r : Int32) (_ : Unit) => r = o.1) (fun (_ : Unit) (t : State) => va_P (dC, dI) classes [cY h_Y h_O h_N h_B h_G h_K o.2.1 o.2.2.1 o.2.2.2.1 Y_to Y_te Y_re, cL h_O k_O 8 o.2.2.2.2.1, cI h_N k_N 8 o.2.2.2.2.2.1, cI h_B k_B 8 o.2.2.2.2.2.2] t.heap ∧ va_K (dC, dI) classes [(k_O, .long), (k_N, .int), (k_B, .boolean)] t ∧ va_D A [cY h_Y h_O h_N h_B h_G h_K o.2.1 o.2.2.1 o.2.2.2.1 Y_to Y_te Y_re, cL h_O k_O 8 o.2.2.2.2.1, cI h_N k_N 8 o.2.2.2.2.2.1, cI h_B k_B 8 o.2.2.2.2.2.2]) A) ([.ref h_Y, .int a1, .int a2, .int a3, .int a4] : List Value).toArray s 0 0 A) (F0 m 109 ls []) := by
    intro n_
    induction n_ with
    | zero =>
      intro x1 x2 x5 x6 x8 x9 x10 Y_lo Y_ie Y_ra O_f N_f B_f Y_to Y_te Y_re H locs ls hP hD hS hl hF
      rw [f_Y_step_109] at hF
      exact absurd hF (by simp)
    | succ n_ ih =>
      obtain ⟨k_109, ek_109⟩ : ∃ k, k = f_Y_step_109 n_ := ⟨_, rfl⟩
      rw [← ek_109] at ih
      have hk_109 := ih
      intro x1 x2 x5 x6 x8 x9 x10 Y_lo Y_ie Y_ra O_f N_f B_f Y_to Y_te Y_re H locs ls hP hD hS hl hF
      rw [f_Y_step_109, ← ek_109] at hF
      refine lv_lload hx hb d_Y_step_109 (lv_at hl 4 rfl) ?_
      obtain ⟨q_111, hC_111, hF⟩ := hbd hF
      have hPc := hP.sub (ws' := []) [] rfl
      have hDc := hD.sub (ws' := []) [] (by decide) rfl
      have hKc := hK.sub (tys' := []) [] rfl
      have hFc := va_free (wc := []) hD hS hA [] rfl
      refine va_calli (va_runS (As := [.long x6]) (rest := []) ⟨hx, hb, hml, hown, hts⟩ (c_Y_bits l dC dI H.size x6 q_111 hC_111) (cwS 1 hts g_Y_29_Y_bits rfl rfl rfl (by decide +kernel) ⟨Nat.le_of_ble_eq_true rfl, Nat.le_of_ble_eq_true rfl⟩) ⟨fun a U g mk q => by obtain ⟨q0, q1, qP, qK, qD⟩ := q; exact ⟨q0, q1, qP, va_K.moved (u := U) (U := U.calling g mk a) (Vm.Alike.refl U.vm) qK, qD⟩, fun U hU hW => ⟨rfl, by rw [hU], by rw [hU]; exact hPc, va_K.moved hW.alike hKc, hDc.weaken (fun _ _ _ _ => trivial)⟩⟩ rfl rfl hl.1 rfl (lv_room (Nat.le_of_ble_eq_true rfl)) d_Y_step_111 ⟨Nat.zero_le _, Nat.zero_le _⟩) hS (fun q _ h => hFc q h) hFc (fun r u t H1 locs ht hvm hw hB hz1 hk1 hS => ?_)
      obtain ⟨hP1, hK1, hD1⟩ := hB
      replace hw := hw.symm
      subst hw
      rw [ht] at hP1
      obtain ⟨hP, hD⟩ := va_join (wr := [cY h_Y h_O h_N h_B h_G h_K Y_lo Y_ie Y_ra Y_to Y_te Y_re, cL h_O k_O 8 O_f, cI h_N k_N 8 N_f, cI h_B k_B 8 B_f]) (w1 := []) hP hD [] [0, 1, 2, 3] rfl rfl (by decide) (by decide) hk1 hFc hP1 hD1
      generalize H1 = H at hP hS ⊢
      have hP := hP.sub (ws' := [cY h_Y h_O h_N h_B h_G h_K Y_lo Y_ie Y_ra Y_to Y_te Y_re, cL h_O k_O 8 O_f, cI h_N k_N 8 N_f, cI h_B k_B 8 B_f]) [0, 1, 2, 3] rfl
      have hD := hD.sub (ws' := [cY h_Y h_O h_N h_B h_G h_K Y_lo Y_ie Y_ra Y_to Y_te Y_re, cL h_O k_O 8 O_f, cI h_N k_N 8 N_f, cI h_B k_B 8 B_f]) [0, 1, 2, 3] (by decide) rfl
      refine lv_iload hx hb d_Y_step_114 (lv_at hl 3 rfl) ?_
      refine lv_icmp_le (tgt := 147) hx hb d_Y_step_116 (by decide) (fun c_116 => ?_) (fun c_116 => ?_)
      · replace hF := hif_t c_116 hF
        refine lv_iload hx hb d_Y_step_147 (lv_at hl 6 rfl) ?_
        refine lv_if_eq (tgt := 171) hx hb d_Y_step_149 (by decide) (fun c_149 => ?_) (fun c_149 => ?_)
        · replace hF := hif_t c_149 hF
          refine lv_iload hx hb d_Y_step_171 (lv_at hl 7 rfl) ?_
          refine lv_if_eq (tgt := 193) hx hb d_Y_step_173 (by decide) (fun c_173 => ?_) (fun c_173 => ?_)
          · replace hF := hif_t c_173 hF
            refine lv_lload hx hb d_Y_step_193 (lv_at hl 4 rfl) ?_
            refine lv_lconst (v := (1 : Int64)) hx hb d_Y_step_195 (by decide) ?_
            refine lv_iload hx hb d_Y_step_196 (lv_at hl 3 rfl) ?_
            refine lv_iconst (v := (1 : Int32)) hx hb d_Y_step_198 (by decide) ?_
            refine lv_isub hx hb d_Y_step_199 ?_
            refine lv_lshl (v := (jshl (1 : Int64) (x5 - (1 : Int32)))) hx hb d_Y_step_200 rfl ?_
            refine W.lcmp hx hb d_Y_step_201 ?_
            refine lv_if_ne (tgt := 229) hx hb d_Y_step_202 (by decide) (fun c_202 => ?_) (fun c_202 => ?_)
            · replace hF := hif_f c_202 hF
              refine lv_aload_n hx hb d_Y_step_229 rfl (lv_at hl 0 rfl) ?_
              refine lv_iload_n hx hb d_Y_step_230 rfl (lv_at hl 1 rfl) ?_
              refine lv_aload_n hx hb d_Y_step_231 rfl (lv_at hl 0 rfl) ?_
              refine va_get (D := (dC, dI)) (ci := 2) (v := .ref h_B) (C := "RoundedNumbersModel") (T := F_Y) (N := 11) hx hb hts in_Y hown hK hP 0 rfl rfl 2 (by decide) (hts _ tw_316) (fun _ h9 => h9) rfl d_Y_step_232 ?_
              refine lv_iload_n hx hb d_Y_step_235 rfl (lv_at hl 2 rfl) ?_
              have c_236 : ¬ (x2 < 0 ∨ 8 ≤ x2.toNatClampNeg) := hif_n hF
              replace hF := hif_f c_236 hF
              refine va_zald hx hb hK hP 3 2 rfl rfl c_236 d_Y_step_236 ?_
              refine lv_lload hx hb d_Y_step_237 (lv_at hl 4 rfl) ?_
              refine lv_lconst (v := (1 : Int64)) hx hb d_Y_step_239 (by decide) ?_
              refine lv_lsub hx hb d_Y_step_240 ?_
              refine lv_iload hx hb d_Y_step_241 (lv_at hl 5 rfl) ?_
              obtain ⟨q_243, hC_243, hF⟩ := hbd hF
              have hPc := hP.sub (ws' := [cY h_Y h_O h_N h_B h_G h_K Y_lo Y_ie Y_ra Y_to Y_te Y_re, cL h_O k_O 8 O_f, cI h_N k_N 8 N_f, cI h_B k_B 8 B_f]) [0, 1, 2, 3] rfl
              have hDc := hD.sub (ws' := [cY h_Y h_O h_N h_B h_G h_K Y_lo Y_ie Y_ra Y_to Y_te Y_re, cL h_O k_O 8 O_f, cI h_N k_N 8 N_f, cI h_B k_B 8 B_f]) [0, 1, 2, 3] (by decide) rfl
              have hKc := hK.sub (tys' := [(k_O, .long), (k_N, .int), (k_B, .boolean)]) [0, 1, 2] rfl
              have hFc := va_free (wc := [cY h_Y h_O h_N h_B h_G h_K Y_lo Y_ie Y_ra Y_to Y_te Y_re, cL h_O k_O 8 O_f, cI h_N k_N 8 N_f, cI h_B k_B 8 B_f]) hD hS hA [0, 1, 2, 3] rfl
              refine va_calli (va_runV (As := [.int x1, .int (B_f x2.toNatClampNeg), .long (x6 - (1 : Int64)), .int x8]) (rest := []) ⟨hx, hb, hml, hown, hts⟩ (c_Y_toward l dC dI h_Y h_O h_N h_B h_G h_K k_O k_N k_B H.size Y_lo Y_ie Y_ra Y_to Y_te Y_re O_f N_f B_f x1 (B_f x2.toNatClampNeg) (x6 - (1 : Int64)) x8 q_243 hC_243) (cwV 4 hts g_Y_148_Y_toward rfl rfl rfl (by decide +kernel) ⟨Nat.le_of_ble_eq_true rfl, Nat.le_of_ble_eq_true rfl⟩) ⟨fun a U g mk q => by obtain ⟨q0, q1, qP, qK, qD⟩ := q; exact ⟨q0, q1, qP, va_K.moved (u := U) (U := U.calling g mk a) (Vm.Alike.refl U.vm) qK, qD⟩, va_recv hKc hPc (ci := 2) (q0 := 0) rfl rfl, fun U hU hW => ⟨rfl, by rw [hU], by rw [hU]; exact hPc, va_K.moved hW.alike hKc, hDc.weaken (fun _ _ _ _ => trivial)⟩⟩ rfl rfl hl.1 rfl (lv_room (Nat.le_of_ble_eq_true rfl)) d_Y_step_243 ⟨Nat.zero_le _, Nat.zero_le _⟩) hS (fun q _ h => hFc q h) hFc (fun r u t H1 locs ht hvm hw hB hz1 hk1 hS => ?_)
              obtain ⟨hP1, hK1, hD1⟩ := hB
              replace hw := hw.symm
              subst hw
              rw [ht] at hP1
              obtain ⟨hP, hD⟩ := va_join (wr := []) (w1 := [cY h_Y h_O h_N h_B h_G h_K q_243.2.1 q_243.2.2.1 q_243.2.2.2.1 Y_to Y_te Y_re, cL h_O k_O 8 q_243.2.2.2.2.1, cI h_N k_N 8 q_243.2.2.2.2.2.1, cI h_B k_B 8 q_243.2.2.2.2.2.2]) hP hD [0, 1, 2, 3] [] rfl rfl (by decide) (by decide) hk1 hFc hP1 hD1
              generalize H1 = H at hP hS ⊢
              have hP := hP.sub (ws' := [cY h_Y h_O h_N h_B h_G h_K q_243.2.1 q_243.2.2.1 q_243.2.2.2.1 Y_to Y_te Y_re, cL h_O k_O 8 q_243.2.2.2.2.1, cI h_N k_N 8 q_243.2.2.2.2.2.1, cI h_B k_B 8 q_243.2.2.2.2.2.2]) [0, 1, 2, 3] rfl
              have hD := hD.sub (ws' := [cY h_Y h_O h_N h_B h_G h_K q_243.2.1 q_243.2.2.1 q_243.2.2.2.1 Y_to Y_te Y_re, cL h_O k_O 8 q_243.2.2.2.2.1, cI h_N k_N 8 q_243.2.2.2.2.2.1, cI h_B k_B 8 q_243.2.2.2.2.2.2]) [0, 1, 2, 3] (by decide) rfl
              obtain rfl := Option.some.inj hF
              exact W.iret (v := q_243.1) hx hb hr (fun t ht hW => ⟨⟨q_243.1, (), rfl, rfl, by rw [ht]; exact hP, va_K.moved hW.alike hK, hD⟩, hS.F ht⟩) hS.2.2 d_Y_step_246
            · replace hF := hif_t c_202 hF
              refine lv_aload_n hx hb d_Y_step_205 rfl (lv_at hl 0 rfl) ?_
              refine lv_iload_n hx hb d_Y_step_206 rfl (lv_at hl 1 rfl) ?_
              refine lv_aload_n hx hb d_Y_step_207 rfl (lv_at hl 0 rfl) ?_
              refine va_get (D := (dC, dI)) (ci := 2) (v := .ref h_B) (C := "RoundedNumbersModel") (T := F_Y) (N := 11) hx hb hts in_Y hown hK hP 0 rfl rfl 2 (by decide) (hts _ tw_316) (fun _ h9 => h9) rfl d_Y_step_208 ?_
              refine lv_iload_n hx hb d_Y_step_211 rfl (lv_at hl 2 rfl) ?_
              have c_212 : ¬ (x2 < 0 ∨ 8 ≤ x2.toNatClampNeg) := hif_n hF
              replace hF := hif_f c_212 hF
              refine va_zald hx hb hK hP 3 2 rfl rfl c_212 d_Y_step_212 ?_
              refine lv_ldc2 (v := (2 : Int64)) hx hb hown (hts _ tw_372) d_Y_step_213 ?_
              refine lv_lload hx hb d_Y_step_216 (lv_at hl 4 rfl) ?_
              refine lv_lmul hx hb d_Y_step_218 ?_
              refine lv_lconst (v := (1 : Int64)) hx hb d_Y_step_219 (by decide) ?_
              refine lv_lsub hx hb d_Y_step_220 ?_
              refine lv_iload hx hb d_Y_step_221 (lv_at hl 5 rfl) ?_
              refine lv_iconst (v := (1 : Int32)) hx hb d_Y_step_223 (by decide) ?_
              refine lv_isub hx hb d_Y_step_224 ?_
              obtain ⟨q_225, hC_225, hF⟩ := hbd hF
              have hPc := hP.sub (ws' := [cY h_Y h_O h_N h_B h_G h_K Y_lo Y_ie Y_ra Y_to Y_te Y_re, cL h_O k_O 8 O_f, cI h_N k_N 8 N_f, cI h_B k_B 8 B_f]) [0, 1, 2, 3] rfl
              have hDc := hD.sub (ws' := [cY h_Y h_O h_N h_B h_G h_K Y_lo Y_ie Y_ra Y_to Y_te Y_re, cL h_O k_O 8 O_f, cI h_N k_N 8 N_f, cI h_B k_B 8 B_f]) [0, 1, 2, 3] (by decide) rfl
              have hKc := hK.sub (tys' := [(k_O, .long), (k_N, .int), (k_B, .boolean)]) [0, 1, 2] rfl
              have hFc := va_free (wc := [cY h_Y h_O h_N h_B h_G h_K Y_lo Y_ie Y_ra Y_to Y_te Y_re, cL h_O k_O 8 O_f, cI h_N k_N 8 N_f, cI h_B k_B 8 B_f]) hD hS hA [0, 1, 2, 3] rfl
              refine va_calli (va_runV (As := [.int x1, .int (B_f x2.toNatClampNeg), .long (((2 : Int64) * x6) - (1 : Int64)), .int (x8 - (1 : Int32))]) (rest := []) ⟨hx, hb, hml, hown, hts⟩ (c_Y_toward l dC dI h_Y h_O h_N h_B h_G h_K k_O k_N k_B H.size Y_lo Y_ie Y_ra Y_to Y_te Y_re O_f N_f B_f x1 (B_f x2.toNatClampNeg) (((2 : Int64) * x6) - (1 : Int64)) (x8 - (1 : Int32)) q_225 hC_225) (cwV 4 hts g_Y_148_Y_toward rfl rfl rfl (by decide +kernel) ⟨Nat.le_of_ble_eq_true rfl, Nat.le_of_ble_eq_true rfl⟩) ⟨fun a U g mk q => by obtain ⟨q0, q1, qP, qK, qD⟩ := q; exact ⟨q0, q1, qP, va_K.moved (u := U) (U := U.calling g mk a) (Vm.Alike.refl U.vm) qK, qD⟩, va_recv hKc hPc (ci := 2) (q0 := 0) rfl rfl, fun U hU hW => ⟨rfl, by rw [hU], by rw [hU]; exact hPc, va_K.moved hW.alike hKc, hDc.weaken (fun _ _ _ _ => trivial)⟩⟩ rfl rfl hl.1 rfl (lv_room (Nat.le_of_ble_eq_true rfl)) d_Y_step_225 ⟨Nat.zero_le _, Nat.zero_le _⟩) hS (fun q _ h => hFc q h) hFc (fun r u t H1 locs ht hvm hw hB hz1 hk1 hS => ?_)
              obtain ⟨hP1, hK1, hD1⟩ := hB
              replace hw := hw.symm
              subst hw
              rw [ht] at hP1
              obtain ⟨hP, hD⟩ := va_join (wr := []) (w1 := [cY h_Y h_O h_N h_B h_G h_K q_225.2.1 q_225.2.2.1 q_225.2.2.2.1 Y_to Y_te Y_re, cL h_O k_O 8 q_225.2.2.2.2.1, cI h_N k_N 8 q_225.2.2.2.2.2.1, cI h_B k_B 8 q_225.2.2.2.2.2.2]) hP hD [0, 1, 2, 3] [] rfl rfl (by decide) (by decide) hk1 hFc hP1 hD1
              generalize H1 = H at hP hS ⊢
              have hP := hP.sub (ws' := [cY h_Y h_O h_N h_B h_G h_K q_225.2.1 q_225.2.2.1 q_225.2.2.2.1 Y_to Y_te Y_re, cL h_O k_O 8 q_225.2.2.2.2.1, cI h_N k_N 8 q_225.2.2.2.2.2.1, cI h_B k_B 8 q_225.2.2.2.2.2.2]) [0, 1, 2, 3] rfl
              have hD := hD.sub (ws' := [cY h_Y h_O h_N h_B h_G h_K q_225.2.1 q_225.2.2.1 q_225.2.2.2.1 Y_to Y_te Y_re, cL h_O k_O 8 q_225.2.2.2.2.1, cI h_N k_N 8 q_225.2.2.2.2.2.1, cI h_B k_B 8 q_225.2.2.2.2.2.2]) [0, 1, 2, 3] (by decide) rfl
              obtain rfl := Option.some.inj hF
              exact W.iret (v := q_225.1) hx hb hr (fun t ht hW => ⟨⟨q_225.1, (), rfl, rfl, by rw [ht]; exact hP, va_K.moved hW.alike hK, hD⟩, hS.F ht⟩) hS.2.2 d_Y_step_228
          · replace hF := hif_f c_173 hF
            refine lv_aload_n hx hb d_Y_step_176 rfl (lv_at hl 0 rfl) ?_
            refine lv_iload_n hx hb d_Y_step_177 rfl (lv_at hl 1 rfl) ?_
            refine lv_aload_n hx hb d_Y_step_178 rfl (lv_at hl 0 rfl) ?_
            refine va_get (D := (dC, dI)) (ci := 2) (v := .ref h_B) (C := "RoundedNumbersModel") (T := F_Y) (N := 11) hx hb hts in_Y hown hK hP 0 rfl rfl 2 (by decide) (hts _ tw_316) (fun _ h9 => h9) rfl d_Y_step_179 ?_
            refine lv_iload_n hx hb d_Y_step_182 rfl (lv_at hl 2 rfl) ?_
            have c_183 : ¬ (x2 < 0 ∨ 8 ≤ x2.toNatClampNeg) := hif_n hF
            replace hF := hif_f c_183 hF
            refine va_zald hx hb hK hP 3 2 rfl rfl c_183 d_Y_step_183 ?_
            refine lv_lload hx hb d_Y_step_184 (lv_at hl 4 rfl) ?_
            refine lv_iload hx hb d_Y_step_186 (lv_at hl 5 rfl) ?_
            refine lv_iconst (v := (0 : Int32)) hx hb d_Y_step_188 (by decide) ?_
            obtain ⟨q_189, hC_189, hF⟩ := hbd hF
            have hPc := hP.sub (ws' := [cY h_Y h_O h_N h_B h_G h_K Y_lo Y_ie Y_ra Y_to Y_te Y_re, cL h_O k_O 8 O_f, cI h_N k_N 8 N_f, cI h_B k_B 8 B_f]) [0, 1, 2, 3] rfl
            have hDc := hD.sub (ws' := [cY h_Y h_O h_N h_B h_G h_K Y_lo Y_ie Y_ra Y_to Y_te Y_re, cL h_O k_O 8 O_f, cI h_N k_N 8 N_f, cI h_B k_B 8 B_f]) [0, 1, 2, 3] (by decide) rfl
            have hKc := hK.sub (tys' := [(k_O, .long), (k_N, .int), (k_B, .boolean)]) [0, 1, 2] rfl
            have hFc := va_free (wc := [cY h_Y h_O h_N h_B h_G h_K Y_lo Y_ie Y_ra Y_to Y_te Y_re, cL h_O k_O 8 O_f, cI h_N k_N 8 N_f, cI h_B k_B 8 B_f]) hD hS hA [0, 1, 2, 3] rfl
            refine va_calli (va_runV (As := [.int x1, .int (B_f x2.toNatClampNeg), .long x6, .int x8, .int (0 : Int32)]) (rest := []) ⟨hx, hb, hml, hown, hts⟩ (c_Y_finish l dC dI h_Y h_O h_N h_B h_G h_K k_O k_N k_B H.size Y_lo Y_ie Y_ra Y_to Y_te Y_re O_f N_f B_f x1 (B_f x2.toNatClampNeg) x6 x8 (0 : Int32) q_189 hC_189) (cwV 5 hts g_Y_64_Y_finish rfl rfl rfl (by decide +kernel) ⟨Nat.le_of_ble_eq_true rfl, Nat.le_of_ble_eq_true rfl⟩) ⟨fun a U g mk q => by obtain ⟨q0, q1, qP, qK, qD⟩ := q; exact ⟨q0, q1, qP, va_K.moved (u := U) (U := U.calling g mk a) (Vm.Alike.refl U.vm) qK, qD⟩, va_recv hKc hPc (ci := 2) (q0 := 0) rfl rfl, fun U hU hW => ⟨rfl, by rw [hU], by rw [hU]; exact hPc, va_K.moved hW.alike hKc, hDc.weaken (fun _ _ _ _ => trivial)⟩⟩ rfl rfl hl.1 rfl (lv_room (Nat.le_of_ble_eq_true rfl)) d_Y_step_189 ⟨Nat.zero_le _, Nat.zero_le _⟩) hS (fun q _ h => hFc q h) hFc (fun r u t H1 locs ht hvm hw hB hz1 hk1 hS => ?_)
            obtain ⟨hP1, hK1, hD1⟩ := hB
            replace hw := hw.symm
            subst hw
            rw [ht] at hP1
            obtain ⟨hP, hD⟩ := va_join (wr := []) (w1 := [cY h_Y h_O h_N h_B h_G h_K q_189.2.1 q_189.2.2.1 q_189.2.2.2.1 Y_to Y_te Y_re, cL h_O k_O 8 q_189.2.2.2.2.1, cI h_N k_N 8 q_189.2.2.2.2.2.1, cI h_B k_B 8 q_189.2.2.2.2.2.2]) hP hD [0, 1, 2, 3] [] rfl rfl (by decide) (by decide) hk1 hFc hP1 hD1
            generalize H1 = H at hP hS ⊢
            have hP := hP.sub (ws' := [cY h_Y h_O h_N h_B h_G h_K q_189.2.1 q_189.2.2.1 q_189.2.2.2.1 Y_to Y_te Y_re, cL h_O k_O 8 q_189.2.2.2.2.1, cI h_N k_N 8 q_189.2.2.2.2.2.1, cI h_B k_B 8 q_189.2.2.2.2.2.2]) [0, 1, 2, 3] rfl
            have hD := hD.sub (ws' := [cY h_Y h_O h_N h_B h_G h_K q_189.2.1 q_189.2.2.1 q_189.2.2.2.1 Y_to Y_te Y_re, cL h_O k_O 8 q_189.2.2.2.2.1, cI h_N k_N 8 q_189.2.2.2.2.2.1, cI h_B k_B 8 q_189.2.2.2.2.2.2]) [0, 1, 2, 3] (by decide) rfl
            obtain rfl := Option.some.inj hF
            exact W.iret (v := q_189.1) hx hb hr (fun t ht hW => ⟨⟨q_189.1, (), rfl, rfl, by rw [ht]; exact hP, va_K.moved hW.alike hK, hD⟩, hS.F ht⟩) hS.2.2 d_Y_step_192
        · replace hF := hif_f c_149 hF
          refine lv_aload_n hx hb d_Y_step_152 rfl (lv_at hl 0 rfl) ?_
          refine lv_iload_n hx hb d_Y_step_153 rfl (lv_at hl 1 rfl) ?_
          refine lv_aload_n hx hb d_Y_step_154 rfl (lv_at hl 0 rfl) ?_
          refine va_get (D := (dC, dI)) (ci := 2) (v := .ref h_B) (C := "RoundedNumbersModel") (T := F_Y) (N := 11) hx hb hts in_Y hown hK hP 0 rfl rfl 2 (by decide) (hts _ tw_316) (fun _ h9 => h9) rfl d_Y_step_155 ?_
          refine lv_iload_n hx hb d_Y_step_158 rfl (lv_at hl 2 rfl) ?_
          have c_159 : ¬ (x2 < 0 ∨ 8 ≤ x2.toNatClampNeg) := hif_n hF
          replace hF := hif_f c_159 hF
          refine va_zald hx hb hK hP 3 2 rfl rfl c_159 d_Y_step_159 ?_
          refine lv_lload hx hb d_Y_step_160 (lv_at hl 4 rfl) ?_
          refine lv_lconst (v := (1 : Int64)) hx hb d_Y_step_162 (by decide) ?_
          refine lv_ladd hx hb d_Y_step_163 ?_
          refine lv_iload hx hb d_Y_step_164 (lv_at hl 5 rfl) ?_
          refine lv_iconst (v := (0 : Int32)) hx hb d_Y_step_166 (by decide) ?_
          obtain ⟨q_167, hC_167, hF⟩ := hbd hF
          have hPc := hP.sub (ws' := [cY h_Y h_O h_N h_B h_G h_K Y_lo Y_ie Y_ra Y_to Y_te Y_re, cL h_O k_O 8 O_f, cI h_N k_N 8 N_f, cI h_B k_B 8 B_f]) [0, 1, 2, 3] rfl
          have hDc := hD.sub (ws' := [cY h_Y h_O h_N h_B h_G h_K Y_lo Y_ie Y_ra Y_to Y_te Y_re, cL h_O k_O 8 O_f, cI h_N k_N 8 N_f, cI h_B k_B 8 B_f]) [0, 1, 2, 3] (by decide) rfl
          have hKc := hK.sub (tys' := [(k_O, .long), (k_N, .int), (k_B, .boolean)]) [0, 1, 2] rfl
          have hFc := va_free (wc := [cY h_Y h_O h_N h_B h_G h_K Y_lo Y_ie Y_ra Y_to Y_te Y_re, cL h_O k_O 8 O_f, cI h_N k_N 8 N_f, cI h_B k_B 8 B_f]) hD hS hA [0, 1, 2, 3] rfl
          refine va_calli (va_runV (As := [.int x1, .int (B_f x2.toNatClampNeg), .long (x6 + (1 : Int64)), .int x8, .int (0 : Int32)]) (rest := []) ⟨hx, hb, hml, hown, hts⟩ (c_Y_finish l dC dI h_Y h_O h_N h_B h_G h_K k_O k_N k_B H.size Y_lo Y_ie Y_ra Y_to Y_te Y_re O_f N_f B_f x1 (B_f x2.toNatClampNeg) (x6 + (1 : Int64)) x8 (0 : Int32) q_167 hC_167) (cwV 5 hts g_Y_64_Y_finish rfl rfl rfl (by decide +kernel) ⟨Nat.le_of_ble_eq_true rfl, Nat.le_of_ble_eq_true rfl⟩) ⟨fun a U g mk q => by obtain ⟨q0, q1, qP, qK, qD⟩ := q; exact ⟨q0, q1, qP, va_K.moved (u := U) (U := U.calling g mk a) (Vm.Alike.refl U.vm) qK, qD⟩, va_recv hKc hPc (ci := 2) (q0 := 0) rfl rfl, fun U hU hW => ⟨rfl, by rw [hU], by rw [hU]; exact hPc, va_K.moved hW.alike hKc, hDc.weaken (fun _ _ _ _ => trivial)⟩⟩ rfl rfl hl.1 rfl (lv_room (Nat.le_of_ble_eq_true rfl)) d_Y_step_167 ⟨Nat.zero_le _, Nat.zero_le _⟩) hS (fun q _ h => hFc q h) hFc (fun r u t H1 locs ht hvm hw hB hz1 hk1 hS => ?_)
          obtain ⟨hP1, hK1, hD1⟩ := hB
          replace hw := hw.symm
          subst hw
          rw [ht] at hP1
          obtain ⟨hP, hD⟩ := va_join (wr := []) (w1 := [cY h_Y h_O h_N h_B h_G h_K q_167.2.1 q_167.2.2.1 q_167.2.2.2.1 Y_to Y_te Y_re, cL h_O k_O 8 q_167.2.2.2.2.1, cI h_N k_N 8 q_167.2.2.2.2.2.1, cI h_B k_B 8 q_167.2.2.2.2.2.2]) hP hD [0, 1, 2, 3] [] rfl rfl (by decide) (by decide) hk1 hFc hP1 hD1
          generalize H1 = H at hP hS ⊢
          have hP := hP.sub (ws' := [cY h_Y h_O h_N h_B h_G h_K q_167.2.1 q_167.2.2.1 q_167.2.2.2.1 Y_to Y_te Y_re, cL h_O k_O 8 q_167.2.2.2.2.1, cI h_N k_N 8 q_167.2.2.2.2.2.1, cI h_B k_B 8 q_167.2.2.2.2.2.2]) [0, 1, 2, 3] rfl
          have hD := hD.sub (ws' := [cY h_Y h_O h_N h_B h_G h_K q_167.2.1 q_167.2.2.1 q_167.2.2.2.1 Y_to Y_te Y_re, cL h_O k_O 8 q_167.2.2.2.2.1, cI h_N k_N 8 q_167.2.2.2.2.2.1, cI h_B k_B 8 q_167.2.2.2.2.2.2]) [0, 1, 2, 3] (by decide) rfl
          obtain rfl := Option.some.inj hF
          exact W.iret (v := q_167.1) hx hb hr (fun t ht hW => ⟨⟨q_167.1, (), rfl, rfl, by rw [ht]; exact hP, va_K.moved hW.alike hK, hD⟩, hS.F ht⟩) hS.2.2 d_Y_step_170
      · replace hF := hif_f c_116 hF
        refine lv_lload hx hb d_Y_step_119 (lv_at hl 4 rfl) ?_
        refine lv_ldc2 (v := (2 : Int64)) hx hb hown (hts _ tw_372) d_Y_step_121 ?_
        refine lv_lrem hx hb d_Y_step_124 (by decide) ?_
        refine lv_lconst (v := (1 : Int64)) hx hb d_Y_step_125 (by decide) ?_
        refine W.lcmp hx hb d_Y_step_126 ?_
        refine lv_if_ne (tgt := 133) hx hb d_Y_step_127 (by decide) (fun c_127 => ?_) (fun c_127 => ?_)
        · replace hF := hif_f c_127 hF
          refine lv_lload hx hb d_Y_step_133 (lv_at hl 4 rfl) ?_
          refine lv_ldc2 (v := (2 : Int64)) hx hb hown (hts _ tw_372) d_Y_step_135 ?_
          refine lv_ldiv hx hb d_Y_step_138 (by decide) ?_
          refine lv_lstore (lv' := [(6, .long (x6 / (2 : Int64))), (0, .ref h_Y), (1, .int x1), (2, .int x2), (5, .int x5), (8, .int x8), (9, .int x9), (10, .int x10)]) hx hb d_Y_step_139 hl (by decide) rfl (fun ls hl => ?_)
          refine lv_iinc (v := (x8 + (1 : Int32))) (lv' := [(8, .int (x8 + (1 : Int32))), (6, .long (x6 / (2 : Int64))), (0, .ref h_Y), (1, .int x1), (2, .int x2), (5, .int x5), (9, .int x9), (10, .int x10)]) hx hb d_Y_step_141 hl (k := 5) rfl rfl (by decide) rfl (fun ls hl => ?_)
          refine lv_goto (tgt := 109) hx hb d_Y_step_144 (by decide) ?_
          exact hk_109 x1 x2 x5 (x6 / (2 : Int64)) (x8 + (1 : Int32)) x9 x10 Y_lo Y_ie Y_ra O_f N_f B_f Y_to Y_te Y_re _ _ _ hP hD hS (lv_sub hl [2, 3, 4, 5, 1, 0, 6, 7] rfl) hF
        · replace hF := hif_t c_127 hF
          refine lv_iconst (v := (1 : Int32)) hx hb d_Y_step_130 (by decide) ?_
          refine lv_istore (lv' := [(10, .int (1 : Int32)), (0, .ref h_Y), (1, .int x1), (2, .int x2), (5, .int x5), (6, .long x6), (8, .int x8), (9, .int x9)]) hx hb d_Y_step_131 hl (by decide) rfl (fun ls hl => ?_)
          refine lv_lload hx hb d_Y_step_133 (lv_at hl 5 rfl) ?_
          refine lv_ldc2 (v := (2 : Int64)) hx hb hown (hts _ tw_372) d_Y_step_135 ?_
          refine lv_ldiv hx hb d_Y_step_138 (by decide) ?_
          refine lv_lstore (lv' := [(6, .long (x6 / (2 : Int64))), (10, .int (1 : Int32)), (0, .ref h_Y), (1, .int x1), (2, .int x2), (5, .int x5), (8, .int x8), (9, .int x9)]) hx hb d_Y_step_139 hl (by decide) rfl (fun ls hl => ?_)
          refine lv_iinc (v := (x8 + (1 : Int32))) (lv' := [(8, .int (x8 + (1 : Int32))), (6, .long (x6 / (2 : Int64))), (10, .int (1 : Int32)), (0, .ref h_Y), (1, .int x1), (2, .int x2), (5, .int x5), (9, .int x9)]) hx hb d_Y_step_141 hl (k := 6) rfl rfl (by decide) rfl (fun ls hl => ?_)
          refine lv_goto (tgt := 109) hx hb d_Y_step_144 (by decide) ?_
          exact hk_109 x1 x2 x5 (x6 / (2 : Int64)) (x8 + (1 : Int32)) x9 (1 : Int32) Y_lo Y_ie Y_ra O_f N_f B_f Y_to Y_te Y_re _ _ _ hP hD hS (lv_sub hl [3, 4, 5, 6, 1, 0, 7, 2] rfl) hF
  have b_85 : ∀ n_ : Nat, ∀ (x1 : Int32) (x2 : Int32) (x5 : Int32) (x6 : Int64) (x8 : Int32) (x9 : Int32) (x10 : Int32) (Y_lo : Int32) (Y_ie : Int32) (Y_ra : Int32) (O_f : Nat → Int64) (N_f : Nat → Int32) (B_f : Nat → Int32) (Y_to : Int64) (Y_te : Int32) (Y_re : Int32) (H : Heap) (locs : List Loc) (ls : Array Slot), va_P (dC, dI) classes [cY h_Y h_O h_N h_B h_G h_K Y_lo Y_ie Y_ra Y_to Y_te Y_re, cL h_O k_O 8 O_f, cI h_N k_N 8 N_f, cI h_B k_B 8 B_f] H → va_D A [cY h_Y h_O h_N h_B h_G h_K Y_lo Y_ie Y_ra Y_to Y_te Y_re, cL h_O k_O 8 O_f, cI h_N k_N 8 N_f, cI h_B k_B 8 B_f] → va_S A s.heap H locs → lv_has ls 11 [(0, .ref h_Y), (1, .int x1), (2, .int x2), (5, .int x5), (6, .long x6), (8, .int x8), (9, .int x9), (10, .int x10)] → f_Y_step_85 n_ x1 x2 x5 x6 x8 x9 x10 Y_lo Y_ie Y_ra O_f N_f B_f = some o → W p l e (headSpec w_Y_step ({ frames := 4, cells := 0, slots := 0, locals := 98 } : Room)).room s m ([.ref h_Y, .int a1, .int a2, .int a3, .int a4] : List Value).toArray below meth c H locs 0 0 (MQ below (va_Qi (fun (r : Int32) (_ : Unit) => r = o.1) (fun (_ : Unit) (t : State) => va_P (dC, dI) classes [cY h_Y h_O h_N h_B h_G h_K o.2.1 o.2.2.1 o.2.2.2.1 Y_to Y_te Y_re, cL h_O k_O 8 o.2.2.2.2.1, cI h_N k_N 8 o.2.2.2.2.2.1, cI h_B k_B 8 o.2.2.2.2.2.2] t.heap ∧ va_K (dC, dI) classes [(k_O, .long), (k_N, .int), (k_B, .boolean)] t ∧ va_D A [cY h_Y h_O h_N h_B h_G h_K o.2.1 o.2.2.1 o.2.2.2.1 Y_to Y_te Y_re, cL h_O k_O 8 o.2.2.2.2.1, cI h_N k_N 8 o.2.2.2.2.2.1, cI h_B k_B 8 o.2.2.2.2.2.2]) A) ([.ref h_Y, .int a1, .int a2, .int a3, .int a4] : List Value).toArray s 0 0 A) (F0 m 85 ls []) := by
    intro n_
    induction n_ with
    | zero =>
      intro x1 x2 x5 x6 x8 x9 x10 Y_lo Y_ie Y_ra O_f N_f B_f Y_to Y_te Y_re H locs ls hP hD hS hl hF
      rw [f_Y_step_85] at hF
      exact absurd hF (by simp)
    | succ n_ ih =>
      obtain ⟨k_85, ek_85⟩ : ∃ k, k = f_Y_step_85 n_ := ⟨_, rfl⟩
      rw [← ek_85] at ih
      have hk_85 := ih
      intro x1 x2 x5 x6 x8 x9 x10 Y_lo Y_ie Y_ra O_f N_f B_f Y_to Y_te Y_re H locs ls hP hD hS hl hF
      rw [f_Y_step_85, ← ek_85] at hF
      refine lv_lload hx hb d_Y_step_85 (lv_at hl 4 rfl) ?_
      obtain ⟨q_87, hC_87, hF⟩ := hbd hF
      have hPc := hP.sub (ws' := []) [] rfl
      have hDc := hD.sub (ws' := []) [] (by decide) rfl
      have hKc := hK.sub (tys' := []) [] rfl
      have hFc := va_free (wc := []) hD hS hA [] rfl
      refine va_calli (va_runS (As := [.long x6]) (rest := []) ⟨hx, hb, hml, hown, hts⟩ (c_Y_bits l dC dI H.size x6 q_87 hC_87) (cwS 1 hts g_Y_29_Y_bits rfl rfl rfl (by decide +kernel) ⟨Nat.le_of_ble_eq_true rfl, Nat.le_of_ble_eq_true rfl⟩) ⟨fun a U g mk q => by obtain ⟨q0, q1, qP, qK, qD⟩ := q; exact ⟨q0, q1, qP, va_K.moved (u := U) (U := U.calling g mk a) (Vm.Alike.refl U.vm) qK, qD⟩, fun U hU hW => ⟨rfl, by rw [hU], by rw [hU]; exact hPc, va_K.moved hW.alike hKc, hDc.weaken (fun _ _ _ _ => trivial)⟩⟩ rfl rfl hl.1 rfl (lv_room (Nat.le_of_ble_eq_true rfl)) d_Y_step_87 ⟨Nat.zero_le _, Nat.zero_le _⟩) hS (fun q _ h => hFc q h) hFc (fun r u t H1 locs ht hvm hw hB hz1 hk1 hS => ?_)
      obtain ⟨hP1, hK1, hD1⟩ := hB
      replace hw := hw.symm
      subst hw
      rw [ht] at hP1
      obtain ⟨hP, hD⟩ := va_join (wr := [cY h_Y h_O h_N h_B h_G h_K Y_lo Y_ie Y_ra Y_to Y_te Y_re, cL h_O k_O 8 O_f, cI h_N k_N 8 N_f, cI h_B k_B 8 B_f]) (w1 := []) hP hD [] [0, 1, 2, 3] rfl rfl (by decide) (by decide) hk1 hFc hP1 hD1
      generalize H1 = H at hP hS ⊢
      have hP := hP.sub (ws' := [cY h_Y h_O h_N h_B h_G h_K Y_lo Y_ie Y_ra Y_to Y_te Y_re, cL h_O k_O 8 O_f, cI h_N k_N 8 N_f, cI h_B k_B 8 B_f]) [0, 1, 2, 3] rfl
      have hD := hD.sub (ws' := [cY h_Y h_O h_N h_B h_G h_K Y_lo Y_ie Y_ra Y_to Y_te Y_re, cL h_O k_O 8 O_f, cI h_N k_N 8 N_f, cI h_B k_B 8 B_f]) [0, 1, 2, 3] (by decide) rfl
      refine lv_iload hx hb d_Y_step_90 (lv_at hl 3 rfl) ?_
      refine lv_icmp_ge (tgt := 109) hx hb d_Y_step_92 (by decide) (fun c_92 => ?_) (fun c_92 => ?_)
      · replace hF := hif_t c_92 hF
        exact b_109 1000 x1 x2 x5 x6 x8 x9 x10 Y_lo Y_ie Y_ra O_f N_f B_f Y_to Y_te Y_re _ _ _ hP hD hS (lv_sub hl [0, 1, 2, 3, 4, 5, 6, 7] rfl) hF
      · replace hF := hif_f c_92 hF
        refine lv_lload hx hb d_Y_step_95 (lv_at hl 4 rfl) ?_
        refine lv_ldc2 (v := (2 : Int64)) hx hb hown (hts _ tw_372) d_Y_step_97 ?_
        refine lv_lmul hx hb d_Y_step_100 ?_
        refine lv_lstore (lv' := [(6, .long (x6 * (2 : Int64))), (0, .ref h_Y), (1, .int x1), (2, .int x2), (5, .int x5), (8, .int x8), (9, .int x9), (10, .int x10)]) hx hb d_Y_step_101 hl (by decide) rfl (fun ls hl => ?_)
        refine lv_iinc (v := (x8 + (-1 : Int32))) (lv' := [(8, .int (x8 + (-1 : Int32))), (6, .long (x6 * (2 : Int64))), (0, .ref h_Y), (1, .int x1), (2, .int x2), (5, .int x5), (9, .int x9), (10, .int x10)]) hx hb d_Y_step_103 hl (k := 5) rfl rfl (by decide) rfl (fun ls hl => ?_)
        refine lv_goto (tgt := 85) hx hb d_Y_step_106 (by decide) ?_
        exact hk_85 x1 x2 x5 (x6 * (2 : Int64)) (x8 + (-1 : Int32)) x9 x10 Y_lo Y_ie Y_ra O_f N_f B_f Y_to Y_te Y_re _ _ _ hP hD hS (lv_sub hl [2, 3, 4, 5, 1, 0, 6, 7] rfl) hF
  have b_57 : ∀ (y0 : Int32) (y1 : Int32) (Y_lo : Int32) (Y_ie : Int32) (Y_ra : Int32) (O_f : Nat → Int64) (N_f : Nat → Int32) (B_f : Nat → Int32) (Y_to : Int64) (Y_te : Int32) (Y_re : Int32) (H : Heap) (locs : List Loc) (ls : Array Slot), va_P (dC, dI) classes [cY h_Y h_O h_N h_B h_G h_K Y_lo Y_ie Y_ra Y_to Y_te Y_re, cL h_O k_O 8 O_f, cI h_N k_N 8 N_f, cI h_B k_B 8 B_f] H → va_D A [cY h_Y h_O h_N h_B h_G h_K Y_lo Y_ie Y_ra Y_to Y_te Y_re, cL h_O k_O 8 O_f, cI h_N k_N 8 N_f, cI h_B k_B 8 B_f] → va_S A s.heap H locs → lv_has ls 11 [] → f_Y_step_57  y0 y1 Y_lo Y_ie Y_ra O_f N_f B_f = some o → W p l e (headSpec w_Y_step ({ frames := 4, cells := 0, slots := 0, locals := 98 } : Room)).room s m ([.ref h_Y, .int a1, .int a2, .int a3, .int a4] : List Value).toArray below meth c H locs 0 0 (MQ below (va_Qi (fun (r : Int32) (_ : Unit) => r = o.1) (fun (_ : Unit) (t : State) => va_P (dC, dI) classes [cY h_Y h_O h_N h_B h_G h_K o.2.1 o.2.2.1 o.2.2.2.1 Y_to Y_te Y_re, cL h_O k_O 8 o.2.2.2.2.1, cI h_N k_N 8 o.2.2.2.2.2.1, cI h_B k_B 8 o.2.2.2.2.2.2] t.heap ∧ va_K (dC, dI) classes [(k_O, .long), (k_N, .int), (k_B, .boolean)] t ∧ va_D A [cY h_Y h_O h_N h_B h_G h_K o.2.1 o.2.2.1 o.2.2.2.1 Y_to Y_te Y_re, cL h_O k_O 8 o.2.2.2.2.1, cI h_N k_N 8 o.2.2.2.2.2.1, cI h_B k_B 8 o.2.2.2.2.2.2]) A) ([.ref h_Y, .int a1, .int a2, .int a3, .int a4] : List Value).toArray s 0 0 A) (F0 m 57 ls [.int y0, .int y1, .ref h_Y]) := by
    intro y0 y1 Y_lo Y_ie Y_ra O_f N_f B_f Y_to Y_te Y_re H locs ls hP hD hS hl hF
    unfold f_Y_step_57 at hF
    refine lv_lconst (v := (1 : Int64)) hx hb d_Y_step_57 (by decide) ?_
    refine lv_bipush (v := (-100 : Int32)) hx hb d_Y_step_58 (by decide) ?_
    refine lv_iconst (v := (0 : Int32)) hx hb d_Y_step_60 (by decide) ?_
    obtain ⟨q_61, hC_61, hF⟩ := hbd hF
    have hPc := hP.sub (ws' := [cY h_Y h_O h_N h_B h_G h_K Y_lo Y_ie Y_ra Y_to Y_te Y_re, cL h_O k_O 8 O_f, cI h_N k_N 8 N_f, cI h_B k_B 8 B_f]) [0, 1, 2, 3] rfl
    have hDc := hD.sub (ws' := [cY h_Y h_O h_N h_B h_G h_K Y_lo Y_ie Y_ra Y_to Y_te Y_re, cL h_O k_O 8 O_f, cI h_N k_N 8 N_f, cI h_B k_B 8 B_f]) [0, 1, 2, 3] (by decide) rfl
    have hKc := hK.sub (tys' := [(k_O, .long), (k_N, .int), (k_B, .boolean)]) [0, 1, 2] rfl
    have hFc := va_free (wc := [cY h_Y h_O h_N h_B h_G h_K Y_lo Y_ie Y_ra Y_to Y_te Y_re, cL h_O k_O 8 O_f, cI h_N k_N 8 N_f, cI h_B k_B 8 B_f]) hD hS hA [0, 1, 2, 3] rfl
    refine va_calli (va_runV (As := [.int y1, .int y0, .long (1 : Int64), .int (-100 : Int32), .int (0 : Int32)]) (rest := []) ⟨hx, hb, hml, hown, hts⟩ (c_Y_finish l dC dI h_Y h_O h_N h_B h_G h_K k_O k_N k_B H.size Y_lo Y_ie Y_ra Y_to Y_te Y_re O_f N_f B_f y1 y0 (1 : Int64) (-100 : Int32) (0 : Int32) q_61 hC_61) (cwV 5 hts g_Y_64_Y_finish rfl rfl rfl (by decide +kernel) ⟨Nat.le_of_ble_eq_true rfl, Nat.le_of_ble_eq_true rfl⟩) ⟨fun a U g mk q => by obtain ⟨q0, q1, qP, qK, qD⟩ := q; exact ⟨q0, q1, qP, va_K.moved (u := U) (U := U.calling g mk a) (Vm.Alike.refl U.vm) qK, qD⟩, va_recv hKc hPc (ci := 2) (q0 := 0) rfl rfl, fun U hU hW => ⟨rfl, by rw [hU], by rw [hU]; exact hPc, va_K.moved hW.alike hKc, hDc.weaken (fun _ _ _ _ => trivial)⟩⟩ rfl rfl hl.1 rfl (lv_room (Nat.le_of_ble_eq_true rfl)) d_Y_step_61 ⟨Nat.zero_le _, Nat.zero_le _⟩) hS (fun q _ h => hFc q h) hFc (fun r u t H1 locs ht hvm hw hB hz1 hk1 hS => ?_)
    obtain ⟨hP1, hK1, hD1⟩ := hB
    replace hw := hw.symm
    subst hw
    rw [ht] at hP1
    obtain ⟨hP, hD⟩ := va_join (wr := []) (w1 := [cY h_Y h_O h_N h_B h_G h_K q_61.2.1 q_61.2.2.1 q_61.2.2.2.1 Y_to Y_te Y_re, cL h_O k_O 8 q_61.2.2.2.2.1, cI h_N k_N 8 q_61.2.2.2.2.2.1, cI h_B k_B 8 q_61.2.2.2.2.2.2]) hP hD [0, 1, 2, 3] [] rfl rfl (by decide) (by decide) hk1 hFc hP1 hD1
    generalize H1 = H at hP hS ⊢
    have hP := hP.sub (ws' := [cY h_Y h_O h_N h_B h_G h_K q_61.2.1 q_61.2.2.1 q_61.2.2.2.1 Y_to Y_te Y_re, cL h_O k_O 8 q_61.2.2.2.2.1, cI h_N k_N 8 q_61.2.2.2.2.2.1, cI h_B k_B 8 q_61.2.2.2.2.2.2]) [0, 1, 2, 3] rfl
    have hD := hD.sub (ws' := [cY h_Y h_O h_N h_B h_G h_K q_61.2.1 q_61.2.2.1 q_61.2.2.2.1 Y_to Y_te Y_re, cL h_O k_O 8 q_61.2.2.2.2.1, cI h_N k_N 8 q_61.2.2.2.2.2.1, cI h_B k_B 8 q_61.2.2.2.2.2.2]) [0, 1, 2, 3] (by decide) rfl
    obtain rfl := Option.some.inj hF
    exact W.iret (v := q_61.1) hx hb hr (fun t ht hW => ⟨⟨q_61.1, (), rfl, rfl, by rw [ht]; exact hP, va_K.moved hW.alike hK, hD⟩, hS.F ht⟩) hS.2.2 d_Y_step_64
  unfold f_Y_step at hF
  refine lv_iload_n hx hb d_Y_step_0 rfl (lv_at hl 1 rfl) ?_
  obtain ⟨q_1, hC_1, hF⟩ := hbd hF
  have hPc := hP.sub (ws' := []) [] rfl
  have hDc := hD.sub (ws' := []) [] (by decide) rfl
  have hKc := hK.sub (tys' := []) [] rfl
  have hFc := va_free (wc := []) hD hS hA [] rfl
  refine va_calli (va_runS (As := [.int a1]) (rest := []) ⟨hx, hb, hml, hown, hts⟩ (c_Y_out l dC dI s.heap.size a1 q_1 hC_1) (cwS 1 hts g_Y_101_Y_out rfl rfl rfl (by decide +kernel) ⟨Nat.le_of_ble_eq_true rfl, Nat.le_of_ble_eq_true rfl⟩) ⟨fun a U g mk q => by obtain ⟨q0, q1, qP, qK, qD⟩ := q; exact ⟨q0, q1, qP, va_K.moved (u := U) (U := U.calling g mk a) (Vm.Alike.refl U.vm) qK, qD⟩, fun U hU hW => ⟨rfl, by rw [hU], by rw [hU]; exact hPc, va_K.moved hW.alike hKc, hDc.weaken (fun _ _ _ _ => trivial)⟩⟩ rfl rfl hl.1 rfl (lv_room (Nat.le_of_ble_eq_true rfl)) d_Y_step_1 ⟨Nat.zero_le _, Nat.zero_le _⟩) hS (fun q _ h => hFc q h) hFc (fun r u t H1 locs ht hvm hw hB hz1 hk1 hS => ?_)
  obtain ⟨hP1, hK1, hD1⟩ := hB
  replace hw := hw.symm
  subst hw
  rw [ht] at hP1
  obtain ⟨hP, hD⟩ := va_join (wr := [cY h_Y h_O h_N h_B h_G h_K Y_lo Y_ie Y_ra Y_to Y_te Y_re, cL h_O k_O 8 O_f, cI h_N k_N 8 N_f, cI h_B k_B 8 B_f]) (w1 := []) hP hD [] [0, 1, 2, 3] rfl rfl (by decide) (by decide) hk1 hFc hP1 hD1
  generalize H1 = H at hP hS ⊢
  have hP := hP.sub (ws' := [cY h_Y h_O h_N h_B h_G h_K Y_lo Y_ie Y_ra Y_to Y_te Y_re, cL h_O k_O 8 O_f, cI h_N k_N 8 N_f, cI h_B k_B 8 B_f]) [0, 1, 2, 3] rfl
  have hD := hD.sub (ws' := [cY h_Y h_O h_N h_B h_G h_K Y_lo Y_ie Y_ra Y_to Y_te Y_re, cL h_O k_O 8 O_f, cI h_N k_N 8 N_f, cI h_B k_B 8 B_f]) [0, 1, 2, 3] (by decide) rfl
  refine lv_if_ne (tgt := 14) hx hb d_Y_step_4 (by decide) (fun c_4 => ?_) (fun c_4 => ?_)
  · replace hF := hif_f c_4 hF
    refine lv_iconst (v := (-1 : Int32)) hx hb d_Y_step_14 (by decide) ?_
    obtain rfl := Option.some.inj hF
    exact W.iret (v := (-1 : Int32)) hx hb hr (fun t ht hW => ⟨⟨(-1 : Int32), (), rfl, rfl, by rw [ht]; exact hP, va_K.moved hW.alike hK, hD⟩, hS.F ht⟩) hS.2.2 d_Y_step_15
  · replace hF := hif_t c_4 hF
    refine lv_iload_n hx hb d_Y_step_7 rfl (lv_at hl 2 rfl) ?_
    obtain ⟨q_8, hC_8, hF⟩ := hbd hF
    have hPc := hP.sub (ws' := []) [] rfl
    have hDc := hD.sub (ws' := []) [] (by decide) rfl
    have hKc := hK.sub (tys' := []) [] rfl
    have hFc := va_free (wc := []) hD hS hA [] rfl
    refine va_calli (va_runS (As := [.int a2]) (rest := []) ⟨hx, hb, hml, hown, hts⟩ (c_Y_out l dC dI H.size a2 q_8 hC_8) (cwS 1 hts g_Y_101_Y_out rfl rfl rfl (by decide +kernel) ⟨Nat.le_of_ble_eq_true rfl, Nat.le_of_ble_eq_true rfl⟩) ⟨fun a U g mk q => by obtain ⟨q0, q1, qP, qK, qD⟩ := q; exact ⟨q0, q1, qP, va_K.moved (u := U) (U := U.calling g mk a) (Vm.Alike.refl U.vm) qK, qD⟩, fun U hU hW => ⟨rfl, by rw [hU], by rw [hU]; exact hPc, va_K.moved hW.alike hKc, hDc.weaken (fun _ _ _ _ => trivial)⟩⟩ rfl rfl hl.1 rfl (lv_room (Nat.le_of_ble_eq_true rfl)) d_Y_step_8 ⟨Nat.zero_le _, Nat.zero_le _⟩) hS (fun q _ h => hFc q h) hFc (fun r u t H1 locs ht hvm hw hB hz1 hk1 hS => ?_)
    obtain ⟨hP1, hK1, hD1⟩ := hB
    replace hw := hw.symm
    subst hw
    rw [ht] at hP1
    obtain ⟨hP, hD⟩ := va_join (wr := [cY h_Y h_O h_N h_B h_G h_K Y_lo Y_ie Y_ra Y_to Y_te Y_re, cL h_O k_O 8 O_f, cI h_N k_N 8 N_f, cI h_B k_B 8 B_f]) (w1 := []) hP hD [] [0, 1, 2, 3] rfl rfl (by decide) (by decide) hk1 hFc hP1 hD1
    generalize H1 = H at hP hS ⊢
    have hP := hP.sub (ws' := [cY h_Y h_O h_N h_B h_G h_K Y_lo Y_ie Y_ra Y_to Y_te Y_re, cL h_O k_O 8 O_f, cI h_N k_N 8 N_f, cI h_B k_B 8 B_f]) [0, 1, 2, 3] rfl
    have hD := hD.sub (ws' := [cY h_Y h_O h_N h_B h_G h_K Y_lo Y_ie Y_ra Y_to Y_te Y_re, cL h_O k_O 8 O_f, cI h_N k_N 8 N_f, cI h_B k_B 8 B_f]) [0, 1, 2, 3] (by decide) rfl
    refine lv_if_eq (tgt := 16) hx hb d_Y_step_11 (by decide) (fun c_11 => ?_) (fun c_11 => ?_)
    · replace hF := hif_t c_11 hF
      refine lv_iload hx hb d_Y_step_16 (lv_at hl 4 rfl) ?_
      obtain ⟨q_18, hC_18, hF⟩ := hbd hF
      have hPc := hP.sub (ws' := []) [] rfl
      have hDc := hD.sub (ws' := []) [] (by decide) rfl
      have hKc := hK.sub (tys' := []) [] rfl
      have hFc := va_free (wc := []) hD hS hA [] rfl
      refine va_calli (va_runS (As := [.int a4]) (rest := []) ⟨hx, hb, hml, hown, hts⟩ (c_Y_size l dC dI H.size a4 q_18 hC_18) (cwS 1 hts g_Y_120_Y_size rfl rfl rfl (by decide +kernel) ⟨Nat.le_of_ble_eq_true rfl, Nat.le_of_ble_eq_true rfl⟩) ⟨fun a U g mk q => by obtain ⟨q0, q1, qP, qK, qD⟩ := q; exact ⟨q0, q1, qP, va_K.moved (u := U) (U := U.calling g mk a) (Vm.Alike.refl U.vm) qK, qD⟩, fun U hU hW => ⟨rfl, by rw [hU], by rw [hU]; exact hPc, va_K.moved hW.alike hKc, hDc.weaken (fun _ _ _ _ => trivial)⟩⟩ rfl rfl hl.1 rfl (lv_room (Nat.le_of_ble_eq_true rfl)) d_Y_step_18 ⟨Nat.zero_le _, Nat.zero_le _⟩) hS (fun q _ h => hFc q h) hFc (fun r u t H1 locs ht hvm hw hB hz1 hk1 hS => ?_)
      obtain ⟨hP1, hK1, hD1⟩ := hB
      replace hw := hw.symm
      subst hw
      rw [ht] at hP1
      obtain ⟨hP, hD⟩ := va_join (wr := [cY h_Y h_O h_N h_B h_G h_K Y_lo Y_ie Y_ra Y_to Y_te Y_re, cL h_O k_O 8 O_f, cI h_N k_N 8 N_f, cI h_B k_B 8 B_f]) (w1 := []) hP hD [] [0, 1, 2, 3] rfl rfl (by decide) (by decide) hk1 hFc hP1 hD1
      generalize H1 = H at hP hS ⊢
      have hP := hP.sub (ws' := [cY h_Y h_O h_N h_B h_G h_K Y_lo Y_ie Y_ra Y_to Y_te Y_re, cL h_O k_O 8 O_f, cI h_N k_N 8 N_f, cI h_B k_B 8 B_f]) [0, 1, 2, 3] rfl
      have hD := hD.sub (ws' := [cY h_Y h_O h_N h_B h_G h_K Y_lo Y_ie Y_ra Y_to Y_te Y_re, cL h_O k_O 8 O_f, cI h_N k_N 8 N_f, cI h_B k_B 8 B_f]) [0, 1, 2, 3] (by decide) rfl
      refine lv_istore (lv' := [(5, .int q_18), (0, .ref h_Y), (1, .int a1), (2, .int a2), (3, .int a3), (4, .int a4)]) hx hb d_Y_step_21 hl (by decide) rfl (fun ls hl => ?_)
      refine lv_aload_n hx hb d_Y_step_23 rfl (lv_at hl 1 rfl) ?_
      refine va_get (D := (dC, dI)) (ci := 2) (v := .ref h_O) (C := "RoundedNumbersModel") (T := F_Y) (N := 11) hx hb hts in_Y hown hK hP 0 rfl rfl 0 (by decide) (hts _ tw_314) (fun _ h9 => h9) rfl d_Y_step_24 ?_
      refine lv_iload_n hx hb d_Y_step_27 rfl (lv_at hl 3 rfl) ?_
      have c_28 : ¬ (a2 < 0 ∨ 8 ≤ a2.toNatClampNeg) := hif_n hF
      replace hF := hif_f c_28 hF
      refine va_lald hx hb hK hP 1 0 rfl rfl c_28 d_Y_step_28 ?_
      refine lv_lstore (lv' := [(6, .long (O_f a2.toNatClampNeg)), (5, .int q_18), (0, .ref h_Y), (1, .int a1), (2, .int a2), (3, .int a3), (4, .int a4)]) hx hb d_Y_step_29 hl (by decide) rfl (fun ls hl => ?_)
      refine lv_aload_n hx hb d_Y_step_31 rfl (lv_at hl 2 rfl) ?_
      refine va_get (D := (dC, dI)) (ci := 2) (v := .ref h_N) (C := "RoundedNumbersModel") (T := F_Y) (N := 11) hx hb hts in_Y hown hK hP 0 rfl rfl 1 (by decide) (hts _ tw_315) (fun _ h9 => h9) rfl d_Y_step_32 ?_
      refine lv_iload_n hx hb d_Y_step_35 rfl (lv_at hl 4 rfl) ?_
      have c_36 : ¬ (a2 < 0 ∨ 8 ≤ a2.toNatClampNeg) := hif_n hF
      replace hF := hif_f c_36 hF
      refine va_iald hx hb hK hP 2 1 rfl rfl c_36 d_Y_step_36 ?_
      refine lv_istore (lv' := [(8, .int (N_f a2.toNatClampNeg)), (6, .long (O_f a2.toNatClampNeg)), (5, .int q_18), (0, .ref h_Y), (1, .int a1), (2, .int a2), (3, .int a3), (4, .int a4)]) hx hb d_Y_step_37 hl (by decide) rfl (fun ls hl => ?_)
      refine lv_lload hx hb d_Y_step_39 (lv_at hl 1 rfl) ?_
      refine lv_lconst (v := (0 : Int64)) hx hb d_Y_step_41 (by decide) ?_
      refine W.lcmp hx hb d_Y_step_42 ?_
      refine lv_if_ne (tgt := 65) hx hb d_Y_step_43 (by decide) (fun c_43 => ?_) (fun c_43 => ?_)
      · replace hF := hif_f c_43 hF
        refine lv_iload_n hx hb d_Y_step_65 rfl (lv_at hl 6 rfl) ?_
        refine lv_aload_n hx hb d_Y_step_66 rfl (lv_at hl 3 rfl) ?_
        refine va_get (D := (dC, dI)) (ci := 2) (v := .ref h_B) (C := "RoundedNumbersModel") (T := F_Y) (N := 11) hx hb hts in_Y hown hK hP 0 rfl rfl 2 (by decide) (hts _ tw_316) (fun _ h9 => h9) rfl d_Y_step_67 ?_
        refine lv_iload_n hx hb d_Y_step_70 rfl (lv_at hl 5 rfl) ?_
        have c_71 : ¬ (a2 < 0 ∨ 8 ≤ a2.toNatClampNeg) := hif_n hF
        replace hF := hif_f c_71 hF
        refine va_zald hx hb hK hP 3 2 rfl rfl c_71 d_Y_step_71 ?_
        refine lv_icmp_eq (tgt := 79) hx hb d_Y_step_72 (by decide) (fun c_72 => ?_) (fun c_72 => ?_)
        · replace hF := hif_t c_72 hF
          refine lv_iconst (v := (0 : Int32)) hx hb d_Y_step_79 (by decide) ?_
          refine lv_istore (lv' := [(9, .int (0 : Int32)), (8, .int (N_f a2.toNatClampNeg)), (6, .long (O_f a2.toNatClampNeg)), (5, .int q_18), (0, .ref h_Y), (1, .int a1), (2, .int a2), (3, .int a3), (4, .int a4)]) hx hb d_Y_step_80 hl (by decide) rfl (fun ls hl => ?_)
          refine lv_iconst (v := (0 : Int32)) hx hb d_Y_step_82 (by decide) ?_
          refine lv_istore (lv' := [(10, .int (0 : Int32)), (9, .int (0 : Int32)), (8, .int (N_f a2.toNatClampNeg)), (6, .long (O_f a2.toNatClampNeg)), (5, .int q_18), (0, .ref h_Y), (1, .int a1), (2, .int a2), (3, .int a3), (4, .int a4)]) hx hb d_Y_step_83 hl (by decide) rfl (fun ls hl => ?_)
          exact b_85 1000 a1 a2 q_18 (O_f a2.toNatClampNeg) (N_f a2.toNatClampNeg) (0 : Int32) (0 : Int32) Y_lo Y_ie Y_ra O_f N_f B_f Y_to Y_te Y_re _ _ _ hP hD hS (lv_sub hl [5, 6, 7, 4, 3, 2, 1, 0] rfl) hF
        · replace hF := hif_f c_72 hF
          refine lv_iconst (v := (1 : Int32)) hx hb d_Y_step_75 (by decide) ?_
          refine lv_goto (tgt := 80) hx hb d_Y_step_76 (by decide) ?_
          refine lv_istore (lv' := [(9, .int (1 : Int32)), (8, .int (N_f a2.toNatClampNeg)), (6, .long (O_f a2.toNatClampNeg)), (5, .int q_18), (0, .ref h_Y), (1, .int a1), (2, .int a2), (3, .int a3), (4, .int a4)]) hx hb d_Y_step_80 hl (by decide) rfl (fun ls hl => ?_)
          refine lv_iconst (v := (0 : Int32)) hx hb d_Y_step_82 (by decide) ?_
          refine lv_istore (lv' := [(10, .int (0 : Int32)), (9, .int (1 : Int32)), (8, .int (N_f a2.toNatClampNeg)), (6, .long (O_f a2.toNatClampNeg)), (5, .int q_18), (0, .ref h_Y), (1, .int a1), (2, .int a2), (3, .int a3), (4, .int a4)]) hx hb d_Y_step_83 hl (by decide) rfl (fun ls hl => ?_)
          exact b_85 1000 a1 a2 q_18 (O_f a2.toNatClampNeg) (N_f a2.toNatClampNeg) (1 : Int32) (0 : Int32) Y_lo Y_ie Y_ra O_f N_f B_f Y_to Y_te Y_re _ _ _ hP hD hS (lv_sub hl [5, 6, 7, 4, 3, 2, 1, 0] rfl) hF
      · replace hF := hif_t c_43 hF
        refine lv_aload_n hx hb d_Y_step_46 rfl (lv_at hl 3 rfl) ?_
        refine lv_iload_n hx hb d_Y_step_47 rfl (lv_at hl 4 rfl) ?_
        refine lv_iload_n hx hb d_Y_step_48 rfl (lv_at hl 6 rfl) ?_
        refine lv_if_ne (tgt := 56) hx hb d_Y_step_49 (by decide) (fun c_49 => ?_) (fun c_49 => ?_)
        · replace hF := hif_f c_49 hF
          refine lv_iconst (v := (0 : Int32)) hx hb d_Y_step_56 (by decide) ?_
          exact b_57 (0 : Int32) a1 Y_lo Y_ie Y_ra O_f N_f B_f Y_to Y_te Y_re _ _ _ hP hD hS (lv_sub hl [] rfl) hF
        · replace hF := hif_t c_49 hF
          refine lv_iconst (v := (1 : Int32)) hx hb d_Y_step_52 (by decide) ?_
          refine lv_goto (tgt := 57) hx hb d_Y_step_53 (by decide) ?_
          exact b_57 (1 : Int32) a1 Y_lo Y_ie Y_ra O_f N_f B_f Y_to Y_te Y_re _ _ _ hP hD hS (lv_sub hl [] rfl) hF
    · replace hF := hif_f c_11 hF
      refine lv_iconst (v := (-1 : Int32)) hx hb d_Y_step_14 (by decide) ?_
      obtain rfl := Option.some.inj hF
      exact W.iret (v := (-1 : Int32)) hx hb hr (fun t ht hW => ⟨⟨(-1 : Int32), (), rfl, rfl, by rw [ht]; exact hP, va_K.moved hW.alike hK, hD⟩, hS.F ht⟩) hS.2.2 d_Y_step_15
set_option maxHeartbeats 4000000 in
set_option maxRecDepth 100000 in
theorem c_Y_cube (l : Launch) (dC : Nat → ClassId) (dI : Nat → Nat → Nat) (h_Y : Nat) (h_O : Nat) (h_N : Nat) (h_B : Nat) (h_G : Nat) (h_K : Nat) (k_G : ClassId) (k_K : ClassId) (sz : Nat) (Y_lo : Int32) (Y_ie : Int32) (Y_ra : Int32) (Y_to : Int64) (Y_te : Int32) (Y_re : Int32) (G_f : Nat → Int32) (K_f : Nat → Int32) (a1 : Int64) (a2 : Int32) (o : (Nat → Int32) × (Nat → Int32)) (hF : f_Y_cube G_f K_f a1 a2 = some o) : Met l y_Y_cube w_Y_cube ({ frames := 3, cells := 0, slots := 0, locals := 84 } : Room) (va_Pc [.ref h_Y, .long a1, .int a2] (fun U => U.heap.size = sz ∧ va_P (dC, dI) classes [cY h_Y h_O h_N h_B h_G h_K Y_lo Y_ie Y_ra Y_to Y_te Y_re, cI h_G k_G 30 G_f, cI h_K k_K 30 K_f] U.heap ∧ va_K (dC, dI) classes [(k_G, .int), (k_K, .int)] U ∧ va_D (fun _ => True) [cY h_Y h_O h_N h_B h_G h_K Y_lo Y_ie Y_ra Y_to Y_te Y_re, cI h_G k_G 30 G_f, cI h_K k_K 30 K_f])) (va_Qv (fun _ : Unit => True) (fun (_ : Unit) (t : State) => va_P (dC, dI) classes [cY h_Y h_O h_N h_B h_G h_K Y_lo Y_ie Y_ra Y_to Y_te Y_re, cI h_G k_G 30 o.1, cI h_K k_K 30 o.2] t.heap ∧ va_K (dC, dI) classes [(k_G, .int), (k_K, .int)] t ∧ va_D (va_A [cY h_Y h_O h_N h_B h_G h_K Y_lo Y_ie Y_ra Y_to Y_te Y_re, cI h_G k_G 30 G_f, cI h_K k_K 30 K_f] sz) [cY h_Y h_O h_N h_B h_G h_K Y_lo Y_ie Y_ra Y_to Y_te Y_re, cI h_G k_G 30 o.1, cI h_K k_K 30 o.2]) (va_A [cY h_Y h_O h_N h_B h_G h_K Y_lo Y_ie Y_ra Y_to Y_te Y_re, cI h_G k_G 30 G_f, cI h_K k_K 30 K_f] sz)) 0 0 (va_A [cY h_Y h_O h_N h_B h_G h_K Y_lo Y_ie Y_ra Y_to Y_te Y_re, cI h_G k_G 30 G_f, cI h_K k_K 30 K_f] sz) := by
  refine Met.ofW (cc := prog_4_method_36_code) (maxL := 5) (ret := none) (by decide) rfl ?_
  intro p e s m args below meth c s₁ B hml hv
  obtain ⟨rfl, hsz, hP, hK, hD0⟩ := hv
  have hx := B.exec
  have hb := B.bytes
  have hr := B.returns
  have hts0 := atoms_spec (ws := w_Y_cube) B.pre
  have hts : ∀ w ∈ tb, w.before _ s = true := fun w h => hts0 w (List.mem_cons_of_mem _ h)
  clear hts0
  have hown : s.vm.findClass "RoundedNumbersModel" = some m.cls := findClass_of_methodNamed B.named
  have hlocks := B.notSynchronized
  subst hsz
  have hD := hD0.self (sz := s.heap.size)
  generalize hAe : va_A [cY h_Y h_O h_N h_B h_G h_K Y_lo Y_ie Y_ra Y_to Y_te Y_re, cI h_G k_G 30 G_f, cI h_K k_K 30 K_f] s.heap.size = A at hD ⊢
  have hA : ∀ q : Nat, s.heap.size ≤ q → A q := fun q h => by rw [← hAe]; exact Or.inr h
  clear hAe
  have hS : va_S A s.heap s.heap [] := va_S.rf
  have hP : va_P (dC, dI) classes [cY h_Y h_O h_N h_B h_G h_K Y_lo Y_ie Y_ra Y_to Y_te Y_re, cI h_G k_G 30 G_f, cI h_K k_K 30 K_f] s.heap := hP
  have hl := lv_entry ([.ref h_Y, .long a1, .int a2]) (n := 5) (Nat.le_of_ble_eq_true rfl)
  rw [lg_entry_eq]
  generalize (lg_sl ([.ref h_Y, .long a1, .int a2]) ++ List.replicate (5 - (lg_sl ([.ref h_Y, .long a1, .int a2])).length) Slot.unset).toArray = ls at hl ⊢
  have hl : lv_has ls 5 [(0, .ref h_Y), (1, .long a1), (3, .int a2)] := hl
  have b_27 : ∀ n_ : Nat, ∀ (x1 : Int64) (x3 : Int32) (x4 : Int32) (G_f : Nat → Int32) (K_f : Nat → Int32) (Y_lo : Int32) (Y_ie : Int32) (Y_ra : Int32) (Y_to : Int64) (Y_te : Int32) (Y_re : Int32) (H : Heap) (locs : List Loc) (ls : Array Slot), va_P (dC, dI) classes [cY h_Y h_O h_N h_B h_G h_K Y_lo Y_ie Y_ra Y_to Y_te Y_re, cI h_G k_G 30 G_f, cI h_K k_K 30 K_f] H → va_D A [cY h_Y h_O h_N h_B h_G h_K Y_lo Y_ie Y_ra Y_to Y_te Y_re, cI h_G k_G 30 G_f, cI h_K k_K 30 K_f] → va_S A s.heap H locs → lv_has ls 5 [(0, .ref h_Y), (1, .long x1), (3, .int x3), (4, .int x4)] → f_Y_cube_27 n_ x1 x3 x4 G_f K_f = some o → W p l e (headSpec w_Y_cube ({ frames := 3, cells := 0, slots := 0, locals := 84 } : Room)).room s m ([.ref h_Y, .long a1, .int a2] : List Value).toArray below meth c H locs 0 0 (MQ below (va_Qv (fun _ : Unit => True) (fun (_ : Unit) (t : State) => va_P (dC, dI) classes [cY h_Y h_O h_N h_B h_G h_K Y_lo Y_ie Y_ra Y_to Y_te Y_re, cI h_G k_G 30 o.1, cI h_K k_K 30 o.2] t.heap ∧ va_K (dC, dI) classes [(k_G, .int), (k_K, .int)] t ∧ va_D A [cY h_Y h_O h_N h_B h_G h_K Y_lo Y_ie Y_ra Y_to Y_te Y_re, cI h_G k_G 30 o.1, cI h_K k_K 30 o.2]) A) ([.ref h_Y, .long a1, .int a2] : List Value).toArray s 0 0 A) (F0 m 27 ls []) := by
    intro n_
    induction n_ with
    | zero =>
      intro x1 x3 x4 G_f K_f Y_lo Y_ie Y_ra Y_to Y_te Y_re H locs ls hP hD hS hl hF
      rw [f_Y_cube_27] at hF
      exact absurd hF (by simp)
    | succ n_ ih =>
      obtain ⟨k_27, ek_27⟩ : ∃ k, k = f_Y_cube_27 n_ := ⟨_, rfl⟩
      rw [← ek_27] at ih
      have hk_27 := ih
      intro x1 x3 x4 G_f K_f Y_lo Y_ie Y_ra Y_to Y_te Y_re H locs ls hP hD hS hl hF
      rw [f_Y_cube_27, ← ek_27] at hF
      refine lv_iload hx hb d_Y_cube_27 (lv_at hl 3 rfl) ?_
      refine lv_iconst (v := (4 : Int32)) hx hb d_Y_cube_29 (by decide) ?_
      refine lv_icmp_ge (tgt := 97) hx hb d_Y_cube_30 (by decide) (fun c_30 => ?_) (fun c_30 => ?_)
      · replace hF := hif_t c_30 hF
        obtain rfl := Option.some.inj hF
        exact W.vret hx hb hr (fun t ht hW => ⟨⟨(), rfl, trivial, by rw [ht]; exact hP, va_K.moved hW.alike hK, hD⟩, hS.F ht⟩) hS.2.2 d_Y_cube_97
      · replace hF := hif_f c_30 hF
        refine lv_aload_n hx hb d_Y_cube_33 rfl (lv_at hl 0 rfl) ?_
        refine va_get (D := (dC, dI)) (ci := 2) (v := .ref h_G) (C := "RoundedNumbersModel") (T := F_Y) (N := 11) hx hb hts in_Y hown hK hP 0 rfl rfl 6 (by decide) (hts _ tw_320) (fun _ h9 => h9) rfl d_Y_cube_34 ?_
        refine lv_aload_n hx hb d_Y_cube_37 rfl (lv_at hl 0 rfl) ?_
        refine va_get (D := (dC, dI)) (ci := 2) (v := .ref h_K) (C := "RoundedNumbersModel") (T := F_Y) (N := 11) hx hb hts in_Y hown hK hP 0 rfl rfl 7 (by decide) (hts _ tw_321) (fun _ h9 => h9) rfl d_Y_cube_38 ?_
        refine lv_iload hx hb d_Y_cube_41 (lv_at hl 3 rfl) ?_
        have c_43 : ¬ (x4 < 0 ∨ 30 ≤ x4.toNatClampNeg) := hif_n hF
        replace hF := hif_f c_43 hF
        refine va_iald hx hb hK hP 2 1 rfl rfl c_43 d_Y_cube_43 ?_
        refine lv_i2l (v := (K_f x4.toNatClampNeg).toInt64) hx hb d_Y_cube_44 rfl ?_
        refine lv_lload_n hx hb d_Y_cube_45 rfl (lv_at hl 1 rfl) ?_
        refine lv_ldc2 (v := (134217727 : Int64)) hx hb hown (hts _ tw_441) d_Y_cube_46 ?_
        refine lv_land hx hb d_Y_cube_49 ?_
        refine lv_lmul hx hb d_Y_cube_50 ?_
        refine lv_bipush (v := (28 : Int32)) hx hb d_Y_cube_51 (by decide) ?_
        refine lv_iload hx hb d_Y_cube_53 (lv_at hl 3 rfl) ?_
        refine lv_imul hx hb d_Y_cube_55 ?_
        refine lv_iload_n hx hb d_Y_cube_56 rfl (lv_at hl 2 rfl) ?_
        refine lv_iadd hx hb d_Y_cube_57 ?_
        obtain ⟨q_58, hC_58, hF⟩ := hbd hF
        have hPc := hP.sub (ws' := [cI h_G k_G 30 G_f]) [1] rfl
        have hDc := hD.sub (ws' := [cI h_G k_G 30 G_f]) [1] (by decide) rfl
        have hKc := hK.sub (tys' := [(k_G, .int)]) [0] rfl
        have hFc := va_free (wc := [cI h_G k_G 30 G_f]) hD hS hA [1] rfl
        refine va_callv (va_runS (As := [.ref h_G, .long ((K_f x4.toNatClampNeg).toInt64 * (x1 &&& (134217727 : Int64))), .int (((28 : Int32) * x4) + x3)]) (rest := []) ⟨hx, hb, hml, hown, hts⟩ (c_Y_addShifted l dC dI h_G k_G H.size G_f ((K_f x4.toNatClampNeg).toInt64 * (x1 &&& (134217727 : Int64))) (((28 : Int32) * x4) + x3) q_58 hC_58) (cwS 3 hts g_Y_80_Y_addShifted rfl rfl rfl (by decide +kernel) ⟨Nat.le_of_ble_eq_true rfl, Nat.le_of_ble_eq_true rfl⟩) ⟨fun a U g mk q => by obtain ⟨q0, q1, qP, qK, qD⟩ := q; exact ⟨q0, q1, qP, va_K.moved (u := U) (U := U.calling g mk a) (Vm.Alike.refl U.vm) qK, qD⟩, fun U hU hW => ⟨rfl, by rw [hU], by rw [hU]; exact hPc, va_K.moved hW.alike hKc, hDc.weaken (fun _ _ _ _ => trivial)⟩⟩ rfl rfl hl.1 rfl (lv_room (Nat.le_of_ble_eq_true rfl)) d_Y_cube_58 ⟨Nat.zero_le _, Nat.zero_le _⟩) hS (fun q _ h => hFc q h) hFc (fun u t H1 locs ht hvm hw hB hz1 hk1 hS => ?_)
        obtain ⟨hP1, hK1, hD1⟩ := hB
        rw [ht] at hP1
        obtain ⟨hP, hD⟩ := va_join (wr := [cY h_Y h_O h_N h_B h_G h_K Y_lo Y_ie Y_ra Y_to Y_te Y_re, cI h_K k_K 30 K_f]) (w1 := [cI h_G k_G 30 q_58]) hP hD [1] [0, 2] rfl rfl (by decide) (by decide) hk1 hFc hP1 hD1
        generalize H1 = H at hP hS ⊢
        have hP := hP.sub (ws' := [cY h_Y h_O h_N h_B h_G h_K Y_lo Y_ie Y_ra Y_to Y_te Y_re, cI h_G k_G 30 q_58, cI h_K k_K 30 K_f]) [0, 2, 1] rfl
        have hD := hD.sub (ws' := [cY h_Y h_O h_N h_B h_G h_K Y_lo Y_ie Y_ra Y_to Y_te Y_re, cI h_G k_G 30 q_58, cI h_K k_K 30 K_f]) [0, 2, 1] (by decide) rfl
        refine lv_aload_n hx hb d_Y_cube_61 rfl (lv_at hl 0 rfl) ?_
        refine va_get (D := (dC, dI)) (ci := 2) (v := .ref h_G) (C := "RoundedNumbersModel") (T := F_Y) (N := 11) hx hb hts in_Y hown hK hP 0 rfl rfl 6 (by decide) (hts _ tw_320) (fun _ h9 => h9) rfl d_Y_cube_62 ?_
        refine lv_aload_n hx hb d_Y_cube_65 rfl (lv_at hl 0 rfl) ?_
        refine va_get (D := (dC, dI)) (ci := 2) (v := .ref h_K) (C := "RoundedNumbersModel") (T := F_Y) (N := 11) hx hb hts in_Y hown hK hP 0 rfl rfl 7 (by decide) (hts _ tw_321) (fun _ h9 => h9) rfl d_Y_cube_66 ?_
        refine lv_iload hx hb d_Y_cube_69 (lv_at hl 3 rfl) ?_
        have c_71 : ¬ (x4 < 0 ∨ 30 ≤ x4.toNatClampNeg) := hif_n hF
        replace hF := hif_f c_71 hF
        refine va_iald hx hb hK hP 2 1 rfl rfl c_71 d_Y_cube_71 ?_
        refine lv_i2l (v := (K_f x4.toNatClampNeg).toInt64) hx hb d_Y_cube_72 rfl ?_
        refine lv_lload_n hx hb d_Y_cube_73 rfl (lv_at hl 1 rfl) ?_
        refine lv_bipush (v := (27 : Int32)) hx hb d_Y_cube_74 (by decide) ?_
        refine lv_lshr (v := (jshr x1 (27 : Int32))) hx hb d_Y_cube_76 rfl ?_
        refine lv_lmul hx hb d_Y_cube_77 ?_
        refine lv_bipush (v := (28 : Int32)) hx hb d_Y_cube_78 (by decide) ?_
        refine lv_iload hx hb d_Y_cube_80 (lv_at hl 3 rfl) ?_
        refine lv_imul hx hb d_Y_cube_82 ?_
        refine lv_bipush (v := (27 : Int32)) hx hb d_Y_cube_83 (by decide) ?_
        refine lv_iadd hx hb d_Y_cube_85 ?_
        refine lv_iload_n hx hb d_Y_cube_86 rfl (lv_at hl 2 rfl) ?_
        refine lv_iadd hx hb d_Y_cube_87 ?_
        obtain ⟨q_88, hC_88, hF⟩ := hbd hF
        have hPc := hP.sub (ws' := [cI h_G k_G 30 q_58]) [1] rfl
        have hDc := hD.sub (ws' := [cI h_G k_G 30 q_58]) [1] (by decide) rfl
        have hKc := hK.sub (tys' := [(k_G, .int)]) [0] rfl
        have hFc := va_free (wc := [cI h_G k_G 30 q_58]) hD hS hA [1] rfl
        refine va_callv (va_runS (As := [.ref h_G, .long ((K_f x4.toNatClampNeg).toInt64 * (jshr x1 (27 : Int32))), .int ((((28 : Int32) * x4) + (27 : Int32)) + x3)]) (rest := []) ⟨hx, hb, hml, hown, hts⟩ (c_Y_addShifted l dC dI h_G k_G H.size q_58 ((K_f x4.toNatClampNeg).toInt64 * (jshr x1 (27 : Int32))) ((((28 : Int32) * x4) + (27 : Int32)) + x3) q_88 hC_88) (cwS 3 hts g_Y_80_Y_addShifted rfl rfl rfl (by decide +kernel) ⟨Nat.le_of_ble_eq_true rfl, Nat.le_of_ble_eq_true rfl⟩) ⟨fun a U g mk q => by obtain ⟨q0, q1, qP, qK, qD⟩ := q; exact ⟨q0, q1, qP, va_K.moved (u := U) (U := U.calling g mk a) (Vm.Alike.refl U.vm) qK, qD⟩, fun U hU hW => ⟨rfl, by rw [hU], by rw [hU]; exact hPc, va_K.moved hW.alike hKc, hDc.weaken (fun _ _ _ _ => trivial)⟩⟩ rfl rfl hl.1 rfl (lv_room (Nat.le_of_ble_eq_true rfl)) d_Y_cube_88 ⟨Nat.zero_le _, Nat.zero_le _⟩) hS (fun q _ h => hFc q h) hFc (fun u t H1 locs ht hvm hw hB hz1 hk1 hS => ?_)
        obtain ⟨hP1, hK1, hD1⟩ := hB
        rw [ht] at hP1
        obtain ⟨hP, hD⟩ := va_join (wr := [cY h_Y h_O h_N h_B h_G h_K Y_lo Y_ie Y_ra Y_to Y_te Y_re, cI h_K k_K 30 K_f]) (w1 := [cI h_G k_G 30 q_88]) hP hD [1] [0, 2] rfl rfl (by decide) (by decide) hk1 hFc hP1 hD1
        generalize H1 = H at hP hS ⊢
        have hP := hP.sub (ws' := [cY h_Y h_O h_N h_B h_G h_K Y_lo Y_ie Y_ra Y_to Y_te Y_re, cI h_G k_G 30 q_88, cI h_K k_K 30 K_f]) [0, 2, 1] rfl
        have hD := hD.sub (ws' := [cY h_Y h_O h_N h_B h_G h_K Y_lo Y_ie Y_ra Y_to Y_te Y_re, cI h_G k_G 30 q_88, cI h_K k_K 30 K_f]) [0, 2, 1] (by decide) rfl
        refine lv_iinc (v := (x4 + (1 : Int32))) (lv' := [(4, .int (x4 + (1 : Int32))), (0, .ref h_Y), (1, .long x1), (3, .int x3)]) hx hb d_Y_cube_91 hl (k := 3) rfl rfl (by decide) rfl (fun ls hl => ?_)
        refine lv_goto (tgt := 27) hx hb d_Y_cube_94 (by decide) ?_
        exact hk_27 x1 x3 (x4 + (1 : Int32)) q_88 K_f Y_lo Y_ie Y_ra Y_to Y_te Y_re _ _ _ hP hD hS (lv_sub hl [1, 2, 3, 0] rfl) hF
  unfold f_Y_cube at hF
  refine lv_aload_n hx hb d_Y_cube_0 rfl (lv_at hl 0 rfl) ?_
  refine va_get (D := (dC, dI)) (ci := 2) (v := .ref h_K) (C := "RoundedNumbersModel") (T := F_Y) (N := 11) hx hb hts in_Y hown hK hP 0 rfl rfl 7 (by decide) (hts _ tw_321) (fun _ h9 => h9) rfl d_Y_cube_1 ?_
  obtain ⟨q_4, hC_4, hF⟩ := hbd hF
  have hPc := hP.sub (ws' := [cI h_K k_K 30 K_f]) [2] rfl
  have hDc := hD.sub (ws' := [cI h_K k_K 30 K_f]) [2] (by decide) rfl
  have hKc := hK.sub (tys' := [(k_K, .int)]) [1] rfl
  have hFc := va_free (wc := [cI h_K k_K 30 K_f]) hD hS hA [2] rfl
  refine va_callv (va_runS (As := [.ref h_K]) (rest := []) ⟨hx, hb, hml, hown, hts⟩ (c_Y_clear l dC dI h_K k_K s.heap.size K_f q_4 hC_4) (cwS 1 hts g_Y_116_Y_clear rfl rfl rfl (by decide +kernel) ⟨Nat.le_of_ble_eq_true rfl, Nat.le_of_ble_eq_true rfl⟩) ⟨fun a U g mk q => by obtain ⟨q0, q1, qP, qK, qD⟩ := q; exact ⟨q0, q1, qP, va_K.moved (u := U) (U := U.calling g mk a) (Vm.Alike.refl U.vm) qK, qD⟩, fun U hU hW => ⟨rfl, by rw [hU], by rw [hU]; exact hPc, va_K.moved hW.alike hKc, hDc.weaken (fun _ _ _ _ => trivial)⟩⟩ rfl rfl hl.1 rfl (lv_room (Nat.le_of_ble_eq_true rfl)) d_Y_cube_4 ⟨Nat.zero_le _, Nat.zero_le _⟩) hS (fun q _ h => hFc q h) hFc (fun u t H1 locs ht hvm hw hB hz1 hk1 hS => ?_)
  obtain ⟨hP1, hK1, hD1⟩ := hB
  rw [ht] at hP1
  obtain ⟨hP, hD⟩ := va_join (wr := [cY h_Y h_O h_N h_B h_G h_K Y_lo Y_ie Y_ra Y_to Y_te Y_re, cI h_G k_G 30 G_f]) (w1 := [cI h_K k_K 30 q_4]) hP hD [2] [0, 1] rfl rfl (by decide) (by decide) hk1 hFc hP1 hD1
  generalize H1 = H at hP hS ⊢
  have hP := hP.sub (ws' := [cY h_Y h_O h_N h_B h_G h_K Y_lo Y_ie Y_ra Y_to Y_te Y_re, cI h_G k_G 30 G_f, cI h_K k_K 30 q_4]) [0, 1, 2] rfl
  have hD := hD.sub (ws' := [cY h_Y h_O h_N h_B h_G h_K Y_lo Y_ie Y_ra Y_to Y_te Y_re, cI h_G k_G 30 G_f, cI h_K k_K 30 q_4]) [0, 1, 2] (by decide) rfl
  refine lv_aload_n hx hb d_Y_cube_7 rfl (lv_at hl 0 rfl) ?_
  refine va_get (D := (dC, dI)) (ci := 2) (v := .ref h_K) (C := "RoundedNumbersModel") (T := F_Y) (N := 11) hx hb hts in_Y hown hK hP 0 rfl rfl 7 (by decide) (hts _ tw_321) (fun _ h9 => h9) rfl d_Y_cube_8 ?_
  refine lv_lload_n hx hb d_Y_cube_11 rfl (lv_at hl 1 rfl) ?_
  refine lv_lload_n hx hb d_Y_cube_12 rfl (lv_at hl 1 rfl) ?_
  refine lv_iconst (v := (0 : Int32)) hx hb d_Y_cube_13 (by decide) ?_
  obtain ⟨q_14, hC_14, hF⟩ := hbd hF
  have hPc := hP.sub (ws' := [cI h_K k_K 30 q_4]) [2] rfl
  have hDc := hD.sub (ws' := [cI h_K k_K 30 q_4]) [2] (by decide) rfl
  have hKc := hK.sub (tys' := [(k_K, .int)]) [1] rfl
  have hFc := va_free (wc := [cI h_K k_K 30 q_4]) hD hS hA [2] rfl
  refine va_callv (va_runS (As := [.ref h_K, .long a1, .long a1, .int (0 : Int32)]) (rest := []) ⟨hx, hb, hml, hown, hts⟩ (c_Y_addProduct l dC dI h_K k_K H.size q_4 a1 a1 (0 : Int32) q_14 hC_14) (cwS 4 hts g_Y_132_Y_addProduct rfl rfl rfl (by decide +kernel) ⟨Nat.le_of_ble_eq_true rfl, Nat.le_of_ble_eq_true rfl⟩) ⟨fun a U g mk q => by obtain ⟨q0, q1, qP, qK, qD⟩ := q; exact ⟨q0, q1, qP, va_K.moved (u := U) (U := U.calling g mk a) (Vm.Alike.refl U.vm) qK, qD⟩, fun U hU hW => ⟨rfl, by rw [hU], by rw [hU]; exact hPc, va_K.moved hW.alike hKc, hDc.weaken (fun _ _ _ _ => trivial)⟩⟩ rfl rfl hl.1 rfl (lv_room (Nat.le_of_ble_eq_true rfl)) d_Y_cube_14 ⟨Nat.zero_le _, Nat.zero_le _⟩) hS (fun q _ h => hFc q h) hFc (fun u t H1 locs ht hvm hw hB hz1 hk1 hS => ?_)
  obtain ⟨hP1, hK1, hD1⟩ := hB
  rw [ht] at hP1
  obtain ⟨hP, hD⟩ := va_join (wr := [cY h_Y h_O h_N h_B h_G h_K Y_lo Y_ie Y_ra Y_to Y_te Y_re, cI h_G k_G 30 G_f]) (w1 := [cI h_K k_K 30 q_14]) hP hD [2] [0, 1] rfl rfl (by decide) (by decide) hk1 hFc hP1 hD1
  generalize H1 = H at hP hS ⊢
  have hP := hP.sub (ws' := [cY h_Y h_O h_N h_B h_G h_K Y_lo Y_ie Y_ra Y_to Y_te Y_re, cI h_G k_G 30 G_f, cI h_K k_K 30 q_14]) [0, 1, 2] rfl
  have hD := hD.sub (ws' := [cY h_Y h_O h_N h_B h_G h_K Y_lo Y_ie Y_ra Y_to Y_te Y_re, cI h_G k_G 30 G_f, cI h_K k_K 30 q_14]) [0, 1, 2] (by decide) rfl
  refine lv_aload_n hx hb d_Y_cube_17 rfl (lv_at hl 0 rfl) ?_
  refine va_get (D := (dC, dI)) (ci := 2) (v := .ref h_G) (C := "RoundedNumbersModel") (T := F_Y) (N := 11) hx hb hts in_Y hown hK hP 0 rfl rfl 6 (by decide) (hts _ tw_320) (fun _ h9 => h9) rfl d_Y_cube_18 ?_
  obtain ⟨q_21, hC_21, hF⟩ := hbd hF
  have hPc := hP.sub (ws' := [cI h_G k_G 30 G_f]) [1] rfl
  have hDc := hD.sub (ws' := [cI h_G k_G 30 G_f]) [1] (by decide) rfl
  have hKc := hK.sub (tys' := [(k_G, .int)]) [0] rfl
  have hFc := va_free (wc := [cI h_G k_G 30 G_f]) hD hS hA [1] rfl
  refine va_callv (va_runS (As := [.ref h_G]) (rest := []) ⟨hx, hb, hml, hown, hts⟩ (c_Y_clear l dC dI h_G k_G H.size G_f q_21 hC_21) (cwS 1 hts g_Y_116_Y_clear rfl rfl rfl (by decide +kernel) ⟨Nat.le_of_ble_eq_true rfl, Nat.le_of_ble_eq_true rfl⟩) ⟨fun a U g mk q => by obtain ⟨q0, q1, qP, qK, qD⟩ := q; exact ⟨q0, q1, qP, va_K.moved (u := U) (U := U.calling g mk a) (Vm.Alike.refl U.vm) qK, qD⟩, fun U hU hW => ⟨rfl, by rw [hU], by rw [hU]; exact hPc, va_K.moved hW.alike hKc, hDc.weaken (fun _ _ _ _ => trivial)⟩⟩ rfl rfl hl.1 rfl (lv_room (Nat.le_of_ble_eq_true rfl)) d_Y_cube_21 ⟨Nat.zero_le _, Nat.zero_le _⟩) hS (fun q _ h => hFc q h) hFc (fun u t H1 locs ht hvm hw hB hz1 hk1 hS => ?_)
  obtain ⟨hP1, hK1, hD1⟩ := hB
  rw [ht] at hP1
  obtain ⟨hP, hD⟩ := va_join (wr := [cY h_Y h_O h_N h_B h_G h_K Y_lo Y_ie Y_ra Y_to Y_te Y_re, cI h_K k_K 30 q_14]) (w1 := [cI h_G k_G 30 q_21]) hP hD [1] [0, 2] rfl rfl (by decide) (by decide) hk1 hFc hP1 hD1
  generalize H1 = H at hP hS ⊢
  have hP := hP.sub (ws' := [cY h_Y h_O h_N h_B h_G h_K Y_lo Y_ie Y_ra Y_to Y_te Y_re, cI h_G k_G 30 q_21, cI h_K k_K 30 q_14]) [0, 2, 1] rfl
  have hD := hD.sub (ws' := [cY h_Y h_O h_N h_B h_G h_K Y_lo Y_ie Y_ra Y_to Y_te Y_re, cI h_G k_G 30 q_21, cI h_K k_K 30 q_14]) [0, 2, 1] (by decide) rfl
  refine lv_iconst (v := (0 : Int32)) hx hb d_Y_cube_24 (by decide) ?_
  refine lv_istore (lv' := [(4, .int (0 : Int32)), (0, .ref h_Y), (1, .long a1), (3, .int a2)]) hx hb d_Y_cube_25 hl (by decide) rfl (fun ls hl => ?_)
  exact b_27 1000 a1 a2 (0 : Int32) q_21 q_14 Y_lo Y_ie Y_ra Y_to Y_te Y_re _ _ _ hP hD hS (lv_sub hl [1, 2, 3, 0] rfl) hF
set_option maxHeartbeats 4000000 in
set_option maxRecDepth 100000 in
theorem c_Y_cubeAgainst (l : Launch) (dC : Nat → ClassId) (dI : Nat → Nat → Nat) (h_Y : Nat) (h_O : Nat) (h_N : Nat) (h_B : Nat) (h_G : Nat) (h_K : Nat) (k_O : ClassId) (k_N : ClassId) (k_G : ClassId) (k_K : ClassId) (sz : Nat) (Y_lo : Int32) (Y_ie : Int32) (Y_ra : Int32) (Y_to : Int64) (Y_te : Int32) (Y_re : Int32) (O_f : Nat → Int64) (N_f : Nat → Int32) (G_f : Nat → Int32) (K_f : Nat → Int32) (a1 : Int64) (a2 : Int32) (a3 : Int32) (o : Int32 × (Nat → Int32) × (Nat → Int32)) (hF : f_Y_cubeAgainst O_f N_f G_f K_f a1 a2 a3 = some o) : Met l y_Y_cubeAgainst w_Y_cubeAgainst ({ frames := 4, cells := 0, slots := 0, locals := 108 } : Room) (va_Pc [.ref h_Y, .long a1, .int a2, .int a3] (fun U => U.heap.size = sz ∧ va_P (dC, dI) classes [cY h_Y h_O h_N h_B h_G h_K Y_lo Y_ie Y_ra Y_to Y_te Y_re, cL h_O k_O 8 O_f, cI h_N k_N 8 N_f, cI h_G k_G 30 G_f, cI h_K k_K 30 K_f] U.heap ∧ va_K (dC, dI) classes [(k_O, .long), (k_N, .int), (k_G, .int), (k_K, .int)] U ∧ va_D (fun _ => True) [cY h_Y h_O h_N h_B h_G h_K Y_lo Y_ie Y_ra Y_to Y_te Y_re, cL h_O k_O 8 O_f, cI h_N k_N 8 N_f, cI h_G k_G 30 G_f, cI h_K k_K 30 K_f])) (va_Qi (fun (r : Int32) (_ : Unit) => r = o.1) (fun (_ : Unit) (t : State) => va_P (dC, dI) classes [cY h_Y h_O h_N h_B h_G h_K Y_lo Y_ie Y_ra Y_to Y_te Y_re, cL h_O k_O 8 O_f, cI h_N k_N 8 N_f, cI h_G k_G 30 o.2.1, cI h_K k_K 30 o.2.2] t.heap ∧ va_K (dC, dI) classes [(k_O, .long), (k_N, .int), (k_G, .int), (k_K, .int)] t ∧ va_D (va_A [cY h_Y h_O h_N h_B h_G h_K Y_lo Y_ie Y_ra Y_to Y_te Y_re, cL h_O k_O 8 O_f, cI h_N k_N 8 N_f, cI h_G k_G 30 G_f, cI h_K k_K 30 K_f] sz) [cY h_Y h_O h_N h_B h_G h_K Y_lo Y_ie Y_ra Y_to Y_te Y_re, cL h_O k_O 8 O_f, cI h_N k_N 8 N_f, cI h_G k_G 30 o.2.1, cI h_K k_K 30 o.2.2]) (va_A [cY h_Y h_O h_N h_B h_G h_K Y_lo Y_ie Y_ra Y_to Y_te Y_re, cL h_O k_O 8 O_f, cI h_N k_N 8 N_f, cI h_G k_G 30 G_f, cI h_K k_K 30 K_f] sz)) 0 0 (va_A [cY h_Y h_O h_N h_B h_G h_K Y_lo Y_ie Y_ra Y_to Y_te Y_re, cL h_O k_O 8 O_f, cI h_N k_N 8 N_f, cI h_G k_G 30 G_f, cI h_K k_K 30 K_f] sz) := by
  refine Met.ofW (cc := prog_4_method_37_code) (maxL := 8) (ret := (some .int)) (by decide) rfl ?_
  intro p e s m args below meth c s₁ B hml hv
  obtain ⟨rfl, hsz, hP, hK, hD0⟩ := hv
  have hx := B.exec
  have hb := B.bytes
  have hr := B.returns
  have hts0 := atoms_spec (ws := w_Y_cubeAgainst) B.pre
  have hts : ∀ w ∈ tb, w.before _ s = true := fun w h => hts0 w (List.mem_cons_of_mem _ h)
  clear hts0
  have hown : s.vm.findClass "RoundedNumbersModel" = some m.cls := findClass_of_methodNamed B.named
  have hlocks := B.notSynchronized
  subst hsz
  have hD := hD0.self (sz := s.heap.size)
  generalize hAe : va_A [cY h_Y h_O h_N h_B h_G h_K Y_lo Y_ie Y_ra Y_to Y_te Y_re, cL h_O k_O 8 O_f, cI h_N k_N 8 N_f, cI h_G k_G 30 G_f, cI h_K k_K 30 K_f] s.heap.size = A at hD ⊢
  have hA : ∀ q : Nat, s.heap.size ≤ q → A q := fun q h => by rw [← hAe]; exact Or.inr h
  clear hAe
  have hS : va_S A s.heap s.heap [] := va_S.rf
  have hP : va_P (dC, dI) classes [cY h_Y h_O h_N h_B h_G h_K Y_lo Y_ie Y_ra Y_to Y_te Y_re, cL h_O k_O 8 O_f, cI h_N k_N 8 N_f, cI h_G k_G 30 G_f, cI h_K k_K 30 K_f] s.heap := hP
  have hl := lv_entry ([.ref h_Y, .long a1, .int a2, .int a3]) (n := 8) (Nat.le_of_ble_eq_true rfl)
  rw [lg_entry_eq]
  generalize (lg_sl ([.ref h_Y, .long a1, .int a2, .int a3]) ++ List.replicate (8 - (lg_sl ([.ref h_Y, .long a1, .int a2, .int a3])).length) Slot.unset).toArray = ls at hl ⊢
  have hl : lv_has ls 8 [(0, .ref h_Y), (1, .long a1), (3, .int a2), (4, .int a3)] := hl
  have b_28 : ∀ (x1 : Int64) (x4 : Int32) (x5 : Int32) (x6 : Int32) (y0 : Int32) (O_f : Nat → Int64) (N_f : Nat → Int32) (G_f : Nat → Int32) (K_f : Nat → Int32) (Y_lo : Int32) (Y_ie : Int32) (Y_ra : Int32) (Y_to : Int64) (Y_te : Int32) (Y_re : Int32) (H : Heap) (locs : List Loc) (ls : Array Slot), va_P (dC, dI) classes [cY h_Y h_O h_N h_B h_G h_K Y_lo Y_ie Y_ra Y_to Y_te Y_re, cL h_O k_O 8 O_f, cI h_N k_N 8 N_f, cI h_G k_G 30 G_f, cI h_K k_K 30 K_f] H → va_D A [cY h_Y h_O h_N h_B h_G h_K Y_lo Y_ie Y_ra Y_to Y_te Y_re, cL h_O k_O 8 O_f, cI h_N k_N 8 N_f, cI h_G k_G 30 G_f, cI h_K k_K 30 K_f] → va_S A s.heap H locs → lv_has ls 8 [(0, .ref h_Y), (1, .long x1), (4, .int x4), (5, .int x5), (6, .int x6)] → f_Y_cubeAgainst_28  x1 x4 x5 x6 y0 O_f N_f G_f K_f = some o → W p l e (headSpec w_Y_cubeAgainst ({ frames := 4, cells := 0, slots := 0, locals := 108 } : Room)).room s m ([.ref h_Y, .long a1, .int a2, .int a3] : List Value).toArray below meth c H locs 0 0 (MQ below (va_Qi (fun (r : Int32) (_ : Unit) => r = o.1) (fun (_ : Unit) (t : State) => va_P (dC, dI) classes [cY h_Y h_O h_N h_B h_G h_K Y_lo Y_ie Y_ra Y_to Y_te Y_re, cL h_O k_O 8 O_f, cI h_N k_N 8 N_f, cI h_G k_G 30 o.2.1, cI h_K k_K 30 o.2.2] t.heap ∧ va_K (dC, dI) classes [(k_O, .long), (k_N, .int), (k_G, .int), (k_K, .int)] t ∧ va_D A [cY h_Y h_O h_N h_B h_G h_K Y_lo Y_ie Y_ra Y_to Y_te Y_re, cL h_O k_O 8 O_f, cI h_N k_N 8 N_f, cI h_G k_G 30 o.2.1, cI h_K k_K 30 o.2.2]) A) ([.ref h_Y, .long a1, .int a2, .int a3] : List Value).toArray s 0 0 A) (F0 m 28 ls [.int y0]) := by
    intro x1 x4 x5 x6 y0 O_f N_f G_f K_f Y_lo Y_ie Y_ra Y_to Y_te Y_re H locs ls hP hD hS hl hF
    unfold f_Y_cubeAgainst_28 at hF
    refine lv_istore (lv' := [(7, .int y0), (0, .ref h_Y), (1, .long x1), (4, .int x4), (5, .int x5), (6, .int x6)]) hx hb d_Y_cubeAgainst_28 hl (by decide) rfl (fun ls hl => ?_)
    refine lv_aload_n hx hb d_Y_cubeAgainst_30 rfl (lv_at hl 1 rfl) ?_
    refine lv_lload_n hx hb d_Y_cubeAgainst_31 rfl (lv_at hl 2 rfl) ?_
    refine lv_iload hx hb d_Y_cubeAgainst_32 (lv_at hl 4 rfl) ?_
    refine lv_iload hx hb d_Y_cubeAgainst_34 (lv_at hl 0 rfl) ?_
    refine lv_isub hx hb d_Y_cubeAgainst_36 ?_
    obtain ⟨q_37, hC_37, hF⟩ := hbd hF
    have hPc := hP.sub (ws' := [cY h_Y h_O h_N h_B h_G h_K Y_lo Y_ie Y_ra Y_to Y_te Y_re, cI h_G k_G 30 G_f, cI h_K k_K 30 K_f]) [0, 3, 4] rfl
    have hDc := hD.sub (ws' := [cY h_Y h_O h_N h_B h_G h_K Y_lo Y_ie Y_ra Y_to Y_te Y_re, cI h_G k_G 30 G_f, cI h_K k_K 30 K_f]) [0, 3, 4] (by decide) rfl
    have hKc := hK.sub (tys' := [(k_G, .int), (k_K, .int)]) [2, 3] rfl
    have hFc := va_free (wc := [cY h_Y h_O h_N h_B h_G h_K Y_lo Y_ie Y_ra Y_to Y_te Y_re, cI h_G k_G 30 G_f, cI h_K k_K 30 K_f]) hD hS hA [0, 3, 4] rfl
    refine va_callv (va_runV (As := [.long x1, .int (x5 - y0)]) (rest := []) ⟨hx, hb, hml, hown, hts⟩ (c_Y_cube l dC dI h_Y h_O h_N h_B h_G h_K k_G k_K H.size Y_lo Y_ie Y_ra Y_to Y_te Y_re G_f K_f x1 (x5 - y0) q_37 hC_37) (cwV 2 hts g_Y_152_Y_cube rfl rfl rfl (by decide +kernel) ⟨Nat.le_of_ble_eq_true rfl, Nat.le_of_ble_eq_true rfl⟩) ⟨fun a U g mk q => by obtain ⟨q0, q1, qP, qK, qD⟩ := q; exact ⟨q0, q1, qP, va_K.moved (u := U) (U := U.calling g mk a) (Vm.Alike.refl U.vm) qK, qD⟩, va_recv hKc hPc (ci := 2) (q0 := 0) rfl rfl, fun U hU hW => ⟨rfl, by rw [hU], by rw [hU]; exact hPc, va_K.moved hW.alike hKc, hDc.weaken (fun _ _ _ _ => trivial)⟩⟩ rfl rfl hl.1 rfl (lv_room (Nat.le_of_ble_eq_true rfl)) d_Y_cubeAgainst_37 ⟨Nat.zero_le _, Nat.zero_le _⟩) hS (fun q _ h => hFc q h) hFc (fun u t H1 locs ht hvm hw hB hz1 hk1 hS => ?_)
    obtain ⟨hP1, hK1, hD1⟩ := hB
    rw [ht] at hP1
    obtain ⟨hP, hD⟩ := va_join (wr := [cL h_O k_O 8 O_f, cI h_N k_N 8 N_f]) (w1 := [cY h_Y h_O h_N h_B h_G h_K Y_lo Y_ie Y_ra Y_to Y_te Y_re, cI h_G k_G 30 q_37.1, cI h_K k_K 30 q_37.2]) hP hD [0, 3, 4] [1, 2] rfl rfl (by decide) (by decide) hk1 hFc hP1 hD1
    generalize H1 = H at hP hS ⊢
    have hP := hP.sub (ws' := [cY h_Y h_O h_N h_B h_G h_K Y_lo Y_ie Y_ra Y_to Y_te Y_re, cL h_O k_O 8 O_f, cI h_N k_N 8 N_f, cI h_G k_G 30 q_37.1, cI h_K k_K 30 q_37.2]) [2, 0, 1, 3, 4] rfl
    have hD := hD.sub (ws' := [cY h_Y h_O h_N h_B h_G h_K Y_lo Y_ie Y_ra Y_to Y_te Y_re, cL h_O k_O 8 O_f, cI h_N k_N 8 N_f, cI h_G k_G 30 q_37.1, cI h_K k_K 30 q_37.2]) [2, 0, 1, 3, 4] (by decide) rfl
    refine lv_aload_n hx hb d_Y_cubeAgainst_40 rfl (lv_at hl 1 rfl) ?_
    refine va_get (D := (dC, dI)) (ci := 2) (v := .ref h_K) (C := "RoundedNumbersModel") (T := F_Y) (N := 11) hx hb hts in_Y hown hK hP 0 rfl rfl 7 (by decide) (hts _ tw_321) (fun _ h9 => h9) rfl d_Y_cubeAgainst_41 ?_
    obtain ⟨q_44, hC_44, hF⟩ := hbd hF
    have hPc := hP.sub (ws' := [cI h_K k_K 30 q_37.2]) [4] rfl
    have hDc := hD.sub (ws' := [cI h_K k_K 30 q_37.2]) [4] (by decide) rfl
    have hKc := hK.sub (tys' := [(k_K, .int)]) [3] rfl
    have hFc := va_free (wc := [cI h_K k_K 30 q_37.2]) hD hS hA [4] rfl
    refine va_callv (va_runS (As := [.ref h_K]) (rest := []) ⟨hx, hb, hml, hown, hts⟩ (c_Y_clear l dC dI h_K k_K H.size q_37.2 q_44 hC_44) (cwS 1 hts g_Y_116_Y_clear rfl rfl rfl (by decide +kernel) ⟨Nat.le_of_ble_eq_true rfl, Nat.le_of_ble_eq_true rfl⟩) ⟨fun a U g mk q => by obtain ⟨q0, q1, qP, qK, qD⟩ := q; exact ⟨q0, q1, qP, va_K.moved (u := U) (U := U.calling g mk a) (Vm.Alike.refl U.vm) qK, qD⟩, fun U hU hW => ⟨rfl, by rw [hU], by rw [hU]; exact hPc, va_K.moved hW.alike hKc, hDc.weaken (fun _ _ _ _ => trivial)⟩⟩ rfl rfl hl.1 rfl (lv_room (Nat.le_of_ble_eq_true rfl)) d_Y_cubeAgainst_44 ⟨Nat.zero_le _, Nat.zero_le _⟩) hS (fun q _ h => hFc q h) hFc (fun u t H1 locs ht hvm hw hB hz1 hk1 hS => ?_)
    obtain ⟨hP1, hK1, hD1⟩ := hB
    rw [ht] at hP1
    obtain ⟨hP, hD⟩ := va_join (wr := [cY h_Y h_O h_N h_B h_G h_K Y_lo Y_ie Y_ra Y_to Y_te Y_re, cL h_O k_O 8 O_f, cI h_N k_N 8 N_f, cI h_G k_G 30 q_37.1]) (w1 := [cI h_K k_K 30 q_44]) hP hD [4] [0, 1, 2, 3] rfl rfl (by decide) (by decide) hk1 hFc hP1 hD1
    generalize H1 = H at hP hS ⊢
    have hP := hP.sub (ws' := [cY h_Y h_O h_N h_B h_G h_K Y_lo Y_ie Y_ra Y_to Y_te Y_re, cL h_O k_O 8 O_f, cI h_N k_N 8 N_f, cI h_G k_G 30 q_37.1, cI h_K k_K 30 q_44]) [0, 1, 2, 3, 4] rfl
    have hD := hD.sub (ws' := [cY h_Y h_O h_N h_B h_G h_K Y_lo Y_ie Y_ra Y_to Y_te Y_re, cL h_O k_O 8 O_f, cI h_N k_N 8 N_f, cI h_G k_G 30 q_37.1, cI h_K k_K 30 q_44]) [0, 1, 2, 3, 4] (by decide) rfl
    refine lv_aload_n hx hb d_Y_cubeAgainst_47 rfl (lv_at hl 1 rfl) ?_
    refine va_get (D := (dC, dI)) (ci := 2) (v := .ref h_K) (C := "RoundedNumbersModel") (T := F_Y) (N := 11) hx hb hts in_Y hown hK hP 0 rfl rfl 7 (by decide) (hts _ tw_321) (fun _ h9 => h9) rfl d_Y_cubeAgainst_48 ?_
    refine lv_aload_n hx hb d_Y_cubeAgainst_51 rfl (lv_at hl 1 rfl) ?_
    refine va_get (D := (dC, dI)) (ci := 2) (v := .ref h_O) (C := "RoundedNumbersModel") (T := F_Y) (N := 11) hx hb hts in_Y hown hK hP 0 rfl rfl 0 (by decide) (hts _ tw_314) (fun _ h9 => h9) rfl d_Y_cubeAgainst_52 ?_
    refine lv_iload hx hb d_Y_cubeAgainst_55 (lv_at hl 3 rfl) ?_
    have c_57 : ¬ (x4 < 0 ∨ 8 ≤ x4.toNatClampNeg) := hif_n hF
    replace hF := hif_f c_57 hF
    refine va_lald hx hb hK hP 1 0 rfl rfl c_57 d_Y_cubeAgainst_57 ?_
    refine lv_iload hx hb d_Y_cubeAgainst_58 (lv_at hl 5 rfl) ?_
    refine lv_iload hx hb d_Y_cubeAgainst_60 (lv_at hl 0 rfl) ?_
    refine lv_isub hx hb d_Y_cubeAgainst_62 ?_
    obtain ⟨q_63, hC_63, hF⟩ := hbd hF
    have hPc := hP.sub (ws' := [cI h_K k_K 30 q_44]) [4] rfl
    have hDc := hD.sub (ws' := [cI h_K k_K 30 q_44]) [4] (by decide) rfl
    have hKc := hK.sub (tys' := [(k_K, .int)]) [3] rfl
    have hFc := va_free (wc := [cI h_K k_K 30 q_44]) hD hS hA [4] rfl
    refine va_callv (va_runS (As := [.ref h_K, .long (O_f x4.toNatClampNeg), .int (x6 - y0)]) (rest := []) ⟨hx, hb, hml, hown, hts⟩ (c_Y_addShifted l dC dI h_K k_K H.size q_44 (O_f x4.toNatClampNeg) (x6 - y0) q_63 hC_63) (cwS 3 hts g_Y_80_Y_addShifted rfl rfl rfl (by decide +kernel) ⟨Nat.le_of_ble_eq_true rfl, Nat.le_of_ble_eq_true rfl⟩) ⟨fun a U g mk q => by obtain ⟨q0, q1, qP, qK, qD⟩ := q; exact ⟨q0, q1, qP, va_K.moved (u := U) (U := U.calling g mk a) (Vm.Alike.refl U.vm) qK, qD⟩, fun U hU hW => ⟨rfl, by rw [hU], by rw [hU]; exact hPc, va_K.moved hW.alike hKc, hDc.weaken (fun _ _ _ _ => trivial)⟩⟩ rfl rfl hl.1 rfl (lv_room (Nat.le_of_ble_eq_true rfl)) d_Y_cubeAgainst_63 ⟨Nat.zero_le _, Nat.zero_le _⟩) hS (fun q _ h => hFc q h) hFc (fun u t H1 locs ht hvm hw hB hz1 hk1 hS => ?_)
    obtain ⟨hP1, hK1, hD1⟩ := hB
    rw [ht] at hP1
    obtain ⟨hP, hD⟩ := va_join (wr := [cY h_Y h_O h_N h_B h_G h_K Y_lo Y_ie Y_ra Y_to Y_te Y_re, cL h_O k_O 8 O_f, cI h_N k_N 8 N_f, cI h_G k_G 30 q_37.1]) (w1 := [cI h_K k_K 30 q_63]) hP hD [4] [0, 1, 2, 3] rfl rfl (by decide) (by decide) hk1 hFc hP1 hD1
    generalize H1 = H at hP hS ⊢
    have hP := hP.sub (ws' := [cY h_Y h_O h_N h_B h_G h_K Y_lo Y_ie Y_ra Y_to Y_te Y_re, cL h_O k_O 8 O_f, cI h_N k_N 8 N_f, cI h_G k_G 30 q_37.1, cI h_K k_K 30 q_63]) [0, 1, 2, 3, 4] rfl
    have hD := hD.sub (ws' := [cY h_Y h_O h_N h_B h_G h_K Y_lo Y_ie Y_ra Y_to Y_te Y_re, cL h_O k_O 8 O_f, cI h_N k_N 8 N_f, cI h_G k_G 30 q_37.1, cI h_K k_K 30 q_63]) [0, 1, 2, 3, 4] (by decide) rfl
    refine lv_aload_n hx hb d_Y_cubeAgainst_66 rfl (lv_at hl 1 rfl) ?_
    refine va_get (D := (dC, dI)) (ci := 2) (v := .ref h_G) (C := "RoundedNumbersModel") (T := F_Y) (N := 11) hx hb hts in_Y hown hK hP 0 rfl rfl 6 (by decide) (hts _ tw_320) (fun _ h9 => h9) rfl d_Y_cubeAgainst_67 ?_
    refine lv_aload_n hx hb d_Y_cubeAgainst_70 rfl (lv_at hl 1 rfl) ?_
    refine va_get (D := (dC, dI)) (ci := 2) (v := .ref h_K) (C := "RoundedNumbersModel") (T := F_Y) (N := 11) hx hb hts in_Y hown hK hP 0 rfl rfl 7 (by decide) (hts _ tw_321) (fun _ h9 => h9) rfl d_Y_cubeAgainst_71 ?_
    obtain ⟨q_74, hC_74, hF⟩ := hbd hF
    have hPc := hP.sub (ws' := [cI h_G k_G 30 q_37.1, cI h_K k_K 30 q_63]) [3, 4] rfl
    have hDc := hD.sub (ws' := [cI h_G k_G 30 q_37.1, cI h_K k_K 30 q_63]) [3, 4] (by decide) rfl
    have hKc := hK.sub (tys' := [(k_G, .int), (k_K, .int)]) [2, 3] rfl
    have hFc := va_free (wc := [cI h_G k_G 30 q_37.1, cI h_K k_K 30 q_63]) hD hS hA [3, 4] rfl
    refine va_calli (va_runS (As := [.ref h_G, .ref h_K]) (rest := []) ⟨hx, hb, hml, hown, hts⟩ (c_Y_compareBig l dC dI h_G h_K k_G k_K H.size q_37.1 q_63 q_74 hC_74) (cwS 2 hts g_Y_85_Y_compareBig rfl rfl rfl (by decide +kernel) ⟨Nat.le_of_ble_eq_true rfl, Nat.le_of_ble_eq_true rfl⟩) ⟨fun a U g mk q => by obtain ⟨q0, q1, qP, qK, qD⟩ := q; exact ⟨q0, q1, qP, va_K.moved (u := U) (U := U.calling g mk a) (Vm.Alike.refl U.vm) qK, qD⟩, fun U hU hW => ⟨rfl, by rw [hU], by rw [hU]; exact hPc, va_K.moved hW.alike hKc, hDc.weaken (fun _ _ _ _ => trivial)⟩⟩ rfl rfl hl.1 rfl (lv_room (Nat.le_of_ble_eq_true rfl)) d_Y_cubeAgainst_74 ⟨Nat.zero_le _, Nat.zero_le _⟩) hS (fun q _ h => hFc q h) hFc (fun r u t H1 locs ht hvm hw hB hz1 hk1 hS => ?_)
    obtain ⟨hP1, hK1, hD1⟩ := hB
    replace hw := hw.symm
    subst hw
    rw [ht] at hP1
    obtain ⟨hP, hD⟩ := va_join (wr := [cY h_Y h_O h_N h_B h_G h_K Y_lo Y_ie Y_ra Y_to Y_te Y_re, cL h_O k_O 8 O_f, cI h_N k_N 8 N_f]) (w1 := [cI h_G k_G 30 q_37.1, cI h_K k_K 30 q_63]) hP hD [3, 4] [0, 1, 2] rfl rfl (by decide) (by decide) hk1 hFc hP1 hD1
    generalize H1 = H at hP hS ⊢
    have hP := hP.sub (ws' := [cY h_Y h_O h_N h_B h_G h_K Y_lo Y_ie Y_ra Y_to Y_te Y_re, cL h_O k_O 8 O_f, cI h_N k_N 8 N_f, cI h_G k_G 30 q_37.1, cI h_K k_K 30 q_63]) [0, 1, 2, 3, 4] rfl
    have hD := hD.sub (ws' := [cY h_Y h_O h_N h_B h_G h_K Y_lo Y_ie Y_ra Y_to Y_te Y_re, cL h_O k_O 8 O_f, cI h_N k_N 8 N_f, cI h_G k_G 30 q_37.1, cI h_K k_K 30 q_63]) [0, 1, 2, 3, 4] (by decide) rfl
    obtain rfl := Option.some.inj hF
    exact W.iret (v := q_74) hx hb hr (fun t ht hW => ⟨⟨q_74, (), rfl, rfl, by rw [ht]; exact hP, va_K.moved hW.alike hK, hD⟩, hS.F ht⟩) hS.2.2 d_Y_cubeAgainst_77
  unfold f_Y_cubeAgainst at hF
  refine lv_iconst (v := (3 : Int32)) hx hb d_Y_cubeAgainst_0 (by decide) ?_
  refine lv_iload_n hx hb d_Y_cubeAgainst_1 rfl (lv_at hl 2 rfl) ?_
  refine lv_imul hx hb d_Y_cubeAgainst_2 ?_
  refine lv_istore (lv' := [(5, .int ((3 : Int32) * a2)), (0, .ref h_Y), (1, .long a1), (3, .int a2), (4, .int a3)]) hx hb d_Y_cubeAgainst_3 hl (by decide) rfl (fun ls hl => ?_)
  refine lv_aload_n hx hb d_Y_cubeAgainst_5 rfl (lv_at hl 1 rfl) ?_
  refine va_get (D := (dC, dI)) (ci := 2) (v := .ref h_N) (C := "RoundedNumbersModel") (T := F_Y) (N := 11) hx hb hts in_Y hown hK hP 0 rfl rfl 1 (by decide) (hts _ tw_315) (fun _ h9 => h9) rfl d_Y_cubeAgainst_6 ?_
  refine lv_iload hx hb d_Y_cubeAgainst_9 (lv_at hl 4 rfl) ?_
  have c_11 : ¬ (a3 < 0 ∨ 8 ≤ a3.toNatClampNeg) := hif_n hF
  replace hF := hif_f c_11 hF
  refine va_iald hx hb hK hP 2 1 rfl rfl c_11 d_Y_cubeAgainst_11 ?_
  refine lv_istore (lv' := [(6, .int (N_f a3.toNatClampNeg)), (5, .int ((3 : Int32) * a2)), (0, .ref h_Y), (1, .long a1), (3, .int a2), (4, .int a3)]) hx hb d_Y_cubeAgainst_12 hl (by decide) rfl (fun ls hl => ?_)
  refine lv_iload hx hb d_Y_cubeAgainst_14 (lv_at hl 1 rfl) ?_
  refine lv_iload hx hb d_Y_cubeAgainst_16 (lv_at hl 0 rfl) ?_
  refine lv_icmp_ge (tgt := 26) hx hb d_Y_cubeAgainst_18 (by decide) (fun c_18 => ?_) (fun c_18 => ?_)
  · replace hF := hif_t c_18 hF
    refine lv_iload hx hb d_Y_cubeAgainst_26 (lv_at hl 0 rfl) ?_
    exact b_28 a1 a3 ((3 : Int32) * a2) (N_f a3.toNatClampNeg) (N_f a3.toNatClampNeg) O_f N_f G_f K_f Y_lo Y_ie Y_ra Y_to Y_te Y_re _ _ _ hP hD hS (lv_sub hl [2, 3, 5, 1, 0] rfl) hF
  · replace hF := hif_f c_18 hF
    refine lv_iload hx hb d_Y_cubeAgainst_21 (lv_at hl 1 rfl) ?_
    refine lv_goto (tgt := 28) hx hb d_Y_cubeAgainst_23 (by decide) ?_
    exact b_28 a1 a3 ((3 : Int32) * a2) (N_f a3.toNatClampNeg) ((3 : Int32) * a2) O_f N_f G_f K_f Y_lo Y_ie Y_ra Y_to Y_te Y_re _ _ _ hP hD hS (lv_sub hl [2, 3, 5, 1, 0] rfl) hF
set_option maxHeartbeats 4000000 in
set_option maxRecDepth 100000 in
theorem c_Y_cubeRoot (l : Launch) (dC : Nat → ClassId) (dI : Nat → Nat → Nat) (h_Y : Nat) (h_O : Nat) (h_N : Nat) (h_B : Nat) (h_G : Nat) (h_K : Nat) (k_O : ClassId) (k_N : ClassId) (k_B : ClassId) (k_G : ClassId) (k_K : ClassId) (sz : Nat) (Y_lo : Int32) (Y_ie : Int32) (Y_ra : Int32) (Y_to : Int64) (Y_te : Int32) (Y_re : Int32) (O_f : Nat → Int64) (N_f : Nat → Int32) (B_f : Nat → Int32) (G_f : Nat → Int32) (K_f : Nat → Int32) (a1 : Int32) (a2 : Int32) (o : Int32 × (Nat → Int32) × (Nat → Int32)) (hF : f_Y_cubeRoot O_f N_f B_f G_f K_f a1 a2 = some o) : Met l y_Y_cubeRoot w_Y_cubeRoot ({ frames := 5, cells := 0, slots := 0, locals := 135 } : Room) (va_Pc [.ref h_Y, .int a1, .int a2] (fun U => U.heap.size = sz ∧ va_P (dC, dI) classes [cY h_Y h_O h_N h_B h_G h_K Y_lo Y_ie Y_ra Y_to Y_te Y_re, cL h_O k_O 8 O_f, cI h_N k_N 8 N_f, cI h_B k_B 8 B_f, cI h_G k_G 30 G_f, cI h_K k_K 30 K_f] U.heap ∧ va_K (dC, dI) classes [(k_O, .long), (k_N, .int), (k_B, .boolean), (k_G, .int), (k_K, .int)] U ∧ va_D (fun _ => True) [cY h_Y h_O h_N h_B h_G h_K Y_lo Y_ie Y_ra Y_to Y_te Y_re, cL h_O k_O 8 O_f, cI h_N k_N 8 N_f, cI h_B k_B 8 B_f, cI h_G k_G 30 G_f, cI h_K k_K 30 K_f])) (va_Qi (fun (r : Int32) (_ : Unit) => r = o.1) (fun (_ : Unit) (t : State) => va_P (dC, dI) classes [cY h_Y h_O h_N h_B h_G h_K Y_lo Y_ie Y_ra Y_to Y_te Y_re, cL h_O k_O 8 O_f, cI h_N k_N 8 N_f, cI h_B k_B 8 B_f, cI h_G k_G 30 o.2.1, cI h_K k_K 30 o.2.2] t.heap ∧ va_K (dC, dI) classes [(k_O, .long), (k_N, .int), (k_B, .boolean), (k_G, .int), (k_K, .int)] t ∧ va_D (va_A [cY h_Y h_O h_N h_B h_G h_K Y_lo Y_ie Y_ra Y_to Y_te Y_re, cL h_O k_O 8 O_f, cI h_N k_N 8 N_f, cI h_B k_B 8 B_f, cI h_G k_G 30 G_f, cI h_K k_K 30 K_f] sz) [cY h_Y h_O h_N h_B h_G h_K Y_lo Y_ie Y_ra Y_to Y_te Y_re, cL h_O k_O 8 O_f, cI h_N k_N 8 N_f, cI h_B k_B 8 B_f, cI h_G k_G 30 o.2.1, cI h_K k_K 30 o.2.2]) (va_A [cY h_Y h_O h_N h_B h_G h_K Y_lo Y_ie Y_ra Y_to Y_te Y_re, cL h_O k_O 8 O_f, cI h_N k_N 8 N_f, cI h_B k_B 8 B_f, cI h_G k_G 30 G_f, cI h_K k_K 30 K_f] sz)) 0 0 (va_A [cY h_Y h_O h_N h_B h_G h_K Y_lo Y_ie Y_ra Y_to Y_te Y_re, cL h_O k_O 8 O_f, cI h_N k_N 8 N_f, cI h_B k_B 8 B_f, cI h_G k_G 30 G_f, cI h_K k_K 30 K_f] sz) := by
  refine Met.ofW (cc := prog_4_method_38_code) (maxL := 6) (ret := (some .int)) (by decide) rfl ?_
  intro p e s m args below meth c s₁ B hml hv
  obtain ⟨rfl, hsz, hP, hK, hD0⟩ := hv
  have hx := B.exec
  have hb := B.bytes
  have hr := B.returns
  have hts0 := atoms_spec (ws := w_Y_cubeRoot) B.pre
  have hts : ∀ w ∈ tb, w.before _ s = true := fun w h => hts0 w (List.mem_cons_of_mem _ h)
  clear hts0
  have hown : s.vm.findClass "RoundedNumbersModel" = some m.cls := findClass_of_methodNamed B.named
  have hlocks := B.notSynchronized
  subst hsz
  have hD := hD0.self (sz := s.heap.size)
  generalize hAe : va_A [cY h_Y h_O h_N h_B h_G h_K Y_lo Y_ie Y_ra Y_to Y_te Y_re, cL h_O k_O 8 O_f, cI h_N k_N 8 N_f, cI h_B k_B 8 B_f, cI h_G k_G 30 G_f, cI h_K k_K 30 K_f] s.heap.size = A at hD ⊢
  have hA : ∀ q : Nat, s.heap.size ≤ q → A q := fun q h => by rw [← hAe]; exact Or.inr h
  clear hAe
  have hS : va_S A s.heap s.heap [] := va_S.rf
  have hP : va_P (dC, dI) classes [cY h_Y h_O h_N h_B h_G h_K Y_lo Y_ie Y_ra Y_to Y_te Y_re, cL h_O k_O 8 O_f, cI h_N k_N 8 N_f, cI h_B k_B 8 B_f, cI h_G k_G 30 G_f, cI h_K k_K 30 K_f] s.heap := hP
  have hl := lv_entry ([.ref h_Y, .int a1, .int a2]) (n := 6) (Nat.le_of_ble_eq_true rfl)
  rw [lg_entry_eq]
  generalize (lg_sl ([.ref h_Y, .int a1, .int a2]) ++ List.replicate (6 - (lg_sl ([.ref h_Y, .int a1, .int a2])).length) Slot.unset).toArray = ls at hl ⊢
  have hl : lv_has ls 6 [(0, .ref h_Y), (1, .int a1), (2, .int a2)] := hl
  have b_87 : ∀ n_ : Nat, ∀ (x1 : Int32) (x3 : Int64) (x5 : Int32) (O_f : Nat → Int64) (N_f : Nat → Int32) (B_f : Nat → Int32) (G_f : Nat → Int32) (K_f : Nat → Int32) (Y_lo : Int32) (Y_ie : Int32) (Y_ra : Int32) (Y_to : Int64) (Y_te : Int32) (Y_re : Int32) (H : Heap) (locs : List Loc) (ls : Array Slot), va_P (dC, dI) classes [cY h_Y h_O h_N h_B h_G h_K Y_lo Y_ie Y_ra Y_to Y_te Y_re, cL h_O k_O 8 O_f, cI h_N k_N 8 N_f, cI h_B k_B 8 B_f, cI h_G k_G 30 G_f, cI h_K k_K 30 K_f] H → va_D A [cY h_Y h_O h_N h_B h_G h_K Y_lo Y_ie Y_ra Y_to Y_te Y_re, cL h_O k_O 8 O_f, cI h_N k_N 8 N_f, cI h_B k_B 8 B_f, cI h_G k_G 30 G_f, cI h_K k_K 30 K_f] → va_S A s.heap H locs → lv_has ls 6 [(0, .ref h_Y), (1, .int x1), (3, .long x3), (5, .int x5)] → f_Y_cubeRoot_87 n_ x1 x3 x5 O_f N_f B_f G_f K_f = some o → W p l e (headSpec w_Y_cubeRoot ({ frames := 5, cells := 0, slots := 0, locals := 135 } : Room)).room s m ([.ref h_Y, .int a1, .int a2] : List Value).toArray below meth c H locs 0 0 (MQ below (va_Qi (fun (r : Int32) (_ : Unit) => r = o.1) (fun (_ : Unit) (t : State) => va_P (dC, dI) classes [cY h_Y h_O h_N h_B h_G h_K Y_lo Y_ie Y_ra Y_to Y_te Y_re, cL h_O k_O 8 O_f, cI h_N k_N 8 N_f, cI h_B k_B 8 B_f, cI h_G k_G 30 o.2.1, cI h_K k_K 30 o.2.2] t.heap ∧ va_K (dC, dI) classes [(k_O, .long), (k_N, .int), (k_B, .boolean), (k_G, .int), (k_K, .int)] t ∧ va_D A [cY h_Y h_O h_N h_B h_G h_K Y_lo Y_ie Y_ra Y_to Y_te Y_re, cL h_O k_O 8 O_f, cI h_N k_N 8 N_f, cI h_B k_B 8 B_f, cI h_G k_G 30 o.2.1, cI h_K k_K 30 o.2.2]) A) ([.ref h_Y, .int a1, .int a2] : List Value).toArray s 0 0 A) (F0 m 87 ls []) := by
    intro n_
    induction n_ with
    | zero =>
      intro x1 x3 x5 O_f N_f B_f G_f K_f Y_lo Y_ie Y_ra Y_to Y_te Y_re H locs ls hP hD hS hl hF
      rw [f_Y_cubeRoot_87] at hF
      exact absurd hF (by simp)
    | succ n_ ih =>
      obtain ⟨k_87, ek_87⟩ : ∃ k, k = f_Y_cubeRoot_87 n_ := ⟨_, rfl⟩
      rw [← ek_87] at ih
      have hk_87 := ih
      intro x1 x3 x5 O_f N_f B_f G_f K_f Y_lo Y_ie Y_ra Y_to Y_te Y_re H locs ls hP hD hS hl hF
      rw [f_Y_cubeRoot_87, ← ek_87] at hF
      refine lv_lload_n hx hb d_Y_cubeRoot_87 rfl (lv_at hl 2 rfl) ?_
      obtain ⟨q_88, hC_88, hF⟩ := hbd hF
      have hPc := hP.sub (ws' := []) [] rfl
      have hDc := hD.sub (ws' := []) [] (by decide) rfl
      have hKc := hK.sub (tys' := []) [] rfl
      have hFc := va_free (wc := []) hD hS hA [] rfl
      refine va_calli (va_runS (As := [.long x3]) (rest := []) ⟨hx, hb, hml, hown, hts⟩ (c_Y_bits l dC dI H.size x3 q_88 hC_88) (cwS 1 hts g_Y_29_Y_bits rfl rfl rfl (by decide +kernel) ⟨Nat.le_of_ble_eq_true rfl, Nat.le_of_ble_eq_true rfl⟩) ⟨fun a U g mk q => by obtain ⟨q0, q1, qP, qK, qD⟩ := q; exact ⟨q0, q1, qP, va_K.moved (u := U) (U := U.calling g mk a) (Vm.Alike.refl U.vm) qK, qD⟩, fun U hU hW => ⟨rfl, by rw [hU], by rw [hU]; exact hPc, va_K.moved hW.alike hKc, hDc.weaken (fun _ _ _ _ => trivial)⟩⟩ rfl rfl hl.1 rfl (lv_room (Nat.le_of_ble_eq_true rfl)) d_Y_cubeRoot_88 ⟨Nat.zero_le _, Nat.zero_le _⟩) hS (fun q _ h => hFc q h) hFc (fun r u t H1 locs ht hvm hw hB hz1 hk1 hS => ?_)
      obtain ⟨hP1, hK1, hD1⟩ := hB
      replace hw := hw.symm
      subst hw
      rw [ht] at hP1
      obtain ⟨hP, hD⟩ := va_join (wr := [cY h_Y h_O h_N h_B h_G h_K Y_lo Y_ie Y_ra Y_to Y_te Y_re, cL h_O k_O 8 O_f, cI h_N k_N 8 N_f, cI h_B k_B 8 B_f, cI h_G k_G 30 G_f, cI h_K k_K 30 K_f]) (w1 := []) hP hD [] [0, 1, 2, 3, 4, 5] rfl rfl (by decide) (by decide) hk1 hFc hP1 hD1
      generalize H1 = H at hP hS ⊢
      have hP := hP.sub (ws' := [cY h_Y h_O h_N h_B h_G h_K Y_lo Y_ie Y_ra Y_to Y_te Y_re, cL h_O k_O 8 O_f, cI h_N k_N 8 N_f, cI h_B k_B 8 B_f, cI h_G k_G 30 G_f, cI h_K k_K 30 K_f]) [0, 1, 2, 3, 4, 5] rfl
      have hD := hD.sub (ws' := [cY h_Y h_O h_N h_B h_G h_K Y_lo Y_ie Y_ra Y_to Y_te Y_re, cL h_O k_O 8 O_f, cI h_N k_N 8 N_f, cI h_B k_B 8 B_f, cI h_G k_G 30 G_f, cI h_K k_K 30 K_f]) [0, 1, 2, 3, 4, 5] (by decide) rfl
      refine lv_bipush (v := (53 : Int32)) hx hb d_Y_cubeRoot_91 (by decide) ?_
      refine lv_icmp_ge (tgt := 108) hx hb d_Y_cubeRoot_93 (by decide) (fun c_93 => ?_) (fun c_93 => ?_)
      · replace hF := hif_t c_93 hF
        refine lv_aload_n hx hb d_Y_cubeRoot_108 rfl (lv_at hl 0 rfl) ?_
        refine lv_lload_n hx hb d_Y_cubeRoot_109 rfl (lv_at hl 2 rfl) ?_
        refine lv_lconst (v := (1 : Int64)) hx hb d_Y_cubeRoot_110 (by decide) ?_
        refine lv_lsub hx hb d_Y_cubeRoot_111 ?_
        refine lv_iload hx hb d_Y_cubeRoot_112 (lv_at hl 3 rfl) ?_
        refine lv_iload_n hx hb d_Y_cubeRoot_114 rfl (lv_at hl 1 rfl) ?_
        obtain ⟨q_115, hC_115, hF⟩ := hbd hF
        have hPc := hP.sub (ws' := [cY h_Y h_O h_N h_B h_G h_K Y_lo Y_ie Y_ra Y_to Y_te Y_re, cL h_O k_O 8 O_f, cI h_N k_N 8 N_f, cI h_G k_G 30 G_f, cI h_K k_K 30 K_f]) [0, 1, 2, 4, 5] rfl
        have hDc := hD.sub (ws' := [cY h_Y h_O h_N h_B h_G h_K Y_lo Y_ie Y_ra Y_to Y_te Y_re, cL h_O k_O 8 O_f, cI h_N k_N 8 N_f, cI h_G k_G 30 G_f, cI h_K k_K 30 K_f]) [0, 1, 2, 4, 5] (by decide) rfl
        have hKc := hK.sub (tys' := [(k_O, .long), (k_N, .int), (k_G, .int), (k_K, .int)]) [0, 1, 3, 4] rfl
        have hFc := va_free (wc := [cY h_Y h_O h_N h_B h_G h_K Y_lo Y_ie Y_ra Y_to Y_te Y_re, cL h_O k_O 8 O_f, cI h_N k_N 8 N_f, cI h_G k_G 30 G_f, cI h_K k_K 30 K_f]) hD hS hA [0, 1, 2, 4, 5] rfl
        refine va_calli (va_runV (As := [.long (x3 - (1 : Int64)), .int x5, .int x1]) (rest := []) ⟨hx, hb, hml, hown, hts⟩ (c_Y_cubeAgainst l dC dI h_Y h_O h_N h_B h_G h_K k_O k_N k_G k_K H.size Y_lo Y_ie Y_ra Y_to Y_te Y_re O_f N_f G_f K_f (x3 - (1 : Int64)) x5 x1 q_115 hC_115) (cwV 3 hts g_Y_156_Y_cubeAgainst rfl rfl rfl (by decide +kernel) ⟨Nat.le_of_ble_eq_true rfl, Nat.le_of_ble_eq_true rfl⟩) ⟨fun a U g mk q => by obtain ⟨q0, q1, qP, qK, qD⟩ := q; exact ⟨q0, q1, qP, va_K.moved (u := U) (U := U.calling g mk a) (Vm.Alike.refl U.vm) qK, qD⟩, va_recv hKc hPc (ci := 2) (q0 := 0) rfl rfl, fun U hU hW => ⟨rfl, by rw [hU], by rw [hU]; exact hPc, va_K.moved hW.alike hKc, hDc.weaken (fun _ _ _ _ => trivial)⟩⟩ rfl rfl hl.1 rfl (lv_room (Nat.le_of_ble_eq_true rfl)) d_Y_cubeRoot_115 ⟨Nat.zero_le _, Nat.zero_le _⟩) hS (fun q _ h => hFc q h) hFc (fun r u t H1 locs ht hvm hw hB hz1 hk1 hS => ?_)
        obtain ⟨hP1, hK1, hD1⟩ := hB
        replace hw := hw.symm
        subst hw
        rw [ht] at hP1
        obtain ⟨hP, hD⟩ := va_join (wr := [cI h_B k_B 8 B_f]) (w1 := [cY h_Y h_O h_N h_B h_G h_K Y_lo Y_ie Y_ra Y_to Y_te Y_re, cL h_O k_O 8 O_f, cI h_N k_N 8 N_f, cI h_G k_G 30 q_115.2.1, cI h_K k_K 30 q_115.2.2]) hP hD [0, 1, 2, 4, 5] [3] rfl rfl (by decide) (by decide) hk1 hFc hP1 hD1
        generalize H1 = H at hP hS ⊢
        have hP := hP.sub (ws' := [cY h_Y h_O h_N h_B h_G h_K Y_lo Y_ie Y_ra Y_to Y_te Y_re, cL h_O k_O 8 O_f, cI h_N k_N 8 N_f, cI h_B k_B 8 B_f, cI h_G k_G 30 q_115.2.1, cI h_K k_K 30 q_115.2.2]) [1, 2, 3, 0, 4, 5] rfl
        have hD := hD.sub (ws' := [cY h_Y h_O h_N h_B h_G h_K Y_lo Y_ie Y_ra Y_to Y_te Y_re, cL h_O k_O 8 O_f, cI h_N k_N 8 N_f, cI h_B k_B 8 B_f, cI h_G k_G 30 q_115.2.1, cI h_K k_K 30 q_115.2.2]) [1, 2, 3, 0, 4, 5] (by decide) rfl
        refine lv_if_ge (tgt := 138) hx hb d_Y_cubeRoot_118 (by decide) (fun c_118 => ?_) (fun c_118 => ?_)
        · replace hF := hif_t c_118 hF
          refine lv_iconst (v := (0 : Int32)) hx hb d_Y_cubeRoot_138 (by decide) ?_
          obtain rfl := Option.some.inj hF
          exact W.iret (v := (0 : Int32)) hx hb hr (fun t ht hW => ⟨⟨(0 : Int32), (), rfl, rfl, by rw [ht]; exact hP, va_K.moved hW.alike hK, hD⟩, hS.F ht⟩) hS.2.2 d_Y_cubeRoot_139
        · replace hF := hif_f c_118 hF
          refine lv_aload_n hx hb d_Y_cubeRoot_121 rfl (lv_at hl 0 rfl) ?_
          refine lv_lload_n hx hb d_Y_cubeRoot_122 rfl (lv_at hl 2 rfl) ?_
          refine lv_lconst (v := (1 : Int64)) hx hb d_Y_cubeRoot_123 (by decide) ?_
          refine lv_ladd hx hb d_Y_cubeRoot_124 ?_
          refine lv_iload hx hb d_Y_cubeRoot_125 (lv_at hl 3 rfl) ?_
          refine lv_iload_n hx hb d_Y_cubeRoot_127 rfl (lv_at hl 1 rfl) ?_
          obtain ⟨q_128, hC_128, hF⟩ := hbd hF
          have hPc := hP.sub (ws' := [cY h_Y h_O h_N h_B h_G h_K Y_lo Y_ie Y_ra Y_to Y_te Y_re, cL h_O k_O 8 O_f, cI h_N k_N 8 N_f, cI h_G k_G 30 q_115.2.1, cI h_K k_K 30 q_115.2.2]) [0, 1, 2, 4, 5] rfl
          have hDc := hD.sub (ws' := [cY h_Y h_O h_N h_B h_G h_K Y_lo Y_ie Y_ra Y_to Y_te Y_re, cL h_O k_O 8 O_f, cI h_N k_N 8 N_f, cI h_G k_G 30 q_115.2.1, cI h_K k_K 30 q_115.2.2]) [0, 1, 2, 4, 5] (by decide) rfl
          have hKc := hK.sub (tys' := [(k_O, .long), (k_N, .int), (k_G, .int), (k_K, .int)]) [0, 1, 3, 4] rfl
          have hFc := va_free (wc := [cY h_Y h_O h_N h_B h_G h_K Y_lo Y_ie Y_ra Y_to Y_te Y_re, cL h_O k_O 8 O_f, cI h_N k_N 8 N_f, cI h_G k_G 30 q_115.2.1, cI h_K k_K 30 q_115.2.2]) hD hS hA [0, 1, 2, 4, 5] rfl
          refine va_calli (va_runV (As := [.long (x3 + (1 : Int64)), .int x5, .int x1]) (rest := []) ⟨hx, hb, hml, hown, hts⟩ (c_Y_cubeAgainst l dC dI h_Y h_O h_N h_B h_G h_K k_O k_N k_G k_K H.size Y_lo Y_ie Y_ra Y_to Y_te Y_re O_f N_f q_115.2.1 q_115.2.2 (x3 + (1 : Int64)) x5 x1 q_128 hC_128) (cwV 3 hts g_Y_156_Y_cubeAgainst rfl rfl rfl (by decide +kernel) ⟨Nat.le_of_ble_eq_true rfl, Nat.le_of_ble_eq_true rfl⟩) ⟨fun a U g mk q => by obtain ⟨q0, q1, qP, qK, qD⟩ := q; exact ⟨q0, q1, qP, va_K.moved (u := U) (U := U.calling g mk a) (Vm.Alike.refl U.vm) qK, qD⟩, va_recv hKc hPc (ci := 2) (q0 := 0) rfl rfl, fun U hU hW => ⟨rfl, by rw [hU], by rw [hU]; exact hPc, va_K.moved hW.alike hKc, hDc.weaken (fun _ _ _ _ => trivial)⟩⟩ rfl rfl hl.1 rfl (lv_room (Nat.le_of_ble_eq_true rfl)) d_Y_cubeRoot_128 ⟨Nat.zero_le _, Nat.zero_le _⟩) hS (fun q _ h => hFc q h) hFc (fun r u t H1 locs ht hvm hw hB hz1 hk1 hS => ?_)
          obtain ⟨hP1, hK1, hD1⟩ := hB
          replace hw := hw.symm
          subst hw
          rw [ht] at hP1
          obtain ⟨hP, hD⟩ := va_join (wr := [cI h_B k_B 8 B_f]) (w1 := [cY h_Y h_O h_N h_B h_G h_K Y_lo Y_ie Y_ra Y_to Y_te Y_re, cL h_O k_O 8 O_f, cI h_N k_N 8 N_f, cI h_G k_G 30 q_128.2.1, cI h_K k_K 30 q_128.2.2]) hP hD [0, 1, 2, 4, 5] [3] rfl rfl (by decide) (by decide) hk1 hFc hP1 hD1
          generalize H1 = H at hP hS ⊢
          have hP := hP.sub (ws' := [cY h_Y h_O h_N h_B h_G h_K Y_lo Y_ie Y_ra Y_to Y_te Y_re, cL h_O k_O 8 O_f, cI h_N k_N 8 N_f, cI h_B k_B 8 B_f, cI h_G k_G 30 q_128.2.1, cI h_K k_K 30 q_128.2.2]) [1, 2, 3, 0, 4, 5] rfl
          have hD := hD.sub (ws' := [cY h_Y h_O h_N h_B h_G h_K Y_lo Y_ie Y_ra Y_to Y_te Y_re, cL h_O k_O 8 O_f, cI h_N k_N 8 N_f, cI h_B k_B 8 B_f, cI h_G k_G 30 q_128.2.1, cI h_K k_K 30 q_128.2.2]) [1, 2, 3, 0, 4, 5] (by decide) rfl
          refine lv_if_le (tgt := 138) hx hb d_Y_cubeRoot_131 (by decide) (fun c_131 => ?_) (fun c_131 => ?_)
          · replace hF := hif_t c_131 hF
            refine lv_iconst (v := (0 : Int32)) hx hb d_Y_cubeRoot_138 (by decide) ?_
            obtain rfl := Option.some.inj hF
            exact W.iret (v := (0 : Int32)) hx hb hr (fun t ht hW => ⟨⟨(0 : Int32), (), rfl, rfl, by rw [ht]; exact hP, va_K.moved hW.alike hK, hD⟩, hS.F ht⟩) hS.2.2 d_Y_cubeRoot_139
          · replace hF := hif_f c_131 hF
            refine lv_iconst (v := (1 : Int32)) hx hb d_Y_cubeRoot_134 (by decide) ?_
            refine lv_goto (tgt := 139) hx hb d_Y_cubeRoot_135 (by decide) ?_
            obtain rfl := Option.some.inj hF
            exact W.iret (v := (1 : Int32)) hx hb hr (fun t ht hW => ⟨⟨(1 : Int32), (), rfl, rfl, by rw [ht]; exact hP, va_K.moved hW.alike hK, hD⟩, hS.F ht⟩) hS.2.2 d_Y_cubeRoot_139
      · replace hF := hif_f c_93 hF
        refine lv_lload_n hx hb d_Y_cubeRoot_96 rfl (lv_at hl 2 rfl) ?_
        refine lv_ldc2 (v := (2 : Int64)) hx hb hown (hts _ tw_372) d_Y_cubeRoot_97 ?_
        refine lv_lmul hx hb d_Y_cubeRoot_100 ?_
        refine lv_lstore_n (lv' := [(3, .long (x3 * (2 : Int64))), (0, .ref h_Y), (1, .int x1), (5, .int x5)]) hx hb d_Y_cubeRoot_101 rfl hl (by decide) rfl (fun ls hl => ?_)
        refine lv_iinc (v := (x5 + (-1 : Int32))) (lv' := [(5, .int (x5 + (-1 : Int32))), (3, .long (x3 * (2 : Int64))), (0, .ref h_Y), (1, .int x1)]) hx hb d_Y_cubeRoot_102 hl (k := 3) rfl rfl (by decide) rfl (fun ls hl => ?_)
        refine lv_goto (tgt := 87) hx hb d_Y_cubeRoot_105 (by decide) ?_
        exact hk_87 x1 (x3 * (2 : Int64)) (x5 + (-1 : Int32)) O_f N_f B_f G_f K_f Y_lo Y_ie Y_ra Y_to Y_te Y_re _ _ _ hP hD hS (lv_sub hl [2, 3, 1, 0] rfl) hF
  unfold f_Y_cubeRoot at hF
  refine lv_iload_n hx hb d_Y_cubeRoot_0 rfl (lv_at hl 1 rfl) ?_
  obtain ⟨q_1, hC_1, hF⟩ := hbd hF
  have hPc := hP.sub (ws' := []) [] rfl
  have hDc := hD.sub (ws' := []) [] (by decide) rfl
  have hKc := hK.sub (tys' := []) [] rfl
  have hFc := va_free (wc := []) hD hS hA [] rfl
  refine va_calli (va_runS (As := [.int a1]) (rest := []) ⟨hx, hb, hml, hown, hts⟩ (c_Y_out l dC dI s.heap.size a1 q_1 hC_1) (cwS 1 hts g_Y_101_Y_out rfl rfl rfl (by decide +kernel) ⟨Nat.le_of_ble_eq_true rfl, Nat.le_of_ble_eq_true rfl⟩) ⟨fun a U g mk q => by obtain ⟨q0, q1, qP, qK, qD⟩ := q; exact ⟨q0, q1, qP, va_K.moved (u := U) (U := U.calling g mk a) (Vm.Alike.refl U.vm) qK, qD⟩, fun U hU hW => ⟨rfl, by rw [hU], by rw [hU]; exact hPc, va_K.moved hW.alike hKc, hDc.weaken (fun _ _ _ _ => trivial)⟩⟩ rfl rfl hl.1 rfl (lv_room (Nat.le_of_ble_eq_true rfl)) d_Y_cubeRoot_1 ⟨Nat.zero_le _, Nat.zero_le _⟩) hS (fun q _ h => hFc q h) hFc (fun r u t H1 locs ht hvm hw hB hz1 hk1 hS => ?_)
  obtain ⟨hP1, hK1, hD1⟩ := hB
  replace hw := hw.symm
  subst hw
  rw [ht] at hP1
  obtain ⟨hP, hD⟩ := va_join (wr := [cY h_Y h_O h_N h_B h_G h_K Y_lo Y_ie Y_ra Y_to Y_te Y_re, cL h_O k_O 8 O_f, cI h_N k_N 8 N_f, cI h_B k_B 8 B_f, cI h_G k_G 30 G_f, cI h_K k_K 30 K_f]) (w1 := []) hP hD [] [0, 1, 2, 3, 4, 5] rfl rfl (by decide) (by decide) hk1 hFc hP1 hD1
  generalize H1 = H at hP hS ⊢
  have hP := hP.sub (ws' := [cY h_Y h_O h_N h_B h_G h_K Y_lo Y_ie Y_ra Y_to Y_te Y_re, cL h_O k_O 8 O_f, cI h_N k_N 8 N_f, cI h_B k_B 8 B_f, cI h_G k_G 30 G_f, cI h_K k_K 30 K_f]) [0, 1, 2, 3, 4, 5] rfl
  have hD := hD.sub (ws' := [cY h_Y h_O h_N h_B h_G h_K Y_lo Y_ie Y_ra Y_to Y_te Y_re, cL h_O k_O 8 O_f, cI h_N k_N 8 N_f, cI h_B k_B 8 B_f, cI h_G k_G 30 G_f, cI h_K k_K 30 K_f]) [0, 1, 2, 3, 4, 5] (by decide) rfl
  refine lv_if_ne (tgt := 14) hx hb d_Y_cubeRoot_4 (by decide) (fun c_4 => ?_) (fun c_4 => ?_)
  · replace hF := hif_f c_4 hF
    refine lv_iconst (v := (-1 : Int32)) hx hb d_Y_cubeRoot_14 (by decide) ?_
    obtain rfl := Option.some.inj hF
    exact W.iret (v := (-1 : Int32)) hx hb hr (fun t ht hW => ⟨⟨(-1 : Int32), (), rfl, rfl, by rw [ht]; exact hP, va_K.moved hW.alike hK, hD⟩, hS.F ht⟩) hS.2.2 d_Y_cubeRoot_15
  · replace hF := hif_t c_4 hF
    refine lv_iload_n hx hb d_Y_cubeRoot_7 rfl (lv_at hl 2 rfl) ?_
    obtain ⟨q_8, hC_8, hF⟩ := hbd hF
    have hPc := hP.sub (ws' := []) [] rfl
    have hDc := hD.sub (ws' := []) [] (by decide) rfl
    have hKc := hK.sub (tys' := []) [] rfl
    have hFc := va_free (wc := []) hD hS hA [] rfl
    refine va_calli (va_runS (As := [.int a2]) (rest := []) ⟨hx, hb, hml, hown, hts⟩ (c_Y_out l dC dI H.size a2 q_8 hC_8) (cwS 1 hts g_Y_101_Y_out rfl rfl rfl (by decide +kernel) ⟨Nat.le_of_ble_eq_true rfl, Nat.le_of_ble_eq_true rfl⟩) ⟨fun a U g mk q => by obtain ⟨q0, q1, qP, qK, qD⟩ := q; exact ⟨q0, q1, qP, va_K.moved (u := U) (U := U.calling g mk a) (Vm.Alike.refl U.vm) qK, qD⟩, fun U hU hW => ⟨rfl, by rw [hU], by rw [hU]; exact hPc, va_K.moved hW.alike hKc, hDc.weaken (fun _ _ _ _ => trivial)⟩⟩ rfl rfl hl.1 rfl (lv_room (Nat.le_of_ble_eq_true rfl)) d_Y_cubeRoot_8 ⟨Nat.zero_le _, Nat.zero_le _⟩) hS (fun q _ h => hFc q h) hFc (fun r u t H1 locs ht hvm hw hB hz1 hk1 hS => ?_)
    obtain ⟨hP1, hK1, hD1⟩ := hB
    replace hw := hw.symm
    subst hw
    rw [ht] at hP1
    obtain ⟨hP, hD⟩ := va_join (wr := [cY h_Y h_O h_N h_B h_G h_K Y_lo Y_ie Y_ra Y_to Y_te Y_re, cL h_O k_O 8 O_f, cI h_N k_N 8 N_f, cI h_B k_B 8 B_f, cI h_G k_G 30 G_f, cI h_K k_K 30 K_f]) (w1 := []) hP hD [] [0, 1, 2, 3, 4, 5] rfl rfl (by decide) (by decide) hk1 hFc hP1 hD1
    generalize H1 = H at hP hS ⊢
    have hP := hP.sub (ws' := [cY h_Y h_O h_N h_B h_G h_K Y_lo Y_ie Y_ra Y_to Y_te Y_re, cL h_O k_O 8 O_f, cI h_N k_N 8 N_f, cI h_B k_B 8 B_f, cI h_G k_G 30 G_f, cI h_K k_K 30 K_f]) [0, 1, 2, 3, 4, 5] rfl
    have hD := hD.sub (ws' := [cY h_Y h_O h_N h_B h_G h_K Y_lo Y_ie Y_ra Y_to Y_te Y_re, cL h_O k_O 8 O_f, cI h_N k_N 8 N_f, cI h_B k_B 8 B_f, cI h_G k_G 30 G_f, cI h_K k_K 30 K_f]) [0, 1, 2, 3, 4, 5] (by decide) rfl
    refine lv_if_eq (tgt := 16) hx hb d_Y_cubeRoot_11 (by decide) (fun c_11 => ?_) (fun c_11 => ?_)
    · replace hF := hif_t c_11 hF
      refine lv_aload_n hx hb d_Y_cubeRoot_16 rfl (lv_at hl 0 rfl) ?_
      refine va_get (D := (dC, dI)) (ci := 2) (v := .ref h_O) (C := "RoundedNumbersModel") (T := F_Y) (N := 11) hx hb hts in_Y hown hK hP 0 rfl rfl 0 (by decide) (hts _ tw_314) (fun _ h9 => h9) rfl d_Y_cubeRoot_17 ?_
      refine lv_iload_n hx hb d_Y_cubeRoot_20 rfl (lv_at hl 2 rfl) ?_
      have c_21 : ¬ (a2 < 0 ∨ 8 ≤ a2.toNatClampNeg) := hif_n hF
      replace hF := hif_f c_21 hF
      refine va_lald hx hb hK hP 1 0 rfl rfl c_21 d_Y_cubeRoot_21 ?_
      refine lv_lconst (v := (0 : Int64)) hx hb d_Y_cubeRoot_22 (by decide) ?_
      refine W.lcmp hx hb d_Y_cubeRoot_23 ?_
      refine lv_if_ne (tgt := 44) hx hb d_Y_cubeRoot_24 (by decide) (fun c_24 => ?_) (fun c_24 => ?_)
      · replace hF := hif_f c_24 hF
        refine lv_aload_n hx hb d_Y_cubeRoot_44 rfl (lv_at hl 0 rfl) ?_
        refine va_get (D := (dC, dI)) (ci := 2) (v := .ref h_O) (C := "RoundedNumbersModel") (T := F_Y) (N := 11) hx hb hts in_Y hown hK hP 0 rfl rfl 0 (by decide) (hts _ tw_314) (fun _ h9 => h9) rfl d_Y_cubeRoot_45 ?_
        refine lv_iload_n hx hb d_Y_cubeRoot_48 rfl (lv_at hl 1 rfl) ?_
        have c_49 : ¬ (a1 < 0 ∨ 8 ≤ a1.toNatClampNeg) := hif_n hF
        replace hF := hif_f c_49 hF
        refine va_lald hx hb hK hP 1 0 rfl rfl c_49 d_Y_cubeRoot_49 ?_
        refine lv_lconst (v := (0 : Int64)) hx hb d_Y_cubeRoot_50 (by decide) ?_
        refine W.lcmp hx hb d_Y_cubeRoot_51 ?_
        refine lv_if_eq (tgt := 70) hx hb d_Y_cubeRoot_52 (by decide) (fun c_52 => ?_) (fun c_52 => ?_)
        · replace hF := hif_t c_52 hF
          refine lv_iconst (v := (0 : Int32)) hx hb d_Y_cubeRoot_70 (by decide) ?_
          obtain rfl := Option.some.inj hF
          exact W.iret (v := (0 : Int32)) hx hb hr (fun t ht hW => ⟨⟨(0 : Int32), (), rfl, rfl, by rw [ht]; exact hP, va_K.moved hW.alike hK, hD⟩, hS.F ht⟩) hS.2.2 d_Y_cubeRoot_71
        · replace hF := hif_f c_52 hF
          refine lv_aload_n hx hb d_Y_cubeRoot_55 rfl (lv_at hl 0 rfl) ?_
          refine va_get (D := (dC, dI)) (ci := 2) (v := .ref h_B) (C := "RoundedNumbersModel") (T := F_Y) (N := 11) hx hb hts in_Y hown hK hP 0 rfl rfl 2 (by decide) (hts _ tw_316) (fun _ h9 => h9) rfl d_Y_cubeRoot_56 ?_
          refine lv_iload_n hx hb d_Y_cubeRoot_59 rfl (lv_at hl 1 rfl) ?_
          have c_60 : ¬ (a1 < 0 ∨ 8 ≤ a1.toNatClampNeg) := hif_n hF
          replace hF := hif_f c_60 hF
          refine va_zald hx hb hK hP 3 2 rfl rfl c_60 d_Y_cubeRoot_60 ?_
          refine lv_aload_n hx hb d_Y_cubeRoot_61 rfl (lv_at hl 0 rfl) ?_
          refine va_get (D := (dC, dI)) (ci := 2) (v := .ref h_B) (C := "RoundedNumbersModel") (T := F_Y) (N := 11) hx hb hts in_Y hown hK hP 0 rfl rfl 2 (by decide) (hts _ tw_316) (fun _ h9 => h9) rfl d_Y_cubeRoot_62 ?_
          refine lv_iload_n hx hb d_Y_cubeRoot_65 rfl (lv_at hl 2 rfl) ?_
          have c_66 : ¬ (a2 < 0 ∨ 8 ≤ a2.toNatClampNeg) := hif_n hF
          replace hF := hif_f c_66 hF
          refine va_zald hx hb hK hP 3 2 rfl rfl c_66 d_Y_cubeRoot_66 ?_
          refine lv_icmp_eq (tgt := 72) hx hb d_Y_cubeRoot_67 (by decide) (fun c_67 => ?_) (fun c_67 => ?_)
          · replace hF := hif_t c_67 hF
            refine lv_aload_n hx hb d_Y_cubeRoot_72 rfl (lv_at hl 0 rfl) ?_
            refine va_get (D := (dC, dI)) (ci := 2) (v := .ref h_O) (C := "RoundedNumbersModel") (T := F_Y) (N := 11) hx hb hts in_Y hown hK hP 0 rfl rfl 0 (by decide) (hts _ tw_314) (fun _ h9 => h9) rfl d_Y_cubeRoot_73 ?_
            refine lv_iload_n hx hb d_Y_cubeRoot_76 rfl (lv_at hl 2 rfl) ?_
            have c_77 : ¬ (a2 < 0 ∨ 8 ≤ a2.toNatClampNeg) := hif_n hF
            replace hF := hif_f c_77 hF
            refine va_lald hx hb hK hP 1 0 rfl rfl c_77 d_Y_cubeRoot_77 ?_
            refine lv_lstore_n (lv' := [(3, .long (O_f a2.toNatClampNeg)), (0, .ref h_Y), (1, .int a1), (2, .int a2)]) hx hb d_Y_cubeRoot_78 rfl hl (by decide) rfl (fun ls hl => ?_)
            refine lv_aload_n hx hb d_Y_cubeRoot_79 rfl (lv_at hl 1 rfl) ?_
            refine va_get (D := (dC, dI)) (ci := 2) (v := .ref h_N) (C := "RoundedNumbersModel") (T := F_Y) (N := 11) hx hb hts in_Y hown hK hP 0 rfl rfl 1 (by decide) (hts _ tw_315) (fun _ h9 => h9) rfl d_Y_cubeRoot_80 ?_
            refine lv_iload_n hx hb d_Y_cubeRoot_83 rfl (lv_at hl 3 rfl) ?_
            have c_84 : ¬ (a2 < 0 ∨ 8 ≤ a2.toNatClampNeg) := hif_n hF
            replace hF := hif_f c_84 hF
            refine va_iald hx hb hK hP 2 1 rfl rfl c_84 d_Y_cubeRoot_84 ?_
            refine lv_istore (lv' := [(5, .int (N_f a2.toNatClampNeg)), (3, .long (O_f a2.toNatClampNeg)), (0, .ref h_Y), (1, .int a1), (2, .int a2)]) hx hb d_Y_cubeRoot_85 hl (by decide) rfl (fun ls hl => ?_)
            exact b_87 1000 a1 (O_f a2.toNatClampNeg) (N_f a2.toNatClampNeg) O_f N_f B_f G_f K_f Y_lo Y_ie Y_ra Y_to Y_te Y_re _ _ _ hP hD hS (lv_sub hl [2, 3, 1, 0] rfl) hF
          · replace hF := hif_f c_67 hF
            refine lv_iconst (v := (0 : Int32)) hx hb d_Y_cubeRoot_70 (by decide) ?_
            obtain rfl := Option.some.inj hF
            exact W.iret (v := (0 : Int32)) hx hb hr (fun t ht hW => ⟨⟨(0 : Int32), (), rfl, rfl, by rw [ht]; exact hP, va_K.moved hW.alike hK, hD⟩, hS.F ht⟩) hS.2.2 d_Y_cubeRoot_71
      · replace hF := hif_t c_24 hF
        refine lv_aload_n hx hb d_Y_cubeRoot_27 rfl (lv_at hl 0 rfl) ?_
        refine va_get (D := (dC, dI)) (ci := 2) (v := .ref h_O) (C := "RoundedNumbersModel") (T := F_Y) (N := 11) hx hb hts in_Y hown hK hP 0 rfl rfl 0 (by decide) (hts _ tw_314) (fun _ h9 => h9) rfl d_Y_cubeRoot_28 ?_
        refine lv_iload_n hx hb d_Y_cubeRoot_31 rfl (lv_at hl 1 rfl) ?_
        have c_32 : ¬ (a1 < 0 ∨ 8 ≤ a1.toNatClampNeg) := hif_n hF
        replace hF := hif_f c_32 hF
        refine va_lald hx hb hK hP 1 0 rfl rfl c_32 d_Y_cubeRoot_32 ?_
        refine lv_lconst (v := (0 : Int64)) hx hb d_Y_cubeRoot_33 (by decide) ?_
        refine W.lcmp hx hb d_Y_cubeRoot_34 ?_
        refine lv_if_ne (tgt := 42) hx hb d_Y_cubeRoot_35 (by decide) (fun c_35 => ?_) (fun c_35 => ?_)
        · replace hF := hif_f c_35 hF
          refine lv_iconst (v := (0 : Int32)) hx hb d_Y_cubeRoot_42 (by decide) ?_
          obtain rfl := Option.some.inj hF
          exact W.iret (v := (0 : Int32)) hx hb hr (fun t ht hW => ⟨⟨(0 : Int32), (), rfl, rfl, by rw [ht]; exact hP, va_K.moved hW.alike hK, hD⟩, hS.F ht⟩) hS.2.2 d_Y_cubeRoot_43
        · replace hF := hif_t c_35 hF
          refine lv_iconst (v := (1 : Int32)) hx hb d_Y_cubeRoot_38 (by decide) ?_
          refine lv_goto (tgt := 43) hx hb d_Y_cubeRoot_39 (by decide) ?_
          obtain rfl := Option.some.inj hF
          exact W.iret (v := (1 : Int32)) hx hb hr (fun t ht hW => ⟨⟨(1 : Int32), (), rfl, rfl, by rw [ht]; exact hP, va_K.moved hW.alike hK, hD⟩, hS.F ht⟩) hS.2.2 d_Y_cubeRoot_43
    · replace hF := hif_f c_11 hF
      refine lv_iconst (v := (-1 : Int32)) hx hb d_Y_cubeRoot_14 (by decide) ?_
      obtain rfl := Option.some.inj hF
      exact W.iret (v := (-1 : Int32)) hx hb hr (fun t ht hW => ⟨⟨(-1 : Int32), (), rfl, rfl, by rw [ht]; exact hP, va_K.moved hW.alike hK, hD⟩, hS.F ht⟩) hS.2.2 d_Y_cubeRoot_15
set_option maxHeartbeats 4000000 in
set_option maxRecDepth 100000 in
theorem c_Y_compare (l : Launch) (dC : Nat → ClassId) (dI : Nat → Nat → Nat) (h_Y : Nat) (h_O : Nat) (h_N : Nat) (h_B : Nat) (h_G : Nat) (h_K : Nat) (k_O : ClassId) (k_N : ClassId) (k_B : ClassId) (sz : Nat) (Y_lo : Int32) (Y_ie : Int32) (Y_ra : Int32) (Y_to : Int64) (Y_te : Int32) (Y_re : Int32) (O_f : Nat → Int64) (N_f : Nat → Int32) (B_f : Nat → Int32) (a1 : Int32) (a2 : Int32) (o : Int32) (hF : f_Y_compare O_f N_f B_f a1 a2 = some o) : Met l y_Y_compare w_Y_compare ({ frames := 2, cells := 0, slots := 0, locals := 55 } : Room) (va_Pc [.ref h_Y, .int a1, .int a2] (fun U => U.heap.size = sz ∧ va_P (dC, dI) classes [cY h_Y h_O h_N h_B h_G h_K Y_lo Y_ie Y_ra Y_to Y_te Y_re, cL h_O k_O 8 O_f, cI h_N k_N 8 N_f, cI h_B k_B 8 B_f] U.heap ∧ va_K (dC, dI) classes [(k_O, .long), (k_N, .int), (k_B, .boolean)] U ∧ va_D (fun _ => True) [cY h_Y h_O h_N h_B h_G h_K Y_lo Y_ie Y_ra Y_to Y_te Y_re, cL h_O k_O 8 O_f, cI h_N k_N 8 N_f, cI h_B k_B 8 B_f])) (va_Qi (fun (r : Int32) (_ : Unit) => r = o) (fun (_ : Unit) (t : State) => va_P (dC, dI) classes [cY h_Y h_O h_N h_B h_G h_K Y_lo Y_ie Y_ra Y_to Y_te Y_re, cL h_O k_O 8 O_f, cI h_N k_N 8 N_f, cI h_B k_B 8 B_f] t.heap ∧ va_K (dC, dI) classes [(k_O, .long), (k_N, .int), (k_B, .boolean)] t ∧ va_D (va_A [cY h_Y h_O h_N h_B h_G h_K Y_lo Y_ie Y_ra Y_to Y_te Y_re, cL h_O k_O 8 O_f, cI h_N k_N 8 N_f, cI h_B k_B 8 B_f] sz) [cY h_Y h_O h_N h_B h_G h_K Y_lo Y_ie Y_ra Y_to Y_te Y_re, cL h_O k_O 8 O_f, cI h_N k_N 8 N_f, cI h_B k_B 8 B_f]) (va_A [cY h_Y h_O h_N h_B h_G h_K Y_lo Y_ie Y_ra Y_to Y_te Y_re, cL h_O k_O 8 O_f, cI h_N k_N 8 N_f, cI h_B k_B 8 B_f] sz)) 0 0 (va_A [cY h_Y h_O h_N h_B h_G h_K Y_lo Y_ie Y_ra Y_to Y_te Y_re, cL h_O k_O 8 O_f, cI h_N k_N 8 N_f, cI h_B k_B 8 B_f] sz) := by
  refine Met.ofW (cc := prog_4_method_39_code) (maxL := 4) (ret := (some .int)) (by decide) rfl ?_
  intro p e s m args below meth c s₁ B hml hv
  obtain ⟨rfl, hsz, hP, hK, hD0⟩ := hv
  have hx := B.exec
  have hb := B.bytes
  have hr := B.returns
  have hts0 := atoms_spec (ws := w_Y_compare) B.pre
  have hts : ∀ w ∈ tb, w.before _ s = true := fun w h => hts0 w (List.mem_cons_of_mem _ h)
  clear hts0
  have hown : s.vm.findClass "RoundedNumbersModel" = some m.cls := findClass_of_methodNamed B.named
  have hlocks := B.notSynchronized
  subst hsz
  have hD := hD0.self (sz := s.heap.size)
  generalize hAe : va_A [cY h_Y h_O h_N h_B h_G h_K Y_lo Y_ie Y_ra Y_to Y_te Y_re, cL h_O k_O 8 O_f, cI h_N k_N 8 N_f, cI h_B k_B 8 B_f] s.heap.size = A at hD ⊢
  have hA : ∀ q : Nat, s.heap.size ≤ q → A q := fun q h => by rw [← hAe]; exact Or.inr h
  clear hAe
  have hS : va_S A s.heap s.heap [] := va_S.rf
  have hP : va_P (dC, dI) classes [cY h_Y h_O h_N h_B h_G h_K Y_lo Y_ie Y_ra Y_to Y_te Y_re, cL h_O k_O 8 O_f, cI h_N k_N 8 N_f, cI h_B k_B 8 B_f] s.heap := hP
  have hl := lv_entry ([.ref h_Y, .int a1, .int a2]) (n := 4) (Nat.le_of_ble_eq_true rfl)
  rw [lg_entry_eq]
  generalize (lg_sl ([.ref h_Y, .int a1, .int a2]) ++ List.replicate (4 - (lg_sl ([.ref h_Y, .int a1, .int a2])).length) Slot.unset).toArray = ls at hl ⊢
  have hl : lv_has ls 4 [(0, .ref h_Y), (1, .int a1), (2, .int a2)] := hl
  unfold f_Y_compare at hF
  refine lv_iload_n hx hb d_Y_compare_0 rfl (lv_at hl 1 rfl) ?_
  obtain ⟨q_1, hC_1, hF⟩ := hbd hF
  have hPc := hP.sub (ws' := []) [] rfl
  have hDc := hD.sub (ws' := []) [] (by decide) rfl
  have hKc := hK.sub (tys' := []) [] rfl
  have hFc := va_free (wc := []) hD hS hA [] rfl
  refine va_calli (va_runS (As := [.int a1]) (rest := []) ⟨hx, hb, hml, hown, hts⟩ (c_Y_out l dC dI s.heap.size a1 q_1 hC_1) (cwS 1 hts g_Y_101_Y_out rfl rfl rfl (by decide +kernel) ⟨Nat.le_of_ble_eq_true rfl, Nat.le_of_ble_eq_true rfl⟩) ⟨fun a U g mk q => by obtain ⟨q0, q1, qP, qK, qD⟩ := q; exact ⟨q0, q1, qP, va_K.moved (u := U) (U := U.calling g mk a) (Vm.Alike.refl U.vm) qK, qD⟩, fun U hU hW => ⟨rfl, by rw [hU], by rw [hU]; exact hPc, va_K.moved hW.alike hKc, hDc.weaken (fun _ _ _ _ => trivial)⟩⟩ rfl rfl hl.1 rfl (lv_room (Nat.le_of_ble_eq_true rfl)) d_Y_compare_1 ⟨Nat.zero_le _, Nat.zero_le _⟩) hS (fun q _ h => hFc q h) hFc (fun r u t H1 locs ht hvm hw hB hz1 hk1 hS => ?_)
  obtain ⟨hP1, hK1, hD1⟩ := hB
  replace hw := hw.symm
  subst hw
  rw [ht] at hP1
  obtain ⟨hP, hD⟩ := va_join (wr := [cY h_Y h_O h_N h_B h_G h_K Y_lo Y_ie Y_ra Y_to Y_te Y_re, cL h_O k_O 8 O_f, cI h_N k_N 8 N_f, cI h_B k_B 8 B_f]) (w1 := []) hP hD [] [0, 1, 2, 3] rfl rfl (by decide) (by decide) hk1 hFc hP1 hD1
  generalize H1 = H at hP hS ⊢
  have hP := hP.sub (ws' := [cY h_Y h_O h_N h_B h_G h_K Y_lo Y_ie Y_ra Y_to Y_te Y_re, cL h_O k_O 8 O_f, cI h_N k_N 8 N_f, cI h_B k_B 8 B_f]) [0, 1, 2, 3] rfl
  have hD := hD.sub (ws' := [cY h_Y h_O h_N h_B h_G h_K Y_lo Y_ie Y_ra Y_to Y_te Y_re, cL h_O k_O 8 O_f, cI h_N k_N 8 N_f, cI h_B k_B 8 B_f]) [0, 1, 2, 3] (by decide) rfl
  refine lv_if_ne (tgt := 14) hx hb d_Y_compare_4 (by decide) (fun c_4 => ?_) (fun c_4 => ?_)
  · replace hF := hif_f c_4 hF
    refine lv_bipush (v := (-2 : Int32)) hx hb d_Y_compare_14 (by decide) ?_
    obtain rfl := Option.some.inj hF
    exact W.iret (v := (-2 : Int32)) hx hb hr (fun t ht hW => ⟨⟨(-2 : Int32), (), rfl, rfl, by rw [ht]; exact hP, va_K.moved hW.alike hK, hD⟩, hS.F ht⟩) hS.2.2 d_Y_compare_16
  · replace hF := hif_t c_4 hF
    refine lv_iload_n hx hb d_Y_compare_7 rfl (lv_at hl 2 rfl) ?_
    obtain ⟨q_8, hC_8, hF⟩ := hbd hF
    have hPc := hP.sub (ws' := []) [] rfl
    have hDc := hD.sub (ws' := []) [] (by decide) rfl
    have hKc := hK.sub (tys' := []) [] rfl
    have hFc := va_free (wc := []) hD hS hA [] rfl
    refine va_calli (va_runS (As := [.int a2]) (rest := []) ⟨hx, hb, hml, hown, hts⟩ (c_Y_out l dC dI H.size a2 q_8 hC_8) (cwS 1 hts g_Y_101_Y_out rfl rfl rfl (by decide +kernel) ⟨Nat.le_of_ble_eq_true rfl, Nat.le_of_ble_eq_true rfl⟩) ⟨fun a U g mk q => by obtain ⟨q0, q1, qP, qK, qD⟩ := q; exact ⟨q0, q1, qP, va_K.moved (u := U) (U := U.calling g mk a) (Vm.Alike.refl U.vm) qK, qD⟩, fun U hU hW => ⟨rfl, by rw [hU], by rw [hU]; exact hPc, va_K.moved hW.alike hKc, hDc.weaken (fun _ _ _ _ => trivial)⟩⟩ rfl rfl hl.1 rfl (lv_room (Nat.le_of_ble_eq_true rfl)) d_Y_compare_8 ⟨Nat.zero_le _, Nat.zero_le _⟩) hS (fun q _ h => hFc q h) hFc (fun r u t H1 locs ht hvm hw hB hz1 hk1 hS => ?_)
    obtain ⟨hP1, hK1, hD1⟩ := hB
    replace hw := hw.symm
    subst hw
    rw [ht] at hP1
    obtain ⟨hP, hD⟩ := va_join (wr := [cY h_Y h_O h_N h_B h_G h_K Y_lo Y_ie Y_ra Y_to Y_te Y_re, cL h_O k_O 8 O_f, cI h_N k_N 8 N_f, cI h_B k_B 8 B_f]) (w1 := []) hP hD [] [0, 1, 2, 3] rfl rfl (by decide) (by decide) hk1 hFc hP1 hD1
    generalize H1 = H at hP hS ⊢
    have hP := hP.sub (ws' := [cY h_Y h_O h_N h_B h_G h_K Y_lo Y_ie Y_ra Y_to Y_te Y_re, cL h_O k_O 8 O_f, cI h_N k_N 8 N_f, cI h_B k_B 8 B_f]) [0, 1, 2, 3] rfl
    have hD := hD.sub (ws' := [cY h_Y h_O h_N h_B h_G h_K Y_lo Y_ie Y_ra Y_to Y_te Y_re, cL h_O k_O 8 O_f, cI h_N k_N 8 N_f, cI h_B k_B 8 B_f]) [0, 1, 2, 3] (by decide) rfl
    refine lv_if_eq (tgt := 17) hx hb d_Y_compare_11 (by decide) (fun c_11 => ?_) (fun c_11 => ?_)
    · replace hF := hif_t c_11 hF
      refine lv_aload_n hx hb d_Y_compare_17 rfl (lv_at hl 0 rfl) ?_
      refine va_get (D := (dC, dI)) (ci := 2) (v := .ref h_B) (C := "RoundedNumbersModel") (T := F_Y) (N := 11) hx hb hts in_Y hown hK hP 0 rfl rfl 2 (by decide) (hts _ tw_316) (fun _ h9 => h9) rfl d_Y_compare_18 ?_
      refine lv_iload_n hx hb d_Y_compare_21 rfl (lv_at hl 1 rfl) ?_
      have c_22 : ¬ (a1 < 0 ∨ 8 ≤ a1.toNatClampNeg) := hif_n hF
      replace hF := hif_f c_22 hF
      refine va_zald hx hb hK hP 3 2 rfl rfl c_22 d_Y_compare_22 ?_
      refine lv_aload_n hx hb d_Y_compare_23 rfl (lv_at hl 0 rfl) ?_
      refine va_get (D := (dC, dI)) (ci := 2) (v := .ref h_B) (C := "RoundedNumbersModel") (T := F_Y) (N := 11) hx hb hts in_Y hown hK hP 0 rfl rfl 2 (by decide) (hts _ tw_316) (fun _ h9 => h9) rfl d_Y_compare_24 ?_
      refine lv_iload_n hx hb d_Y_compare_27 rfl (lv_at hl 2 rfl) ?_
      have c_28 : ¬ (a2 < 0 ∨ 8 ≤ a2.toNatClampNeg) := hif_n hF
      replace hF := hif_f c_28 hF
      refine va_zald hx hb hK hP 3 2 rfl rfl c_28 d_Y_compare_28 ?_
      refine lv_icmp_eq (tgt := 47) hx hb d_Y_compare_29 (by decide) (fun c_29 => ?_) (fun c_29 => ?_)
      · replace hF := hif_t c_29 hF
        refine lv_aload_n hx hb d_Y_compare_47 rfl (lv_at hl 0 rfl) ?_
        refine lv_iload_n hx hb d_Y_compare_48 rfl (lv_at hl 1 rfl) ?_
        refine lv_iload_n hx hb d_Y_compare_49 rfl (lv_at hl 2 rfl) ?_
        refine lv_iconst (v := (0 : Int32)) hx hb d_Y_compare_50 (by decide) ?_
        obtain ⟨q_51, hC_51, hF⟩ := hbd hF
        have hPc := hP.sub (ws' := [cY h_Y h_O h_N h_B h_G h_K Y_lo Y_ie Y_ra Y_to Y_te Y_re, cL h_O k_O 8 O_f, cI h_N k_N 8 N_f]) [0, 1, 2] rfl
        have hDc := hD.sub (ws' := [cY h_Y h_O h_N h_B h_G h_K Y_lo Y_ie Y_ra Y_to Y_te Y_re, cL h_O k_O 8 O_f, cI h_N k_N 8 N_f]) [0, 1, 2] (by decide) rfl
        have hKc := hK.sub (tys' := [(k_O, .long), (k_N, .int)]) [0, 1] rfl
        have hFc := va_free (wc := [cY h_Y h_O h_N h_B h_G h_K Y_lo Y_ie Y_ra Y_to Y_te Y_re, cL h_O k_O 8 O_f, cI h_N k_N 8 N_f]) hD hS hA [0, 1, 2] rfl
        refine va_calli (va_runV (As := [.int a1, .int a2, .int (0 : Int32)]) (rest := []) ⟨hx, hb, hml, hown, hts⟩ (c_Y_compareSizes l dC dI h_Y h_O h_N h_B h_G h_K k_O k_N H.size Y_lo Y_ie Y_ra Y_to Y_te Y_re O_f N_f a1 a2 (0 : Int32) q_51 hC_51) (cwV 3 hts g_Y_144_Y_compareSizes rfl rfl rfl (by decide +kernel) ⟨Nat.le_of_ble_eq_true rfl, Nat.le_of_ble_eq_true rfl⟩) ⟨fun a U g mk q => by obtain ⟨q0, q1, qP, qK, qD⟩ := q; exact ⟨q0, q1, qP, va_K.moved (u := U) (U := U.calling g mk a) (Vm.Alike.refl U.vm) qK, qD⟩, va_recv hKc hPc (ci := 2) (q0 := 0) rfl rfl, fun U hU hW => ⟨rfl, by rw [hU], by rw [hU]; exact hPc, va_K.moved hW.alike hKc, hDc.weaken (fun _ _ _ _ => trivial)⟩⟩ rfl rfl hl.1 rfl (lv_room (Nat.le_of_ble_eq_true rfl)) d_Y_compare_51 ⟨Nat.zero_le _, Nat.zero_le _⟩) hS (fun q _ h => hFc q h) hFc (fun r u t H1 locs ht hvm hw hB hz1 hk1 hS => ?_)
        obtain ⟨hP1, hK1, hD1⟩ := hB
        replace hw := hw.symm
        subst hw
        rw [ht] at hP1
        obtain ⟨hP, hD⟩ := va_join (wr := [cI h_B k_B 8 B_f]) (w1 := [cY h_Y h_O h_N h_B h_G h_K Y_lo Y_ie Y_ra Y_to Y_te Y_re, cL h_O k_O 8 O_f, cI h_N k_N 8 N_f]) hP hD [0, 1, 2] [3] rfl rfl (by decide) (by decide) hk1 hFc hP1 hD1
        generalize H1 = H at hP hS ⊢
        have hP := hP.sub (ws' := [cY h_Y h_O h_N h_B h_G h_K Y_lo Y_ie Y_ra Y_to Y_te Y_re, cL h_O k_O 8 O_f, cI h_N k_N 8 N_f, cI h_B k_B 8 B_f]) [1, 2, 3, 0] rfl
        have hD := hD.sub (ws' := [cY h_Y h_O h_N h_B h_G h_K Y_lo Y_ie Y_ra Y_to Y_te Y_re, cL h_O k_O 8 O_f, cI h_N k_N 8 N_f, cI h_B k_B 8 B_f]) [1, 2, 3, 0] (by decide) rfl
        refine lv_istore_n (lv' := [(3, .int q_51), (0, .ref h_Y), (1, .int a1), (2, .int a2)]) hx hb d_Y_compare_54 rfl hl (by decide) rfl (fun ls hl => ?_)
        refine lv_aload_n hx hb d_Y_compare_55 rfl (lv_at hl 1 rfl) ?_
        refine va_get (D := (dC, dI)) (ci := 2) (v := .ref h_B) (C := "RoundedNumbersModel") (T := F_Y) (N := 11) hx hb hts in_Y hown hK hP 0 rfl rfl 2 (by decide) (hts _ tw_316) (fun _ h9 => h9) rfl d_Y_compare_56 ?_
        refine lv_iload_n hx hb d_Y_compare_59 rfl (lv_at hl 2 rfl) ?_
        have c_60 : ¬ (a1 < 0 ∨ 8 ≤ a1.toNatClampNeg) := hif_n hF
        replace hF := hif_f c_60 hF
        refine va_zald hx hb hK hP 3 2 rfl rfl c_60 d_Y_compare_60 ?_
        refine lv_if_eq (tgt := 69) hx hb d_Y_compare_61 (by decide) (fun c_61 => ?_) (fun c_61 => ?_)
        · replace hF := hif_t c_61 hF
          refine lv_iload_n hx hb d_Y_compare_69 rfl (lv_at hl 0 rfl) ?_
          obtain rfl := Option.some.inj hF
          exact W.iret (v := q_51) hx hb hr (fun t ht hW => ⟨⟨q_51, (), rfl, rfl, by rw [ht]; exact hP, va_K.moved hW.alike hK, hD⟩, hS.F ht⟩) hS.2.2 d_Y_compare_70
        · replace hF := hif_f c_61 hF
          refine lv_iload_n hx hb d_Y_compare_64 rfl (lv_at hl 0 rfl) ?_
          refine lv_ineg hx hb d_Y_compare_65 ?_
          refine lv_goto (tgt := 70) hx hb d_Y_compare_66 (by decide) ?_
          obtain rfl := Option.some.inj hF
          exact W.iret (v := (-q_51)) hx hb hr (fun t ht hW => ⟨⟨(-q_51), (), rfl, rfl, by rw [ht]; exact hP, va_K.moved hW.alike hK, hD⟩, hS.F ht⟩) hS.2.2 d_Y_compare_70
      · replace hF := hif_f c_29 hF
        refine lv_aload_n hx hb d_Y_compare_32 rfl (lv_at hl 0 rfl) ?_
        refine va_get (D := (dC, dI)) (ci := 2) (v := .ref h_B) (C := "RoundedNumbersModel") (T := F_Y) (N := 11) hx hb hts in_Y hown hK hP 0 rfl rfl 2 (by decide) (hts _ tw_316) (fun _ h9 => h9) rfl d_Y_compare_33 ?_
        refine lv_iload_n hx hb d_Y_compare_36 rfl (lv_at hl 1 rfl) ?_
        have c_37 : ¬ (a1 < 0 ∨ 8 ≤ a1.toNatClampNeg) := hif_n hF
        replace hF := hif_f c_37 hF
        refine va_zald hx hb hK hP 3 2 rfl rfl c_37 d_Y_compare_37 ?_
        refine lv_if_eq (tgt := 45) hx hb d_Y_compare_38 (by decide) (fun c_38 => ?_) (fun c_38 => ?_)
        · replace hF := hif_t c_38 hF
          refine lv_iconst (v := (1 : Int32)) hx hb d_Y_compare_45 (by decide) ?_
          obtain rfl := Option.some.inj hF
          exact W.iret (v := (1 : Int32)) hx hb hr (fun t ht hW => ⟨⟨(1 : Int32), (), rfl, rfl, by rw [ht]; exact hP, va_K.moved hW.alike hK, hD⟩, hS.F ht⟩) hS.2.2 d_Y_compare_46
        · replace hF := hif_f c_38 hF
          refine lv_iconst (v := (-1 : Int32)) hx hb d_Y_compare_41 (by decide) ?_
          refine lv_goto (tgt := 46) hx hb d_Y_compare_42 (by decide) ?_
          obtain rfl := Option.some.inj hF
          exact W.iret (v := (-1 : Int32)) hx hb hr (fun t ht hW => ⟨⟨(-1 : Int32), (), rfl, rfl, by rw [ht]; exact hP, va_K.moved hW.alike hK, hD⟩, hS.F ht⟩) hS.2.2 d_Y_compare_46
    · replace hF := hif_f c_11 hF
      refine lv_bipush (v := (-2 : Int32)) hx hb d_Y_compare_14 (by decide) ?_
      obtain rfl := Option.some.inj hF
      exact W.iret (v := (-2 : Int32)) hx hb hr (fun t ht hW => ⟨⟨(-2 : Int32), (), rfl, rfl, by rw [ht]; exact hP, va_K.moved hW.alike hK, hD⟩, hS.F ht⟩) hS.2.2 d_Y_compare_16
set_option maxHeartbeats 4000000 in
set_option maxRecDepth 100000 in
theorem c_Y_odd (l : Launch) (dC : Nat → ClassId) (dI : Nat → Nat → Nat) (h_Y : Nat) (h_O : Nat) (h_N : Nat) (h_B : Nat) (h_G : Nat) (h_K : Nat) (k_O : ClassId) (k_B : ClassId) (sz : Nat) (Y_lo : Int32) (Y_ie : Int32) (Y_ra : Int32) (Y_to : Int64) (Y_te : Int32) (Y_re : Int32) (O_f : Nat → Int64) (B_f : Nat → Int32) (a1 : Int32) (o : Int64) (hF : f_Y_odd O_f B_f a1 = some o) : Met l y_Y_odd w_Y_odd ({ frames := 1, cells := 0, slots := 0, locals := 20 } : Room) (va_Pc [.ref h_Y, .int a1] (fun U => U.heap.size = sz ∧ va_P (dC, dI) classes [cY h_Y h_O h_N h_B h_G h_K Y_lo Y_ie Y_ra Y_to Y_te Y_re, cL h_O k_O 8 O_f, cI h_B k_B 8 B_f] U.heap ∧ va_K (dC, dI) classes [(k_O, .long), (k_B, .boolean)] U ∧ va_D (fun _ => True) [cY h_Y h_O h_N h_B h_G h_K Y_lo Y_ie Y_ra Y_to Y_te Y_re, cL h_O k_O 8 O_f, cI h_B k_B 8 B_f])) (va_Ql (fun (r : Int64) (_ : Unit) => r = o) (fun (_ : Unit) (t : State) => va_P (dC, dI) classes [cY h_Y h_O h_N h_B h_G h_K Y_lo Y_ie Y_ra Y_to Y_te Y_re, cL h_O k_O 8 O_f, cI h_B k_B 8 B_f] t.heap ∧ va_K (dC, dI) classes [(k_O, .long), (k_B, .boolean)] t ∧ va_D (va_A [cY h_Y h_O h_N h_B h_G h_K Y_lo Y_ie Y_ra Y_to Y_te Y_re, cL h_O k_O 8 O_f, cI h_B k_B 8 B_f] sz) [cY h_Y h_O h_N h_B h_G h_K Y_lo Y_ie Y_ra Y_to Y_te Y_re, cL h_O k_O 8 O_f, cI h_B k_B 8 B_f]) (va_A [cY h_Y h_O h_N h_B h_G h_K Y_lo Y_ie Y_ra Y_to Y_te Y_re, cL h_O k_O 8 O_f, cI h_B k_B 8 B_f] sz)) 0 0 (va_A [cY h_Y h_O h_N h_B h_G h_K Y_lo Y_ie Y_ra Y_to Y_te Y_re, cL h_O k_O 8 O_f, cI h_B k_B 8 B_f] sz) := by
  refine Met.ofW (cc := prog_4_method_40_code) (maxL := 2) (ret := (some .long)) (by decide) rfl ?_
  intro p e s m args below meth c s₁ B hml hv
  obtain ⟨rfl, hsz, hP, hK, hD0⟩ := hv
  have hx := B.exec
  have hb := B.bytes
  have hr := B.returns
  have hts0 := atoms_spec (ws := w_Y_odd) B.pre
  have hts : ∀ w ∈ tb, w.before _ s = true := fun w h => hts0 w (List.mem_cons_of_mem _ h)
  clear hts0
  have hown : s.vm.findClass "RoundedNumbersModel" = some m.cls := findClass_of_methodNamed B.named
  have hlocks := B.notSynchronized
  subst hsz
  have hD := hD0.self (sz := s.heap.size)
  generalize hAe : va_A [cY h_Y h_O h_N h_B h_G h_K Y_lo Y_ie Y_ra Y_to Y_te Y_re, cL h_O k_O 8 O_f, cI h_B k_B 8 B_f] s.heap.size = A at hD ⊢
  have hA : ∀ q : Nat, s.heap.size ≤ q → A q := fun q h => by rw [← hAe]; exact Or.inr h
  clear hAe
  have hS : va_S A s.heap s.heap [] := va_S.rf
  have hP : va_P (dC, dI) classes [cY h_Y h_O h_N h_B h_G h_K Y_lo Y_ie Y_ra Y_to Y_te Y_re, cL h_O k_O 8 O_f, cI h_B k_B 8 B_f] s.heap := hP
  have hl := lv_entry ([.ref h_Y, .int a1]) (n := 2) (Nat.le_of_ble_eq_true rfl)
  rw [lg_entry_eq]
  generalize (lg_sl ([.ref h_Y, .int a1]) ++ List.replicate (2 - (lg_sl ([.ref h_Y, .int a1])).length) Slot.unset).toArray = ls at hl ⊢
  have hl : lv_has ls 2 [(0, .ref h_Y), (1, .int a1)] := hl
  unfold f_Y_odd at hF
  refine lv_iload_n hx hb d_Y_odd_0 rfl (lv_at hl 1 rfl) ?_
  obtain ⟨q_1, hC_1, hF⟩ := hbd hF
  have hPc := hP.sub (ws' := []) [] rfl
  have hDc := hD.sub (ws' := []) [] (by decide) rfl
  have hKc := hK.sub (tys' := []) [] rfl
  have hFc := va_free (wc := []) hD hS hA [] rfl
  refine va_calli (va_runS (As := [.int a1]) (rest := []) ⟨hx, hb, hml, hown, hts⟩ (c_Y_out l dC dI s.heap.size a1 q_1 hC_1) (cwS 1 hts g_Y_101_Y_out rfl rfl rfl (by decide +kernel) ⟨Nat.le_of_ble_eq_true rfl, Nat.le_of_ble_eq_true rfl⟩) ⟨fun a U g mk q => by obtain ⟨q0, q1, qP, qK, qD⟩ := q; exact ⟨q0, q1, qP, va_K.moved (u := U) (U := U.calling g mk a) (Vm.Alike.refl U.vm) qK, qD⟩, fun U hU hW => ⟨rfl, by rw [hU], by rw [hU]; exact hPc, va_K.moved hW.alike hKc, hDc.weaken (fun _ _ _ _ => trivial)⟩⟩ rfl rfl hl.1 rfl (lv_room (Nat.le_of_ble_eq_true rfl)) d_Y_odd_1 ⟨Nat.zero_le _, Nat.zero_le _⟩) hS (fun q _ h => hFc q h) hFc (fun r u t H1 locs ht hvm hw hB hz1 hk1 hS => ?_)
  obtain ⟨hP1, hK1, hD1⟩ := hB
  replace hw := hw.symm
  subst hw
  rw [ht] at hP1
  obtain ⟨hP, hD⟩ := va_join (wr := [cY h_Y h_O h_N h_B h_G h_K Y_lo Y_ie Y_ra Y_to Y_te Y_re, cL h_O k_O 8 O_f, cI h_B k_B 8 B_f]) (w1 := []) hP hD [] [0, 1, 2] rfl rfl (by decide) (by decide) hk1 hFc hP1 hD1
  generalize H1 = H at hP hS ⊢
  have hP := hP.sub (ws' := [cY h_Y h_O h_N h_B h_G h_K Y_lo Y_ie Y_ra Y_to Y_te Y_re, cL h_O k_O 8 O_f, cI h_B k_B 8 B_f]) [0, 1, 2] rfl
  have hD := hD.sub (ws' := [cY h_Y h_O h_N h_B h_G h_K Y_lo Y_ie Y_ra Y_to Y_te Y_re, cL h_O k_O 8 O_f, cI h_B k_B 8 B_f]) [0, 1, 2] (by decide) rfl
  refine lv_if_eq (tgt := 11) hx hb d_Y_odd_4 (by decide) (fun c_4 => ?_) (fun c_4 => ?_)
  · replace hF := hif_t c_4 hF
    refine lv_aload_n hx hb d_Y_odd_11 rfl (lv_at hl 0 rfl) ?_
    refine va_get (D := (dC, dI)) (ci := 2) (v := .ref h_B) (C := "RoundedNumbersModel") (T := F_Y) (N := 11) hx hb hts in_Y hown hK hP 0 rfl rfl 2 (by decide) (hts _ tw_316) (fun _ h9 => h9) rfl d_Y_odd_12 ?_
    refine lv_iload_n hx hb d_Y_odd_15 rfl (lv_at hl 1 rfl) ?_
    have c_16 : ¬ (a1 < 0 ∨ 8 ≤ a1.toNatClampNeg) := hif_n hF
    replace hF := hif_f c_16 hF
    refine va_zald hx hb hK hP 2 1 rfl rfl c_16 d_Y_odd_16 ?_
    refine lv_if_eq (tgt := 30) hx hb d_Y_odd_17 (by decide) (fun c_17 => ?_) (fun c_17 => ?_)
    · replace hF := hif_t c_17 hF
      refine lv_aload_n hx hb d_Y_odd_30 rfl (lv_at hl 0 rfl) ?_
      refine va_get (D := (dC, dI)) (ci := 2) (v := .ref h_O) (C := "RoundedNumbersModel") (T := F_Y) (N := 11) hx hb hts in_Y hown hK hP 0 rfl rfl 0 (by decide) (hts _ tw_314) (fun _ h9 => h9) rfl d_Y_odd_31 ?_
      refine lv_iload_n hx hb d_Y_odd_34 rfl (lv_at hl 1 rfl) ?_
      have c_35 : ¬ (a1 < 0 ∨ 8 ≤ a1.toNatClampNeg) := hif_n hF
      replace hF := hif_f c_35 hF
      refine va_lald hx hb hK hP 1 0 rfl rfl c_35 d_Y_odd_35 ?_
      obtain rfl := Option.some.inj hF
      exact W.lret (v := (O_f a1.toNatClampNeg)) hx hb hr (fun t ht hW => ⟨⟨(O_f a1.toNatClampNeg), (), rfl, rfl, by rw [ht]; exact hP, va_K.moved hW.alike hK, hD⟩, hS.F ht⟩) hS.2.2 d_Y_odd_36
    · replace hF := hif_f c_17 hF
      refine lv_aload_n hx hb d_Y_odd_20 rfl (lv_at hl 0 rfl) ?_
      refine va_get (D := (dC, dI)) (ci := 2) (v := .ref h_O) (C := "RoundedNumbersModel") (T := F_Y) (N := 11) hx hb hts in_Y hown hK hP 0 rfl rfl 0 (by decide) (hts _ tw_314) (fun _ h9 => h9) rfl d_Y_odd_21 ?_
      refine lv_iload_n hx hb d_Y_odd_24 rfl (lv_at hl 1 rfl) ?_
      have c_25 : ¬ (a1 < 0 ∨ 8 ≤ a1.toNatClampNeg) := hif_n hF
      replace hF := hif_f c_25 hF
      refine va_lald hx hb hK hP 1 0 rfl rfl c_25 d_Y_odd_25 ?_
      refine lv_lneg hx hb d_Y_odd_26 ?_
      refine lv_goto (tgt := 36) hx hb d_Y_odd_27 (by decide) ?_
      obtain rfl := Option.some.inj hF
      exact W.lret (v := (-(O_f a1.toNatClampNeg))) hx hb hr (fun t ht hW => ⟨⟨(-(O_f a1.toNatClampNeg)), (), rfl, rfl, by rw [ht]; exact hP, va_K.moved hW.alike hK, hD⟩, hS.F ht⟩) hS.2.2 d_Y_odd_36
  · replace hF := hif_f c_4 hF
    refine lv_ldc2 (v := (-4611686018427387904 : Int64)) hx hb hown (hts _ tw_504) d_Y_odd_7 ?_
    obtain rfl := Option.some.inj hF
    exact W.lret (v := (-4611686018427387904 : Int64)) hx hb hr (fun t ht hW => ⟨⟨(-4611686018427387904 : Int64), (), rfl, rfl, by rw [ht]; exact hP, va_K.moved hW.alike hK, hD⟩, hS.F ht⟩) hS.2.2 d_Y_odd_10
set_option maxHeartbeats 4000000 in
set_option maxRecDepth 100000 in
theorem c_Y_exponent (l : Launch) (dC : Nat → ClassId) (dI : Nat → Nat → Nat) (h_Y : Nat) (h_O : Nat) (h_N : Nat) (h_B : Nat) (h_G : Nat) (h_K : Nat) (k_N : ClassId) (sz : Nat) (Y_lo : Int32) (Y_ie : Int32) (Y_ra : Int32) (Y_to : Int64) (Y_te : Int32) (Y_re : Int32) (N_f : Nat → Int32) (a1 : Int32) (o : Int64) (hF : f_Y_exponent N_f a1 = some o) : Met l y_Y_exponent w_Y_exponent ({ frames := 1, cells := 0, slots := 0, locals := 20 } : Room) (va_Pc [.ref h_Y, .int a1] (fun U => U.heap.size = sz ∧ va_P (dC, dI) classes [cY h_Y h_O h_N h_B h_G h_K Y_lo Y_ie Y_ra Y_to Y_te Y_re, cI h_N k_N 8 N_f] U.heap ∧ va_K (dC, dI) classes [(k_N, .int)] U ∧ va_D (fun _ => True) [cY h_Y h_O h_N h_B h_G h_K Y_lo Y_ie Y_ra Y_to Y_te Y_re, cI h_N k_N 8 N_f])) (va_Ql (fun (r : Int64) (_ : Unit) => r = o) (fun (_ : Unit) (t : State) => va_P (dC, dI) classes [cY h_Y h_O h_N h_B h_G h_K Y_lo Y_ie Y_ra Y_to Y_te Y_re, cI h_N k_N 8 N_f] t.heap ∧ va_K (dC, dI) classes [(k_N, .int)] t ∧ va_D (va_A [cY h_Y h_O h_N h_B h_G h_K Y_lo Y_ie Y_ra Y_to Y_te Y_re, cI h_N k_N 8 N_f] sz) [cY h_Y h_O h_N h_B h_G h_K Y_lo Y_ie Y_ra Y_to Y_te Y_re, cI h_N k_N 8 N_f]) (va_A [cY h_Y h_O h_N h_B h_G h_K Y_lo Y_ie Y_ra Y_to Y_te Y_re, cI h_N k_N 8 N_f] sz)) 0 0 (va_A [cY h_Y h_O h_N h_B h_G h_K Y_lo Y_ie Y_ra Y_to Y_te Y_re, cI h_N k_N 8 N_f] sz) := by
  refine Met.ofW (cc := prog_4_method_41_code) (maxL := 2) (ret := (some .long)) (by decide) rfl ?_
  intro p e s m args below meth c s₁ B hml hv
  obtain ⟨rfl, hsz, hP, hK, hD0⟩ := hv
  have hx := B.exec
  have hb := B.bytes
  have hr := B.returns
  have hts0 := atoms_spec (ws := w_Y_exponent) B.pre
  have hts : ∀ w ∈ tb, w.before _ s = true := fun w h => hts0 w (List.mem_cons_of_mem _ h)
  clear hts0
  have hown : s.vm.findClass "RoundedNumbersModel" = some m.cls := findClass_of_methodNamed B.named
  have hlocks := B.notSynchronized
  subst hsz
  have hD := hD0.self (sz := s.heap.size)
  generalize hAe : va_A [cY h_Y h_O h_N h_B h_G h_K Y_lo Y_ie Y_ra Y_to Y_te Y_re, cI h_N k_N 8 N_f] s.heap.size = A at hD ⊢
  have hA : ∀ q : Nat, s.heap.size ≤ q → A q := fun q h => by rw [← hAe]; exact Or.inr h
  clear hAe
  have hS : va_S A s.heap s.heap [] := va_S.rf
  have hP : va_P (dC, dI) classes [cY h_Y h_O h_N h_B h_G h_K Y_lo Y_ie Y_ra Y_to Y_te Y_re, cI h_N k_N 8 N_f] s.heap := hP
  have hl := lv_entry ([.ref h_Y, .int a1]) (n := 2) (Nat.le_of_ble_eq_true rfl)
  rw [lg_entry_eq]
  generalize (lg_sl ([.ref h_Y, .int a1]) ++ List.replicate (2 - (lg_sl ([.ref h_Y, .int a1])).length) Slot.unset).toArray = ls at hl ⊢
  have hl : lv_has ls 2 [(0, .ref h_Y), (1, .int a1)] := hl
  unfold f_Y_exponent at hF
  refine lv_iload_n hx hb d_Y_exponent_0 rfl (lv_at hl 1 rfl) ?_
  obtain ⟨q_1, hC_1, hF⟩ := hbd hF
  have hPc := hP.sub (ws' := []) [] rfl
  have hDc := hD.sub (ws' := []) [] (by decide) rfl
  have hKc := hK.sub (tys' := []) [] rfl
  have hFc := va_free (wc := []) hD hS hA [] rfl
  refine va_calli (va_runS (As := [.int a1]) (rest := []) ⟨hx, hb, hml, hown, hts⟩ (c_Y_out l dC dI s.heap.size a1 q_1 hC_1) (cwS 1 hts g_Y_101_Y_out rfl rfl rfl (by decide +kernel) ⟨Nat.le_of_ble_eq_true rfl, Nat.le_of_ble_eq_true rfl⟩) ⟨fun a U g mk q => by obtain ⟨q0, q1, qP, qK, qD⟩ := q; exact ⟨q0, q1, qP, va_K.moved (u := U) (U := U.calling g mk a) (Vm.Alike.refl U.vm) qK, qD⟩, fun U hU hW => ⟨rfl, by rw [hU], by rw [hU]; exact hPc, va_K.moved hW.alike hKc, hDc.weaken (fun _ _ _ _ => trivial)⟩⟩ rfl rfl hl.1 rfl (lv_room (Nat.le_of_ble_eq_true rfl)) d_Y_exponent_1 ⟨Nat.zero_le _, Nat.zero_le _⟩) hS (fun q _ h => hFc q h) hFc (fun r u t H1 locs ht hvm hw hB hz1 hk1 hS => ?_)
  obtain ⟨hP1, hK1, hD1⟩ := hB
  replace hw := hw.symm
  subst hw
  rw [ht] at hP1
  obtain ⟨hP, hD⟩ := va_join (wr := [cY h_Y h_O h_N h_B h_G h_K Y_lo Y_ie Y_ra Y_to Y_te Y_re, cI h_N k_N 8 N_f]) (w1 := []) hP hD [] [0, 1] rfl rfl (by decide) (by decide) hk1 hFc hP1 hD1
  generalize H1 = H at hP hS ⊢
  have hP := hP.sub (ws' := [cY h_Y h_O h_N h_B h_G h_K Y_lo Y_ie Y_ra Y_to Y_te Y_re, cI h_N k_N 8 N_f]) [0, 1] rfl
  have hD := hD.sub (ws' := [cY h_Y h_O h_N h_B h_G h_K Y_lo Y_ie Y_ra Y_to Y_te Y_re, cI h_N k_N 8 N_f]) [0, 1] (by decide) rfl
  refine lv_if_eq (tgt := 13) hx hb d_Y_exponent_4 (by decide) (fun c_4 => ?_) (fun c_4 => ?_)
  · replace hF := hif_t c_4 hF
    refine lv_aload_n hx hb d_Y_exponent_13 rfl (lv_at hl 0 rfl) ?_
    refine va_get (D := (dC, dI)) (ci := 2) (v := .ref h_N) (C := "RoundedNumbersModel") (T := F_Y) (N := 11) hx hb hts in_Y hown hK hP 0 rfl rfl 1 (by decide) (hts _ tw_315) (fun _ h9 => h9) rfl d_Y_exponent_14 ?_
    refine lv_iload_n hx hb d_Y_exponent_17 rfl (lv_at hl 1 rfl) ?_
    have c_18 : ¬ (a1 < 0 ∨ 8 ≤ a1.toNatClampNeg) := hif_n hF
    replace hF := hif_f c_18 hF
    refine va_iald hx hb hK hP 1 0 rfl rfl c_18 d_Y_exponent_18 ?_
    refine lv_i2l (v := (N_f a1.toNatClampNeg).toInt64) hx hb d_Y_exponent_19 rfl ?_
    obtain rfl := Option.some.inj hF
    exact W.lret (v := (N_f a1.toNatClampNeg).toInt64) hx hb hr (fun t ht hW => ⟨⟨(N_f a1.toNatClampNeg).toInt64, (), rfl, rfl, by rw [ht]; exact hP, va_K.moved hW.alike hK, hD⟩, hS.F ht⟩) hS.2.2 d_Y_exponent_20
  · replace hF := hif_f c_4 hF
    refine lv_ldc2 (v := (-4611686018427387904 : Int64)) hx hb hown (hts _ tw_504) d_Y_exponent_7 ?_
    refine lv_goto (tgt := 20) hx hb d_Y_exponent_10 (by decide) ?_
    obtain rfl := Option.some.inj hF
    exact W.lret (v := (-4611686018427387904 : Int64)) hx hb hr (fun t ht hW => ⟨⟨(-4611686018427387904 : Int64), (), rfl, rfl, by rw [ht]; exact hP, va_K.moved hW.alike hK, hD⟩, hS.F ht⟩) hS.2.2 d_Y_exponent_20
