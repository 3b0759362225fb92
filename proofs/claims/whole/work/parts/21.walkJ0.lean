set_option maxHeartbeats 4000000 in
set_option maxRecDepth 100000 in
theorem c_J_signum (l : Launch) (dC : Nat → ClassId) (dI : Nat → Nat → Nat) (sz : Nat) (a0 : Int64) (o : Int32) (hF : f_J_signum a0 = some o) : Met l y_JL_signum w_JL_signum ({ frames := 0, cells := 0, slots := 0, locals := 0 } : Room) (va_Pc [.long a0] (fun U => U.heap.size = sz ∧ va_P (dC, dI) classes [] U.heap ∧ va_K (dC, dI) classes [] U ∧ va_D (fun _ => True) [])) (va_Qi (fun (r : Int32) (_ : Unit) => r = o) (fun (_ : Unit) (t : State) => va_P (dC, dI) classes [] t.heap ∧ va_K (dC, dI) classes [] t ∧ va_D (va_A [] sz) []) (va_A [] sz)) 0 0 (va_A [] sz) := by
  refine Met.ofW (cc := prog_6_method_57_code) (maxL := 2) (ret := (some .int)) (by decide) rfl ?_
  intro p e s m args below meth c s₁ B hml hv
  obtain ⟨rfl, hsz, hP, hK, hD0⟩ := hv
  have hx := B.exec
  have hb := B.bytes
  have hr := B.returns
  have hts0 := atoms_spec (ws := w_JL_signum) B.pre
  have hts : ∀ w ∈ tb, w.before _ s = true := fun w h => hts0 w (List.mem_cons_of_mem _ h)
  clear hts0
  have hown : s.vm.findClass "java/lang/Long" = some m.cls := findClass_of_methodNamed B.named
  have hlocks := B.notSynchronized
  subst hsz
  have hD := hD0.self (sz := s.heap.size)
  generalize hAe : va_A [] s.heap.size = A at hD ⊢
  have hA : ∀ q : Nat, s.heap.size ≤ q → A q := fun q h => by rw [← hAe]; exact Or.inr h
  clear hAe
  have hS : va_S A s.heap s.heap [] := va_S.rf
  have hP : va_P (dC, dI) classes [] s.heap := hP
  have hl := lv_entry ([.long a0]) (n := 2) (Nat.le_of_ble_eq_true rfl)
  rw [lg_entry_eq]
  generalize (lg_sl ([.long a0]) ++ List.replicate (2 - (lg_sl ([.long a0])).length) Slot.unset).toArray = ls at hl ⊢
  have hl : lv_has ls 2 [(0, .long a0)] := hl
  unfold f_J_signum at hF
  refine lv_lload_n hx hb d_JL_signum_0 rfl (lv_at hl 0 rfl) ?_
  refine lv_bipush (v := (63 : Int32)) hx hb d_JL_signum_1 (by decide) ?_
  refine lv_lshr (v := (jshr a0 (63 : Int32))) hx hb d_JL_signum_3 rfl ?_
  refine lv_lload_n hx hb d_JL_signum_4 rfl (lv_at hl 0 rfl) ?_
  refine lv_lneg hx hb d_JL_signum_5 ?_
  refine lv_bipush (v := (63 : Int32)) hx hb d_JL_signum_6 (by decide) ?_
  refine lv_lushr (v := (jushr (-a0) (63 : Int32))) hx hb d_JL_signum_8 rfl ?_
  refine lv_lor hx hb d_JL_signum_9 ?_
  refine lv_l2i (v := ((jshr a0 (63 : Int32)) ||| (jushr (-a0) (63 : Int32))).toInt32) hx hb d_JL_signum_10 rfl ?_
  obtain rfl := Option.some.inj hF
  exact W.iret (v := ((jshr a0 (63 : Int32)) ||| (jushr (-a0) (63 : Int32))).toInt32) hx hb hr (fun t ht hW => ⟨⟨((jshr a0 (63 : Int32)) ||| (jushr (-a0) (63 : Int32))).toInt32, (), rfl, rfl, by rw [ht]; exact hP, va_K.moved hW.alike hK, hD⟩, hS.F ht⟩) hS.2.2 d_JL_signum_11
set_option maxHeartbeats 4000000 in
set_option maxRecDepth 100000 in
theorem c_J_nlzi (l : Launch) (dC : Nat → ClassId) (dI : Nat → Nat → Nat) (sz : Nat) (a0 : Int32) (o : Int32) (hF : f_J_nlzi a0 = some o) : Met l y_JI_numberOfLeadingZeros w_JI_numberOfLeadingZeros ({ frames := 0, cells := 0, slots := 0, locals := 0 } : Room) (va_Pc [.int a0] (fun U => U.heap.size = sz ∧ va_P (dC, dI) classes [] U.heap ∧ va_K (dC, dI) classes [] U ∧ va_D (fun _ => True) [])) (va_Qi (fun (r : Int32) (_ : Unit) => r = o) (fun (_ : Unit) (t : State) => va_P (dC, dI) classes [] t.heap ∧ va_K (dC, dI) classes [] t ∧ va_D (va_A [] sz) []) (va_A [] sz)) 0 0 (va_A [] sz) := by
  refine Met.ofW (cc := prog_5_method_47_code) (maxL := 2) (ret := (some .int)) (by decide) rfl ?_
  intro p e s m args below meth c s₁ B hml hv
  obtain ⟨rfl, hsz, hP, hK, hD0⟩ := hv
  have hx := B.exec
  have hb := B.bytes
  have hr := B.returns
  have hts0 := atoms_spec (ws := w_JI_numberOfLeadingZeros) B.pre
  have hts : ∀ w ∈ tb, w.before _ s = true := fun w h => hts0 w (List.mem_cons_of_mem _ h)
  clear hts0
  have hown : s.vm.findClass "java/lang/Integer" = some m.cls := findClass_of_methodNamed B.named
  have hlocks := B.notSynchronized
  subst hsz
  have hD := hD0.self (sz := s.heap.size)
  generalize hAe : va_A [] s.heap.size = A at hD ⊢
  have hA : ∀ q : Nat, s.heap.size ≤ q → A q := fun q h => by rw [← hAe]; exact Or.inr h
  clear hAe
  have hS : va_S A s.heap s.heap [] := va_S.rf
  have hP : va_P (dC, dI) classes [] s.heap := hP
  have hl := lv_entry ([.int a0]) (n := 2) (Nat.le_of_ble_eq_true rfl)
  rw [lg_entry_eq]
  generalize (lg_sl ([.int a0]) ++ List.replicate (2 - (lg_sl ([.int a0])).length) Slot.unset).toArray = ls at hl ⊢
  have hl : lv_has ls 2 [(0, .int a0)] := hl
  have b_61 : ∀ (x0 : Int32) (x1 : Int32) (H : Heap) (locs : List Loc) (ls : Array Slot), va_P (dC, dI) classes [] H → va_D A [] → va_S A s.heap H locs → lv_has ls 2 [(0, .int x0), (1, .int x1)] → f_J_nlzi_61  x0 x1 = some o → W p l e (headSpec w_JI_numberOfLeadingZeros ({ frames := 0, cells := 0, slots := 0, locals := 0 } : Room)).room s m ([.int a0] : List Value).toArray below meth c H locs 0 0 (MQ below (va_Qi (fun (r : Int32) (_ : Unit) => r = o) (fun (_ : Unit) (t : State) => va_P (dC, dI) classes [] t.heap ∧ va_K (dC, dI) classes [] t ∧ va_D A []) A) ([.int a0] : List Value).toArray s 0 0 A) (F0 m 61 ls []) := by
    intro x0 x1 H locs ls hP hD hS hl hF
    unfold f_J_nlzi_61 at hF
    refine lv_iload_n hx hb d_JI_numberOfLeadingZeros_61 rfl (lv_at hl 0 rfl) ?_
    refine lv_iconst (v := (4 : Int32)) hx hb d_JI_numberOfLeadingZeros_62 (by decide) ?_
    refine lv_icmp_lt (tgt := 73) hx hb d_JI_numberOfLeadingZeros_63 (by decide) (fun c_63 => ?_) (fun c_63 => ?_)
    · replace hF := hif_t c_63 hF
      refine lv_iload_n hx hb d_JI_numberOfLeadingZeros_73 rfl (lv_at hl 1 rfl) ?_
      refine lv_iload_n hx hb d_JI_numberOfLeadingZeros_74 rfl (lv_at hl 0 rfl) ?_
      refine lv_iconst (v := (1 : Int32)) hx hb d_JI_numberOfLeadingZeros_75 (by decide) ?_
      refine lv_iushr (v := (jiushr x0 (1 : Int32))) hx hb d_JI_numberOfLeadingZeros_76 rfl ?_
      refine lv_isub hx hb d_JI_numberOfLeadingZeros_77 ?_
      obtain rfl := Option.some.inj hF
      exact W.iret (v := (x1 - (jiushr x0 (1 : Int32)))) hx hb hr (fun t ht hW => ⟨⟨(x1 - (jiushr x0 (1 : Int32))), (), rfl, rfl, by rw [ht]; exact hP, va_K.moved hW.alike hK, hD⟩, hS.F ht⟩) hS.2.2 d_JI_numberOfLeadingZeros_78
    · replace hF := hif_f c_63 hF
      refine lv_iinc (v := (x1 + (-2 : Int32))) (lv' := [(1, .int (x1 + (-2 : Int32))), (0, .int x0)]) hx hb d_JI_numberOfLeadingZeros_66 hl (k := 1) rfl rfl (by decide) rfl (fun ls hl => ?_)
      refine lv_iload_n hx hb d_JI_numberOfLeadingZeros_69 rfl (lv_at hl 1 rfl) ?_
      refine lv_iconst (v := (2 : Int32)) hx hb d_JI_numberOfLeadingZeros_70 (by decide) ?_
      refine lv_iushr (v := (jiushr x0 (2 : Int32))) hx hb d_JI_numberOfLeadingZeros_71 rfl ?_
      refine lv_istore_n (lv' := [(0, .int (jiushr x0 (2 : Int32))), (1, .int (x1 + (-2 : Int32)))]) hx hb d_JI_numberOfLeadingZeros_72 rfl hl (by decide) rfl (fun ls hl => ?_)
      refine lv_iload_n hx hb d_JI_numberOfLeadingZeros_73 rfl (lv_at hl 1 rfl) ?_
      refine lv_iload_n hx hb d_JI_numberOfLeadingZeros_74 rfl (lv_at hl 0 rfl) ?_
      refine lv_iconst (v := (1 : Int32)) hx hb d_JI_numberOfLeadingZeros_75 (by decide) ?_
      refine lv_iushr (v := (jiushr (jiushr x0 (2 : Int32)) (1 : Int32))) hx hb d_JI_numberOfLeadingZeros_76 rfl ?_
      refine lv_isub hx hb d_JI_numberOfLeadingZeros_77 ?_
      obtain rfl := Option.some.inj hF
      exact W.iret (v := ((x1 + (-2 : Int32)) - (jiushr (jiushr x0 (2 : Int32)) (1 : Int32)))) hx hb hr (fun t ht hW => ⟨⟨((x1 + (-2 : Int32)) - (jiushr (jiushr x0 (2 : Int32)) (1 : Int32))), (), rfl, rfl, by rw [ht]; exact hP, va_K.moved hW.alike hK, hD⟩, hS.F ht⟩) hS.2.2 d_JI_numberOfLeadingZeros_78
  have b_48 : ∀ (x0 : Int32) (x1 : Int32) (H : Heap) (locs : List Loc) (ls : Array Slot), va_P (dC, dI) classes [] H → va_D A [] → va_S A s.heap H locs → lv_has ls 2 [(0, .int x0), (1, .int x1)] → f_J_nlzi_48  x0 x1 = some o → W p l e (headSpec w_JI_numberOfLeadingZeros ({ frames := 0, cells := 0, slots := 0, locals := 0 } : Room)).room s m ([.int a0] : List Value).toArray below meth c H locs 0 0 (MQ below (va_Qi (fun (r : Int32) (_ : Unit) => r = o) (fun (_ : Unit) (t : State) => va_P (dC, dI) classes [] t.heap ∧ va_K (dC, dI) classes [] t ∧ va_D A []) A) ([.int a0] : List Value).toArray s 0 0 A) (F0 m 48 ls []) := by
    intro x0 x1 H locs ls hP hD hS hl hF
    unfold f_J_nlzi_48 at hF
    refine lv_iload_n hx hb d_JI_numberOfLeadingZeros_48 rfl (lv_at hl 0 rfl) ?_
    refine lv_bipush (v := (16 : Int32)) hx hb d_JI_numberOfLeadingZeros_49 (by decide) ?_
    refine lv_icmp_lt (tgt := 61) hx hb d_JI_numberOfLeadingZeros_51 (by decide) (fun c_51 => ?_) (fun c_51 => ?_)
    · replace hF := hif_t c_51 hF
      exact b_61 x0 x1 _ _ _ hP hD hS (lv_sub hl [0, 1] rfl) hF
    · replace hF := hif_f c_51 hF
      refine lv_iinc (v := (x1 + (-4 : Int32))) (lv' := [(1, .int (x1 + (-4 : Int32))), (0, .int x0)]) hx hb d_JI_numberOfLeadingZeros_54 hl (k := 1) rfl rfl (by decide) rfl (fun ls hl => ?_)
      refine lv_iload_n hx hb d_JI_numberOfLeadingZeros_57 rfl (lv_at hl 1 rfl) ?_
      refine lv_iconst (v := (4 : Int32)) hx hb d_JI_numberOfLeadingZeros_58 (by decide) ?_
      refine lv_iushr (v := (jiushr x0 (4 : Int32))) hx hb d_JI_numberOfLeadingZeros_59 rfl ?_
      refine lv_istore_n (lv' := [(0, .int (jiushr x0 (4 : Int32))), (1, .int (x1 + (-4 : Int32)))]) hx hb d_JI_numberOfLeadingZeros_60 rfl hl (by decide) rfl (fun ls hl => ?_)
      exact b_61 (jiushr x0 (4 : Int32)) (x1 + (-4 : Int32)) _ _ _ hP hD hS (lv_sub hl [0, 1] rfl) hF
  have b_33 : ∀ (x0 : Int32) (x1 : Int32) (H : Heap) (locs : List Loc) (ls : Array Slot), va_P (dC, dI) classes [] H → va_D A [] → va_S A s.heap H locs → lv_has ls 2 [(0, .int x0), (1, .int x1)] → f_J_nlzi_33  x0 x1 = some o → W p l e (headSpec w_JI_numberOfLeadingZeros ({ frames := 0, cells := 0, slots := 0, locals := 0 } : Room)).room s m ([.int a0] : List Value).toArray below meth c H locs 0 0 (MQ below (va_Qi (fun (r : Int32) (_ : Unit) => r = o) (fun (_ : Unit) (t : State) => va_P (dC, dI) classes [] t.heap ∧ va_K (dC, dI) classes [] t ∧ va_D A []) A) ([.int a0] : List Value).toArray s 0 0 A) (F0 m 33 ls []) := by
    intro x0 x1 H locs ls hP hD hS hl hF
    unfold f_J_nlzi_33 at hF
    refine lv_iload_n hx hb d_JI_numberOfLeadingZeros_33 rfl (lv_at hl 0 rfl) ?_
    refine lv_sipush (v := (256 : Int32)) hx hb d_JI_numberOfLeadingZeros_34 (by decide) ?_
    refine lv_icmp_lt (tgt := 48) hx hb d_JI_numberOfLeadingZeros_37 (by decide) (fun c_37 => ?_) (fun c_37 => ?_)
    · replace hF := hif_t c_37 hF
      exact b_48 x0 x1 _ _ _ hP hD hS (lv_sub hl [0, 1] rfl) hF
    · replace hF := hif_f c_37 hF
      refine lv_iinc (v := (x1 + (-8 : Int32))) (lv' := [(1, .int (x1 + (-8 : Int32))), (0, .int x0)]) hx hb d_JI_numberOfLeadingZeros_40 hl (k := 1) rfl rfl (by decide) rfl (fun ls hl => ?_)
      refine lv_iload_n hx hb d_JI_numberOfLeadingZeros_43 rfl (lv_at hl 1 rfl) ?_
      refine lv_bipush (v := (8 : Int32)) hx hb d_JI_numberOfLeadingZeros_44 (by decide) ?_
      refine lv_iushr (v := (jiushr x0 (8 : Int32))) hx hb d_JI_numberOfLeadingZeros_46 rfl ?_
      refine lv_istore_n (lv' := [(0, .int (jiushr x0 (8 : Int32))), (1, .int (x1 + (-8 : Int32)))]) hx hb d_JI_numberOfLeadingZeros_47 rfl hl (by decide) rfl (fun ls hl => ?_)
      exact b_48 (jiushr x0 (8 : Int32)) (x1 + (-8 : Int32)) _ _ _ hP hD hS (lv_sub hl [0, 1] rfl) hF
  unfold f_J_nlzi at hF
  refine lv_iload_n hx hb d_JI_numberOfLeadingZeros_0 rfl (lv_at hl 0 rfl) ?_
  refine lv_if_gt (tgt := 15) hx hb d_JI_numberOfLeadingZeros_1 (by decide) (fun c_1 => ?_) (fun c_1 => ?_)
  · replace hF := hif_t c_1 hF
    refine lv_bipush (v := (31 : Int32)) hx hb d_JI_numberOfLeadingZeros_15 (by decide) ?_
    refine lv_istore_n (lv' := [(1, .int (31 : Int32)), (0, .int a0)]) hx hb d_JI_numberOfLeadingZeros_17 rfl hl (by decide) rfl (fun ls hl => ?_)
    refine lv_iload_n hx hb d_JI_numberOfLeadingZeros_18 rfl (lv_at hl 1 rfl) ?_
    refine lv_ldcw (v := (65536 : Int32)) hx hb hown (hts _ tw_92) d_JI_numberOfLeadingZeros_19 ?_
    refine lv_icmp_lt (tgt := 33) hx hb d_JI_numberOfLeadingZeros_22 (by decide) (fun c_22 => ?_) (fun c_22 => ?_)
    · replace hF := hif_t c_22 hF
      exact b_33 a0 (31 : Int32) _ _ _ hP hD hS (lv_sub hl [1, 0] rfl) hF
    · replace hF := hif_f c_22 hF
      refine lv_iinc (v := ((31 : Int32) + (-16 : Int32))) (lv' := [(1, .int ((31 : Int32) + (-16 : Int32))), (0, .int a0)]) hx hb d_JI_numberOfLeadingZeros_25 hl (k := 0) rfl rfl (by decide) rfl (fun ls hl => ?_)
      refine lv_iload_n hx hb d_JI_numberOfLeadingZeros_28 rfl (lv_at hl 1 rfl) ?_
      refine lv_bipush (v := (16 : Int32)) hx hb d_JI_numberOfLeadingZeros_29 (by decide) ?_
      refine lv_iushr (v := (jiushr a0 (16 : Int32))) hx hb d_JI_numberOfLeadingZeros_31 rfl ?_
      refine lv_istore_n (lv' := [(0, .int (jiushr a0 (16 : Int32))), (1, .int ((31 : Int32) + (-16 : Int32)))]) hx hb d_JI_numberOfLeadingZeros_32 rfl hl (by decide) rfl (fun ls hl => ?_)
      exact b_33 (jiushr a0 (16 : Int32)) ((31 : Int32) + (-16 : Int32)) _ _ _ hP hD hS (lv_sub hl [0, 1] rfl) hF
  · replace hF := hif_f c_1 hF
    refine lv_iload_n hx hb d_JI_numberOfLeadingZeros_4 rfl (lv_at hl 0 rfl) ?_
    refine lv_if_ne (tgt := 13) hx hb d_JI_numberOfLeadingZeros_5 (by decide) (fun c_5 => ?_) (fun c_5 => ?_)
    · replace hF := hif_f c_5 hF
      refine lv_iconst (v := (0 : Int32)) hx hb d_JI_numberOfLeadingZeros_13 (by decide) ?_
      obtain rfl := Option.some.inj hF
      exact W.iret (v := (0 : Int32)) hx hb hr (fun t ht hW => ⟨⟨(0 : Int32), (), rfl, rfl, by rw [ht]; exact hP, va_K.moved hW.alike hK, hD⟩, hS.F ht⟩) hS.2.2 d_JI_numberOfLeadingZeros_14
    · replace hF := hif_t c_5 hF
      refine lv_bipush (v := (32 : Int32)) hx hb d_JI_numberOfLeadingZeros_8 (by decide) ?_
      refine lv_goto (tgt := 14) hx hb d_JI_numberOfLeadingZeros_10 (by decide) ?_
      obtain rfl := Option.some.inj hF
      exact W.iret (v := (32 : Int32)) hx hb hr (fun t ht hW => ⟨⟨(32 : Int32), (), rfl, rfl, by rw [ht]; exact hP, va_K.moved hW.alike hK, hD⟩, hS.F ht⟩) hS.2.2 d_JI_numberOfLeadingZeros_14
set_option maxHeartbeats 4000000 in
set_option maxRecDepth 100000 in
theorem c_J_nlz (l : Launch) (dC : Nat → ClassId) (dI : Nat → Nat → Nat) (sz : Nat) (a0 : Int64) (o : Int32) (hF : f_J_nlz a0 = some o) : Met l y_JL_numberOfLeadingZeros w_JL_numberOfLeadingZeros ({ frames := 1, cells := 0, slots := 0, locals := 21 } : Room) (va_Pc [.long a0] (fun U => U.heap.size = sz ∧ va_P (dC, dI) classes [] U.heap ∧ va_K (dC, dI) classes [] U ∧ va_D (fun _ => True) [])) (va_Qi (fun (r : Int32) (_ : Unit) => r = o) (fun (_ : Unit) (t : State) => va_P (dC, dI) classes [] t.heap ∧ va_K (dC, dI) classes [] t ∧ va_D (va_A [] sz) []) (va_A [] sz)) 0 0 (va_A [] sz) := by
  refine Met.ofW (cc := prog_6_method_48_code) (maxL := 3) (ret := (some .int)) (by decide) rfl ?_
  intro p e s m args below meth c s₁ B hml hv
  obtain ⟨rfl, hsz, hP, hK, hD0⟩ := hv
  have hx := B.exec
  have hb := B.bytes
  have hr := B.returns
  have hts0 := atoms_spec (ws := w_JL_numberOfLeadingZeros) B.pre
  have hts : ∀ w ∈ tb, w.before _ s = true := fun w h => hts0 w (List.mem_cons_of_mem _ h)
  clear hts0
  have hown : s.vm.findClass "java/lang/Long" = some m.cls := findClass_of_methodNamed B.named
  have hlocks := B.notSynchronized
  subst hsz
  have hD := hD0.self (sz := s.heap.size)
  generalize hAe : va_A [] s.heap.size = A at hD ⊢
  have hA : ∀ q : Nat, s.heap.size ≤ q → A q := fun q h => by rw [← hAe]; exact Or.inr h
  clear hAe
  have hS : va_S A s.heap s.heap [] := va_S.rf
  have hP : va_P (dC, dI) classes [] s.heap := hP
  have hl := lv_entry ([.long a0]) (n := 3) (Nat.le_of_ble_eq_true rfl)
  rw [lg_entry_eq]
  generalize (lg_sl ([.long a0]) ++ List.replicate (3 - (lg_sl ([.long a0])).length) Slot.unset).toArray = ls at hl ⊢
  have hl : lv_has ls 3 [(0, .long a0)] := hl
  unfold f_J_nlz at hF
  refine lv_lload_n hx hb d_JL_numberOfLeadingZeros_0 rfl (lv_at hl 0 rfl) ?_
  refine lv_bipush (v := (32 : Int32)) hx hb d_JL_numberOfLeadingZeros_1 (by decide) ?_
  refine lv_lushr (v := (jushr a0 (32 : Int32))) hx hb d_JL_numberOfLeadingZeros_3 rfl ?_
  refine lv_l2i (v := (jushr a0 (32 : Int32)).toInt32) hx hb d_JL_numberOfLeadingZeros_4 rfl ?_
  refine lv_istore_n (lv' := [(2, .int ((jushr a0 (32 : Int32)).toInt32)), (0, .long a0)]) hx hb d_JL_numberOfLeadingZeros_5 rfl hl (by decide) rfl (fun ls hl => ?_)
  refine lv_iload_n hx hb d_JL_numberOfLeadingZeros_6 rfl (lv_at hl 0 rfl) ?_
  refine lv_if_ne (tgt := 21) hx hb d_JL_numberOfLeadingZeros_7 (by decide) (fun c_7 => ?_) (fun c_7 => ?_)
  · replace hF := hif_f c_7 hF
    refine lv_iload_n hx hb d_JL_numberOfLeadingZeros_21 rfl (lv_at hl 0 rfl) ?_
    obtain ⟨q_22, hC_22, hF⟩ := hbd hF
    have hPc := hP.sub (ws' := []) [] rfl
    have hDc := hD.sub (ws' := []) [] (by decide) rfl
    have hKc := hK.sub (tys' := []) [] rfl
    have hFc := va_free (wc := []) hD hS hA [] rfl
    refine va_calli (va_runS (As := [.int ((jushr a0 (32 : Int32)).toInt32)]) (rest := []) ⟨hx, hb, hml, hown, hts⟩ (c_J_nlzi l dC dI s.heap.size ((jushr a0 (32 : Int32)).toInt32) q_22 hC_22) (va_cwS 1 hts g_JL_308_JI_numberOfLeadingZeros rfl rfl rfl (by decide +kernel) ⟨Nat.le_of_ble_eq_true rfl, Nat.le_of_ble_eq_true rfl⟩) ⟨fun a U g mk q => by obtain ⟨q0, q1, qP, qK, qD⟩ := q; exact ⟨q0, q1, qP, va_K.moved (u := U) (U := U.calling g mk a) (Vm.Alike.refl U.vm) qK, qD⟩, fun U hU hW => ⟨rfl, by rw [hU], by rw [hU]; exact hPc, va_K.moved hW.alike hKc, hDc.weaken (fun _ _ _ _ => trivial)⟩⟩ rfl rfl hl.1 rfl (lv_room (Nat.le_of_ble_eq_true rfl)) d_JL_numberOfLeadingZeros_22 ⟨Nat.zero_le _, Nat.zero_le _⟩) hS (fun q _ h => hFc q h) hFc (fun r u t H1 locs ht hvm hw hB hz1 hk1 hS => ?_)
    obtain ⟨hP1, hK1, hD1⟩ := hB
    replace hw := hw.symm
    subst hw
    rw [ht] at hP1
    obtain ⟨hP, hD⟩ := va_join (wr := []) (w1 := []) hP hD [] [] rfl rfl (by decide) (by decide) hk1 hFc hP1 hD1
    generalize H1 = H at hP hS ⊢
    have hP := hP.sub (ws' := []) [] rfl
    have hD := hD.sub (ws' := []) [] (by decide) rfl
    obtain rfl := Option.some.inj hF
    exact W.iret (v := q_22) hx hb hr (fun t ht hW => ⟨⟨q_22, (), rfl, rfl, by rw [ht]; exact hP, va_K.moved hW.alike hK, hD⟩, hS.F ht⟩) hS.2.2 d_JL_numberOfLeadingZeros_25
  · replace hF := hif_t c_7 hF
    refine lv_bipush (v := (32 : Int32)) hx hb d_JL_numberOfLeadingZeros_10 (by decide) ?_
    refine lv_lload_n hx hb d_JL_numberOfLeadingZeros_12 rfl (lv_at hl 1 rfl) ?_
    refine lv_l2i (v := a0.toInt32) hx hb d_JL_numberOfLeadingZeros_13 rfl ?_
    obtain ⟨q_14, hC_14, hF⟩ := hbd hF
    have hPc := hP.sub (ws' := []) [] rfl
    have hDc := hD.sub (ws' := []) [] (by decide) rfl
    have hKc := hK.sub (tys' := []) [] rfl
    have hFc := va_free (wc := []) hD hS hA [] rfl
    refine va_calli (va_runS (As := [.int a0.toInt32]) (rest := [.int (32 : Int32)]) ⟨hx, hb, hml, hown, hts⟩ (c_J_nlzi l dC dI s.heap.size a0.toInt32 q_14 hC_14) (va_cwS 1 hts g_JL_308_JI_numberOfLeadingZeros rfl rfl rfl (by decide +kernel) ⟨Nat.le_of_ble_eq_true rfl, Nat.le_of_ble_eq_true rfl⟩) ⟨fun a U g mk q => by obtain ⟨q0, q1, qP, qK, qD⟩ := q; exact ⟨q0, q1, qP, va_K.moved (u := U) (U := U.calling g mk a) (Vm.Alike.refl U.vm) qK, qD⟩, fun U hU hW => ⟨rfl, by rw [hU], by rw [hU]; exact hPc, va_K.moved hW.alike hKc, hDc.weaken (fun _ _ _ _ => trivial)⟩⟩ rfl rfl hl.1 rfl (lv_room (Nat.le_of_ble_eq_true rfl)) d_JL_numberOfLeadingZeros_14 ⟨Nat.zero_le _, Nat.zero_le _⟩) hS (fun q _ h => hFc q h) hFc (fun r u t H1 locs ht hvm hw hB hz1 hk1 hS => ?_)
    obtain ⟨hP1, hK1, hD1⟩ := hB
    replace hw := hw.symm
    subst hw
    rw [ht] at hP1
    obtain ⟨hP, hD⟩ := va_join (wr := []) (w1 := []) hP hD [] [] rfl rfl (by decide) (by decide) hk1 hFc hP1 hD1
    generalize H1 = H at hP hS ⊢
    have hP := hP.sub (ws' := []) [] rfl
    have hD := hD.sub (ws' := []) [] (by decide) rfl
    refine lv_iadd hx hb d_JL_numberOfLeadingZeros_17 ?_
    refine lv_goto (tgt := 25) hx hb d_JL_numberOfLeadingZeros_18 (by decide) ?_
    obtain rfl := Option.some.inj hF
    exact W.iret (v := ((32 : Int32) + q_14)) hx hb hr (fun t ht hW => ⟨⟨((32 : Int32) + q_14), (), rfl, rfl, by rw [ht]; exact hP, va_K.moved hW.alike hK, hD⟩, hS.F ht⟩) hS.2.2 d_JL_numberOfLeadingZeros_25
set_option maxHeartbeats 4000000 in
set_option maxRecDepth 100000 in
theorem c_J_ntzi (l : Launch) (dC : Nat → ClassId) (dI : Nat → Nat → Nat) (sz : Nat) (a0 : Int32) (o : Int32) (hF : f_J_ntzi a0 = some o) : Met l y_JI_numberOfTrailingZeros w_JI_numberOfTrailingZeros ({ frames := 0, cells := 0, slots := 0, locals := 0 } : Room) (va_Pc [.int a0] (fun U => U.heap.size = sz ∧ va_P (dC, dI) classes [] U.heap ∧ va_K (dC, dI) classes [] U ∧ va_D (fun _ => True) [])) (va_Qi (fun (r : Int32) (_ : Unit) => r = o) (fun (_ : Unit) (t : State) => va_P (dC, dI) classes [] t.heap ∧ va_K (dC, dI) classes [] t ∧ va_D (va_A [] sz) []) (va_A [] sz)) 0 0 (va_A [] sz) := by
  refine Met.ofW (cc := prog_5_method_48_code) (maxL := 2) (ret := (some .int)) (by decide) rfl ?_
  intro p e s m args below meth c s₁ B hml hv
  obtain ⟨rfl, hsz, hP, hK, hD0⟩ := hv
  have hx := B.exec
  have hb := B.bytes
  have hr := B.returns
  have hts0 := atoms_spec (ws := w_JI_numberOfTrailingZeros) B.pre
  have hts : ∀ w ∈ tb, w.before _ s = true := fun w h => hts0 w (List.mem_cons_of_mem _ h)
  clear hts0
  have hown : s.vm.findClass "java/lang/Integer" = some m.cls := findClass_of_methodNamed B.named
  have hlocks := B.notSynchronized
  subst hsz
  have hD := hD0.self (sz := s.heap.size)
  generalize hAe : va_A [] s.heap.size = A at hD ⊢
  have hA : ∀ q : Nat, s.heap.size ≤ q → A q := fun q h => by rw [← hAe]; exact Or.inr h
  clear hAe
  have hS : va_S A s.heap s.heap [] := va_S.rf
  have hP : va_P (dC, dI) classes [] s.heap := hP
  have hl := lv_entry ([.int a0]) (n := 2) (Nat.le_of_ble_eq_true rfl)
  rw [lg_entry_eq]
  generalize (lg_sl ([.int a0]) ++ List.replicate (2 - (lg_sl ([.int a0])).length) Slot.unset).toArray = ls at hl ⊢
  have hl : lv_has ls 2 [(0, .int a0)] := hl
  have b_62 : ∀ (x0 : Int32) (x1 : Int32) (H : Heap) (locs : List Loc) (ls : Array Slot), va_P (dC, dI) classes [] H → va_D A [] → va_S A s.heap H locs → lv_has ls 2 [(0, .int x0), (1, .int x1)] → f_J_ntzi_62  x0 x1 = some o → W p l e (headSpec w_JI_numberOfTrailingZeros ({ frames := 0, cells := 0, slots := 0, locals := 0 } : Room)).room s m ([.int a0] : List Value).toArray below meth c H locs 0 0 (MQ below (va_Qi (fun (r : Int32) (_ : Unit) => r = o) (fun (_ : Unit) (t : State) => va_P (dC, dI) classes [] t.heap ∧ va_K (dC, dI) classes [] t ∧ va_D A []) A) ([.int a0] : List Value).toArray s 0 0 A) (F0 m 62 ls []) := by
    intro x0 x1 H locs ls hP hD hS hl hF
    unfold f_J_ntzi_62 at hF
    refine lv_iload_n hx hb d_JI_numberOfTrailingZeros_62 rfl (lv_at hl 0 rfl) ?_
    refine lv_iconst (v := (4 : Int32)) hx hb d_JI_numberOfTrailingZeros_63 (by decide) ?_
    refine lv_icmp_le (tgt := 74) hx hb d_JI_numberOfTrailingZeros_64 (by decide) (fun c_64 => ?_) (fun c_64 => ?_)
    · replace hF := hif_t c_64 hF
      refine lv_iload_n hx hb d_JI_numberOfTrailingZeros_74 rfl (lv_at hl 1 rfl) ?_
      refine lv_iload_n hx hb d_JI_numberOfTrailingZeros_75 rfl (lv_at hl 0 rfl) ?_
      refine lv_iconst (v := (1 : Int32)) hx hb d_JI_numberOfTrailingZeros_76 (by decide) ?_
      refine lv_iushr (v := (jiushr x0 (1 : Int32))) hx hb d_JI_numberOfTrailingZeros_77 rfl ?_
      refine lv_iadd hx hb d_JI_numberOfTrailingZeros_78 ?_
      obtain rfl := Option.some.inj hF
      exact W.iret (v := (x1 + (jiushr x0 (1 : Int32)))) hx hb hr (fun t ht hW => ⟨⟨(x1 + (jiushr x0 (1 : Int32))), (), rfl, rfl, by rw [ht]; exact hP, va_K.moved hW.alike hK, hD⟩, hS.F ht⟩) hS.2.2 d_JI_numberOfTrailingZeros_79
    · replace hF := hif_f c_64 hF
      refine lv_iinc (v := (x1 + (2 : Int32))) (lv' := [(1, .int (x1 + (2 : Int32))), (0, .int x0)]) hx hb d_JI_numberOfTrailingZeros_67 hl (k := 1) rfl rfl (by decide) rfl (fun ls hl => ?_)
      refine lv_iload_n hx hb d_JI_numberOfTrailingZeros_70 rfl (lv_at hl 1 rfl) ?_
      refine lv_iconst (v := (2 : Int32)) hx hb d_JI_numberOfTrailingZeros_71 (by decide) ?_
      refine lv_iushr (v := (jiushr x0 (2 : Int32))) hx hb d_JI_numberOfTrailingZeros_72 rfl ?_
      refine lv_istore_n (lv' := [(0, .int (jiushr x0 (2 : Int32))), (1, .int (x1 + (2 : Int32)))]) hx hb d_JI_numberOfTrailingZeros_73 rfl hl (by decide) rfl (fun ls hl => ?_)
      refine lv_iload_n hx hb d_JI_numberOfTrailingZeros_74 rfl (lv_at hl 1 rfl) ?_
      refine lv_iload_n hx hb d_JI_numberOfTrailingZeros_75 rfl (lv_at hl 0 rfl) ?_
      refine lv_iconst (v := (1 : Int32)) hx hb d_JI_numberOfTrailingZeros_76 (by decide) ?_
      refine lv_iushr (v := (jiushr (jiushr x0 (2 : Int32)) (1 : Int32))) hx hb d_JI_numberOfTrailingZeros_77 rfl ?_
      refine lv_iadd hx hb d_JI_numberOfTrailingZeros_78 ?_
      obtain rfl := Option.some.inj hF
      exact W.iret (v := ((x1 + (2 : Int32)) + (jiushr (jiushr x0 (2 : Int32)) (1 : Int32)))) hx hb hr (fun t ht hW => ⟨⟨((x1 + (2 : Int32)) + (jiushr (jiushr x0 (2 : Int32)) (1 : Int32))), (), rfl, rfl, by rw [ht]; exact hP, va_K.moved hW.alike hK, hD⟩, hS.F ht⟩) hS.2.2 d_JI_numberOfTrailingZeros_79
  have b_49 : ∀ (x0 : Int32) (x1 : Int32) (H : Heap) (locs : List Loc) (ls : Array Slot), va_P (dC, dI) classes [] H → va_D A [] → va_S A s.heap H locs → lv_has ls 2 [(0, .int x0), (1, .int x1)] → f_J_ntzi_49  x0 x1 = some o → W p l e (headSpec w_JI_numberOfTrailingZeros ({ frames := 0, cells := 0, slots := 0, locals := 0 } : Room)).room s m ([.int a0] : List Value).toArray below meth c H locs 0 0 (MQ below (va_Qi (fun (r : Int32) (_ : Unit) => r = o) (fun (_ : Unit) (t : State) => va_P (dC, dI) classes [] t.heap ∧ va_K (dC, dI) classes [] t ∧ va_D A []) A) ([.int a0] : List Value).toArray s 0 0 A) (F0 m 49 ls []) := by
    intro x0 x1 H locs ls hP hD hS hl hF
    unfold f_J_ntzi_49 at hF
    refine lv_iload_n hx hb d_JI_numberOfTrailingZeros_49 rfl (lv_at hl 0 rfl) ?_
    refine lv_bipush (v := (16 : Int32)) hx hb d_JI_numberOfTrailingZeros_50 (by decide) ?_
    refine lv_icmp_le (tgt := 62) hx hb d_JI_numberOfTrailingZeros_52 (by decide) (fun c_52 => ?_) (fun c_52 => ?_)
    · replace hF := hif_t c_52 hF
      exact b_62 x0 x1 _ _ _ hP hD hS (lv_sub hl [0, 1] rfl) hF
    · replace hF := hif_f c_52 hF
      refine lv_iinc (v := (x1 + (4 : Int32))) (lv' := [(1, .int (x1 + (4 : Int32))), (0, .int x0)]) hx hb d_JI_numberOfTrailingZeros_55 hl (k := 1) rfl rfl (by decide) rfl (fun ls hl => ?_)
      refine lv_iload_n hx hb d_JI_numberOfTrailingZeros_58 rfl (lv_at hl 1 rfl) ?_
      refine lv_iconst (v := (4 : Int32)) hx hb d_JI_numberOfTrailingZeros_59 (by decide) ?_
      refine lv_iushr (v := (jiushr x0 (4 : Int32))) hx hb d_JI_numberOfTrailingZeros_60 rfl ?_
      refine lv_istore_n (lv' := [(0, .int (jiushr x0 (4 : Int32))), (1, .int (x1 + (4 : Int32)))]) hx hb d_JI_numberOfTrailingZeros_61 rfl hl (by decide) rfl (fun ls hl => ?_)
      exact b_62 (jiushr x0 (4 : Int32)) (x1 + (4 : Int32)) _ _ _ hP hD hS (lv_sub hl [0, 1] rfl) hF
  have b_34 : ∀ (x0 : Int32) (x1 : Int32) (H : Heap) (locs : List Loc) (ls : Array Slot), va_P (dC, dI) classes [] H → va_D A [] → va_S A s.heap H locs → lv_has ls 2 [(0, .int x0), (1, .int x1)] → f_J_ntzi_34  x0 x1 = some o → W p l e (headSpec w_JI_numberOfTrailingZeros ({ frames := 0, cells := 0, slots := 0, locals := 0 } : Room)).room s m ([.int a0] : List Value).toArray below meth c H locs 0 0 (MQ below (va_Qi (fun (r : Int32) (_ : Unit) => r = o) (fun (_ : Unit) (t : State) => va_P (dC, dI) classes [] t.heap ∧ va_K (dC, dI) classes [] t ∧ va_D A []) A) ([.int a0] : List Value).toArray s 0 0 A) (F0 m 34 ls []) := by
    intro x0 x1 H locs ls hP hD hS hl hF
    unfold f_J_ntzi_34 at hF
    refine lv_iload_n hx hb d_JI_numberOfTrailingZeros_34 rfl (lv_at hl 0 rfl) ?_
    refine lv_sipush (v := (256 : Int32)) hx hb d_JI_numberOfTrailingZeros_35 (by decide) ?_
    refine lv_icmp_le (tgt := 49) hx hb d_JI_numberOfTrailingZeros_38 (by decide) (fun c_38 => ?_) (fun c_38 => ?_)
    · replace hF := hif_t c_38 hF
      exact b_49 x0 x1 _ _ _ hP hD hS (lv_sub hl [0, 1] rfl) hF
    · replace hF := hif_f c_38 hF
      refine lv_iinc (v := (x1 + (8 : Int32))) (lv' := [(1, .int (x1 + (8 : Int32))), (0, .int x0)]) hx hb d_JI_numberOfTrailingZeros_41 hl (k := 1) rfl rfl (by decide) rfl (fun ls hl => ?_)
      refine lv_iload_n hx hb d_JI_numberOfTrailingZeros_44 rfl (lv_at hl 1 rfl) ?_
      refine lv_bipush (v := (8 : Int32)) hx hb d_JI_numberOfTrailingZeros_45 (by decide) ?_
      refine lv_iushr (v := (jiushr x0 (8 : Int32))) hx hb d_JI_numberOfTrailingZeros_47 rfl ?_
      refine lv_istore_n (lv' := [(0, .int (jiushr x0 (8 : Int32))), (1, .int (x1 + (8 : Int32)))]) hx hb d_JI_numberOfTrailingZeros_48 rfl hl (by decide) rfl (fun ls hl => ?_)
      exact b_49 (jiushr x0 (8 : Int32)) (x1 + (8 : Int32)) _ _ _ hP hD hS (lv_sub hl [0, 1] rfl) hF
  unfold f_J_ntzi at hF
  refine lv_iload_n hx hb d_JI_numberOfTrailingZeros_0 rfl (lv_at hl 0 rfl) ?_
  refine lv_iconst (v := (-1 : Int32)) hx hb d_JI_numberOfTrailingZeros_1 (by decide) ?_
  refine lv_ixor hx hb d_JI_numberOfTrailingZeros_2 ?_
  refine lv_iload_n hx hb d_JI_numberOfTrailingZeros_3 rfl (lv_at hl 0 rfl) ?_
  refine lv_iconst (v := (1 : Int32)) hx hb d_JI_numberOfTrailingZeros_4 (by decide) ?_
  refine lv_isub hx hb d_JI_numberOfTrailingZeros_5 ?_
  refine lv_iand hx hb d_JI_numberOfTrailingZeros_6 ?_
  refine lv_istore_n (lv' := [(0, .int ((a0 ^^^ (-1 : Int32)) &&& (a0 - (1 : Int32))))]) hx hb d_JI_numberOfTrailingZeros_7 rfl hl (by decide) rfl (fun ls hl => ?_)
  refine lv_iload_n hx hb d_JI_numberOfTrailingZeros_8 rfl (lv_at hl 0 rfl) ?_
  refine lv_if_gt (tgt := 17) hx hb d_JI_numberOfTrailingZeros_9 (by decide) (fun c_9 => ?_) (fun c_9 => ?_)
  · replace hF := hif_t c_9 hF
    refine lv_iconst (v := (1 : Int32)) hx hb d_JI_numberOfTrailingZeros_17 (by decide) ?_
    refine lv_istore_n (lv' := [(1, .int (1 : Int32)), (0, .int ((a0 ^^^ (-1 : Int32)) &&& (a0 - (1 : Int32))))]) hx hb d_JI_numberOfTrailingZeros_18 rfl hl (by decide) rfl (fun ls hl => ?_)
    refine lv_iload_n hx hb d_JI_numberOfTrailingZeros_19 rfl (lv_at hl 1 rfl) ?_
    refine lv_ldcw (v := (65536 : Int32)) hx hb hown (hts _ tw_92) d_JI_numberOfTrailingZeros_20 ?_
    refine lv_icmp_le (tgt := 34) hx hb d_JI_numberOfTrailingZeros_23 (by decide) (fun c_23 => ?_) (fun c_23 => ?_)
    · replace hF := hif_t c_23 hF
      exact b_34 ((a0 ^^^ (-1 : Int32)) &&& (a0 - (1 : Int32))) (1 : Int32) _ _ _ hP hD hS (lv_sub hl [1, 0] rfl) hF
    · replace hF := hif_f c_23 hF
      refine lv_iinc (v := ((1 : Int32) + (16 : Int32))) (lv' := [(1, .int ((1 : Int32) + (16 : Int32))), (0, .int ((a0 ^^^ (-1 : Int32)) &&& (a0 - (1 : Int32))))]) hx hb d_JI_numberOfTrailingZeros_26 hl (k := 0) rfl rfl (by decide) rfl (fun ls hl => ?_)
      refine lv_iload_n hx hb d_JI_numberOfTrailingZeros_29 rfl (lv_at hl 1 rfl) ?_
      refine lv_bipush (v := (16 : Int32)) hx hb d_JI_numberOfTrailingZeros_30 (by decide) ?_
      refine lv_iushr (v := (jiushr ((a0 ^^^ (-1 : Int32)) &&& (a0 - (1 : Int32))) (16 : Int32))) hx hb d_JI_numberOfTrailingZeros_32 rfl ?_
      refine lv_istore_n (lv' := [(0, .int (jiushr ((a0 ^^^ (-1 : Int32)) &&& (a0 - (1 : Int32))) (16 : Int32))), (1, .int ((1 : Int32) + (16 : Int32)))]) hx hb d_JI_numberOfTrailingZeros_33 rfl hl (by decide) rfl (fun ls hl => ?_)
      exact b_34 (jiushr ((a0 ^^^ (-1 : Int32)) &&& (a0 - (1 : Int32))) (16 : Int32)) ((1 : Int32) + (16 : Int32)) _ _ _ hP hD hS (lv_sub hl [0, 1] rfl) hF
  · replace hF := hif_f c_9 hF
    refine lv_iload_n hx hb d_JI_numberOfTrailingZeros_12 rfl (lv_at hl 0 rfl) ?_
    refine lv_bipush (v := (32 : Int32)) hx hb d_JI_numberOfTrailingZeros_13 (by decide) ?_
    refine lv_iand hx hb d_JI_numberOfTrailingZeros_15 ?_
    obtain rfl := Option.some.inj hF
    exact W.iret (v := (((a0 ^^^ (-1 : Int32)) &&& (a0 - (1 : Int32))) &&& (32 : Int32))) hx hb hr (fun t ht hW => ⟨⟨(((a0 ^^^ (-1 : Int32)) &&& (a0 - (1 : Int32))) &&& (32 : Int32)), (), rfl, rfl, by rw [ht]; exact hP, va_K.moved hW.alike hK, hD⟩, hS.F ht⟩) hS.2.2 d_JI_numberOfTrailingZeros_16
set_option maxHeartbeats 4000000 in
set_option maxRecDepth 100000 in
theorem c_J_ntz (l : Launch) (dC : Nat → ClassId) (dI : Nat → Nat → Nat) (sz : Nat) (a0 : Int64) (o : Int32) (hF : f_J_ntz a0 = some o) : Met l y_JL_numberOfTrailingZeros w_JL_numberOfTrailingZeros ({ frames := 1, cells := 0, slots := 0, locals := 21 } : Room) (va_Pc [.long a0] (fun U => U.heap.size = sz ∧ va_P (dC, dI) classes [] U.heap ∧ va_K (dC, dI) classes [] U ∧ va_D (fun _ => True) [])) (va_Qi (fun (r : Int32) (_ : Unit) => r = o) (fun (_ : Unit) (t : State) => va_P (dC, dI) classes [] t.heap ∧ va_K (dC, dI) classes [] t ∧ va_D (va_A [] sz) []) (va_A [] sz)) 0 0 (va_A [] sz) := by
  refine Met.ofW (cc := prog_6_method_49_code) (maxL := 3) (ret := (some .int)) (by decide) rfl ?_
  intro p e s m args below meth c s₁ B hml hv
  obtain ⟨rfl, hsz, hP, hK, hD0⟩ := hv
  have hx := B.exec
  have hb := B.bytes
  have hr := B.returns
  have hts0 := atoms_spec (ws := w_JL_numberOfTrailingZeros) B.pre
  have hts : ∀ w ∈ tb, w.before _ s = true := fun w h => hts0 w (List.mem_cons_of_mem _ h)
  clear hts0
  have hown : s.vm.findClass "java/lang/Long" = some m.cls := findClass_of_methodNamed B.named
  have hlocks := B.notSynchronized
  subst hsz
  have hD := hD0.self (sz := s.heap.size)
  generalize hAe : va_A [] s.heap.size = A at hD ⊢
  have hA : ∀ q : Nat, s.heap.size ≤ q → A q := fun q h => by rw [← hAe]; exact Or.inr h
  clear hAe
  have hS : va_S A s.heap s.heap [] := va_S.rf
  have hP : va_P (dC, dI) classes [] s.heap := hP
  have hl := lv_entry ([.long a0]) (n := 3) (Nat.le_of_ble_eq_true rfl)
  rw [lg_entry_eq]
  generalize (lg_sl ([.long a0]) ++ List.replicate (3 - (lg_sl ([.long a0])).length) Slot.unset).toArray = ls at hl ⊢
  have hl : lv_has ls 3 [(0, .long a0)] := hl
  unfold f_J_ntz at hF
  refine lv_lload_n hx hb d_JL_numberOfTrailingZeros_0 rfl (lv_at hl 0 rfl) ?_
  refine lv_l2i (v := a0.toInt32) hx hb d_JL_numberOfTrailingZeros_1 rfl ?_
  refine lv_istore_n (lv' := [(2, .int a0.toInt32), (0, .long a0)]) hx hb d_JL_numberOfTrailingZeros_2 rfl hl (by decide) rfl (fun ls hl => ?_)
  refine lv_iload_n hx hb d_JL_numberOfTrailingZeros_3 rfl (lv_at hl 0 rfl) ?_
  refine lv_if_ne (tgt := 21) hx hb d_JL_numberOfTrailingZeros_4 (by decide) (fun c_4 => ?_) (fun c_4 => ?_)
  · replace hF := hif_f c_4 hF
    refine lv_iload_n hx hb d_JL_numberOfTrailingZeros_21 rfl (lv_at hl 0 rfl) ?_
    obtain ⟨q_22, hC_22, hF⟩ := hbd hF
    have hPc := hP.sub (ws' := []) [] rfl
    have hDc := hD.sub (ws' := []) [] (by decide) rfl
    have hKc := hK.sub (tys' := []) [] rfl
    have hFc := va_free (wc := []) hD hS hA [] rfl
    refine va_calli (va_runS (As := [.int a0.toInt32]) (rest := []) ⟨hx, hb, hml, hown, hts⟩ (c_J_ntzi l dC dI s.heap.size a0.toInt32 q_22 hC_22) (va_cwS 1 hts g_JL_311_JI_numberOfTrailingZeros rfl rfl rfl (by decide +kernel) ⟨Nat.le_of_ble_eq_true rfl, Nat.le_of_ble_eq_true rfl⟩) ⟨fun a U g mk q => by obtain ⟨q0, q1, qP, qK, qD⟩ := q; exact ⟨q0, q1, qP, va_K.moved (u := U) (U := U.calling g mk a) (Vm.Alike.refl U.vm) qK, qD⟩, fun U hU hW => ⟨rfl, by rw [hU], by rw [hU]; exact hPc, va_K.moved hW.alike hKc, hDc.weaken (fun _ _ _ _ => trivial)⟩⟩ rfl rfl hl.1 rfl (lv_room (Nat.le_of_ble_eq_true rfl)) d_JL_numberOfTrailingZeros_22 ⟨Nat.zero_le _, Nat.zero_le _⟩) hS (fun q _ h => hFc q h) hFc (fun r u t H1 locs ht hvm hw hB hz1 hk1 hS => ?_)
    obtain ⟨hP1, hK1, hD1⟩ := hB
    replace hw := hw.symm
    subst hw
    rw [ht] at hP1
    obtain ⟨hP, hD⟩ := va_join (wr := []) (w1 := []) hP hD [] [] rfl rfl (by decide) (by decide) hk1 hFc hP1 hD1
    generalize H1 = H at hP hS ⊢
    have hP := hP.sub (ws' := []) [] rfl
    have hD := hD.sub (ws' := []) [] (by decide) rfl
    obtain rfl := Option.some.inj hF
    exact W.iret (v := q_22) hx hb hr (fun t ht hW => ⟨⟨q_22, (), rfl, rfl, by rw [ht]; exact hP, va_K.moved hW.alike hK, hD⟩, hS.F ht⟩) hS.2.2 d_JL_numberOfTrailingZeros_25
  · replace hF := hif_t c_4 hF
    refine lv_bipush (v := (32 : Int32)) hx hb d_JL_numberOfTrailingZeros_7 (by decide) ?_
    refine lv_lload_n hx hb d_JL_numberOfTrailingZeros_9 rfl (lv_at hl 1 rfl) ?_
    refine lv_bipush (v := (32 : Int32)) hx hb d_JL_numberOfTrailingZeros_10 (by decide) ?_
    refine lv_lushr (v := (jushr a0 (32 : Int32))) hx hb d_JL_numberOfTrailingZeros_12 rfl ?_
    refine lv_l2i (v := (jushr a0 (32 : Int32)).toInt32) hx hb d_JL_numberOfTrailingZeros_13 rfl ?_
    obtain ⟨q_14, hC_14, hF⟩ := hbd hF
    have hPc := hP.sub (ws' := []) [] rfl
    have hDc := hD.sub (ws' := []) [] (by decide) rfl
    have hKc := hK.sub (tys' := []) [] rfl
    have hFc := va_free (wc := []) hD hS hA [] rfl
    refine va_calli (va_runS (As := [.int ((jushr a0 (32 : Int32)).toInt32)]) (rest := [.int (32 : Int32)]) ⟨hx, hb, hml, hown, hts⟩ (c_J_ntzi l dC dI s.heap.size ((jushr a0 (32 : Int32)).toInt32) q_14 hC_14) (va_cwS 1 hts g_JL_311_JI_numberOfTrailingZeros rfl rfl rfl (by decide +kernel) ⟨Nat.le_of_ble_eq_true rfl, Nat.le_of_ble_eq_true rfl⟩) ⟨fun a U g mk q => by obtain ⟨q0, q1, qP, qK, qD⟩ := q; exact ⟨q0, q1, qP, va_K.moved (u := U) (U := U.calling g mk a) (Vm.Alike.refl U.vm) qK, qD⟩, fun U hU hW => ⟨rfl, by rw [hU], by rw [hU]; exact hPc, va_K.moved hW.alike hKc, hDc.weaken (fun _ _ _ _ => trivial)⟩⟩ rfl rfl hl.1 rfl (lv_room (Nat.le_of_ble_eq_true rfl)) d_JL_numberOfTrailingZeros_14 ⟨Nat.zero_le _, Nat.zero_le _⟩) hS (fun q _ h => hFc q h) hFc (fun r u t H1 locs ht hvm hw hB hz1 hk1 hS => ?_)
    obtain ⟨hP1, hK1, hD1⟩ := hB
    replace hw := hw.symm
    subst hw
    rw [ht] at hP1
    obtain ⟨hP, hD⟩ := va_join (wr := []) (w1 := []) hP hD [] [] rfl rfl (by decide) (by decide) hk1 hFc hP1 hD1
    generalize H1 = H at hP hS ⊢
    have hP := hP.sub (ws' := []) [] rfl
    have hD := hD.sub (ws' := []) [] (by decide) rfl
    refine lv_iadd hx hb d_JL_numberOfTrailingZeros_17 ?_
    refine lv_goto (tgt := 25) hx hb d_JL_numberOfTrailingZeros_18 (by decide) ?_
    obtain rfl := Option.some.inj hF
    exact W.iret (v := ((32 : Int32) + q_14)) hx hb hr (fun t ht hW => ⟨⟨((32 : Int32) + q_14), (), rfl, rfl, by rw [ht]; exact hP, va_K.moved hW.alike hK, hD⟩, hS.F ht⟩) hS.2.2 d_JL_numberOfTrailingZeros_25
set_option maxHeartbeats 4000000 in
set_option maxRecDepth 100000 in
theorem c_J_bitCount (l : Launch) (dC : Nat → ClassId) (dI : Nat → Nat → Nat) (sz : Nat) (a0 : Int64) (o : Int32) (hF : f_J_bitCount a0 = some o) : Met l y_JL_bitCount w_JL_bitCount ({ frames := 0, cells := 0, slots := 0, locals := 0 } : Room) (va_Pc [.long a0] (fun U => U.heap.size = sz ∧ va_P (dC, dI) classes [] U.heap ∧ va_K (dC, dI) classes [] U ∧ va_D (fun _ => True) [])) (va_Qi (fun (r : Int32) (_ : Unit) => r = o) (fun (_ : Unit) (t : State) => va_P (dC, dI) classes [] t.heap ∧ va_K (dC, dI) classes [] t ∧ va_D (va_A [] sz) []) (va_A [] sz)) 0 0 (va_A [] sz) := by
  refine Met.ofW (cc := prog_6_method_50_code) (maxL := 2) (ret := (some .int)) (by decide) rfl ?_
  intro p e s m args below meth c s₁ B hml hv
  obtain ⟨rfl, hsz, hP, hK, hD0⟩ := hv
  have hx := B.exec
  have hb := B.bytes
  have hr := B.returns
  have hts0 := atoms_spec (ws := w_JL_bitCount) B.pre
  have hts : ∀ w ∈ tb, w.before _ s = true := fun w h => hts0 w (List.mem_cons_of_mem _ h)
  clear hts0
  have hown : s.vm.findClass "java/lang/Long" = some m.cls := findClass_of_methodNamed B.named
  have hlocks := B.notSynchronized
  subst hsz
  have hD := hD0.self (sz := s.heap.size)
  generalize hAe : va_A [] s.heap.size = A at hD ⊢
  have hA : ∀ q : Nat, s.heap.size ≤ q → A q := fun q h => by rw [← hAe]; exact Or.inr h
  clear hAe
  have hS : va_S A s.heap s.heap [] := va_S.rf
  have hP : va_P (dC, dI) classes [] s.heap := hP
  have hl := lv_entry ([.long a0]) (n := 2) (Nat.le_of_ble_eq_true rfl)
  rw [lg_entry_eq]
  generalize (lg_sl ([.long a0]) ++ List.replicate (2 - (lg_sl ([.long a0])).length) Slot.unset).toArray = ls at hl ⊢
  have hl : lv_has ls 2 [(0, .long a0)] := hl
  have b_55 : ∀ (x0 : Int64) (H : Heap) (locs : List Loc) (ls : Array Slot), va_P (dC, dI) classes [] H → va_D A [] → va_S A s.heap H locs → lv_has ls 2 [(0, .long x0)] → f_J_bitCount_55  x0 = some o → W p l e (headSpec w_JL_bitCount ({ frames := 0, cells := 0, slots := 0, locals := 0 } : Room)).room s m ([.long a0] : List Value).toArray below meth c H locs 0 0 (MQ below (va_Qi (fun (r : Int32) (_ : Unit) => r = o) (fun (_ : Unit) (t : State) => va_P (dC, dI) classes [] t.heap ∧ va_K (dC, dI) classes [] t ∧ va_D A []) A) ([.long a0] : List Value).toArray s 0 0 A) (F0 m 55 ls []) := by
    intro x0 H locs ls hP hD hS hl hF
    unfold f_J_bitCount_55 at hF
    refine lv_lload_n hx hb d_JL_bitCount_55 rfl (lv_at hl 0 rfl) ?_
    refine lv_l2i (v := x0.toInt32) hx hb d_JL_bitCount_56 rfl ?_
    refine lv_bipush (v := (127 : Int32)) hx hb d_JL_bitCount_57 (by decide) ?_
    refine lv_iand hx hb d_JL_bitCount_59 ?_
    obtain rfl := Option.some.inj hF
    exact W.iret (v := (x0.toInt32 &&& (127 : Int32))) hx hb hr (fun t ht hW => ⟨⟨(x0.toInt32 &&& (127 : Int32)), (), rfl, rfl, by rw [ht]; exact hP, va_K.moved hW.alike hK, hD⟩, hS.F ht⟩) hS.2.2 d_JL_bitCount_60
  have b_48 : ∀ (x0 : Int64) (H : Heap) (locs : List Loc) (ls : Array Slot), va_P (dC, dI) classes [] H → va_D A [] → va_S A s.heap H locs → lv_has ls 2 [(0, .long x0)] → f_J_bitCount_48  x0 = some o → W p l e (headSpec w_JL_bitCount ({ frames := 0, cells := 0, slots := 0, locals := 0 } : Room)).room s m ([.long a0] : List Value).toArray below meth c H locs 0 0 (MQ below (va_Qi (fun (r : Int32) (_ : Unit) => r = o) (fun (_ : Unit) (t : State) => va_P (dC, dI) classes [] t.heap ∧ va_K (dC, dI) classes [] t ∧ va_D A []) A) ([.long a0] : List Value).toArray s 0 0 A) (F0 m 48 ls []) := by
    intro x0 H locs ls hP hD hS hl hF
    unfold f_J_bitCount_48 at hF
    refine lv_lload_n hx hb d_JL_bitCount_48 rfl (lv_at hl 0 rfl) ?_
    refine lv_lload_n hx hb d_JL_bitCount_49 rfl (lv_at hl 0 rfl) ?_
    refine lv_bipush (v := (32 : Int32)) hx hb d_JL_bitCount_50 (by decide) ?_
    refine lv_lushr (v := (jushr x0 (32 : Int32))) hx hb d_JL_bitCount_52 rfl ?_
    refine lv_ladd hx hb d_JL_bitCount_53 ?_
    refine lv_lstore_n (lv' := [(0, .long (x0 + (jushr x0 (32 : Int32))))]) hx hb d_JL_bitCount_54 rfl hl (by decide) rfl (fun ls hl => ?_)
    exact b_55 (x0 + (jushr x0 (32 : Int32))) _ _ _ hP hD hS (lv_sub hl [0] rfl) hF
  have b_41 : ∀ (x0 : Int64) (H : Heap) (locs : List Loc) (ls : Array Slot), va_P (dC, dI) classes [] H → va_D A [] → va_S A s.heap H locs → lv_has ls 2 [(0, .long x0)] → f_J_bitCount_41  x0 = some o → W p l e (headSpec w_JL_bitCount ({ frames := 0, cells := 0, slots := 0, locals := 0 } : Room)).room s m ([.long a0] : List Value).toArray below meth c H locs 0 0 (MQ below (va_Qi (fun (r : Int32) (_ : Unit) => r = o) (fun (_ : Unit) (t : State) => va_P (dC, dI) classes [] t.heap ∧ va_K (dC, dI) classes [] t ∧ va_D A []) A) ([.long a0] : List Value).toArray s 0 0 A) (F0 m 41 ls []) := by
    intro x0 H locs ls hP hD hS hl hF
    unfold f_J_bitCount_41 at hF
    refine lv_lload_n hx hb d_JL_bitCount_41 rfl (lv_at hl 0 rfl) ?_
    refine lv_lload_n hx hb d_JL_bitCount_42 rfl (lv_at hl 0 rfl) ?_
    refine lv_bipush (v := (16 : Int32)) hx hb d_JL_bitCount_43 (by decide) ?_
    refine lv_lushr (v := (jushr x0 (16 : Int32))) hx hb d_JL_bitCount_45 rfl ?_
    refine lv_ladd hx hb d_JL_bitCount_46 ?_
    refine lv_lstore_n (lv' := [(0, .long (x0 + (jushr x0 (16 : Int32))))]) hx hb d_JL_bitCount_47 rfl hl (by decide) rfl (fun ls hl => ?_)
    exact b_48 (x0 + (jushr x0 (16 : Int32))) _ _ _ hP hD hS (lv_sub hl [0] rfl) hF
  have b_34 : ∀ (x0 : Int64) (H : Heap) (locs : List Loc) (ls : Array Slot), va_P (dC, dI) classes [] H → va_D A [] → va_S A s.heap H locs → lv_has ls 2 [(0, .long x0)] → f_J_bitCount_34  x0 = some o → W p l e (headSpec w_JL_bitCount ({ frames := 0, cells := 0, slots := 0, locals := 0 } : Room)).room s m ([.long a0] : List Value).toArray below meth c H locs 0 0 (MQ below (va_Qi (fun (r : Int32) (_ : Unit) => r = o) (fun (_ : Unit) (t : State) => va_P (dC, dI) classes [] t.heap ∧ va_K (dC, dI) classes [] t ∧ va_D A []) A) ([.long a0] : List Value).toArray s 0 0 A) (F0 m 34 ls []) := by
    intro x0 H locs ls hP hD hS hl hF
    unfold f_J_bitCount_34 at hF
    refine lv_lload_n hx hb d_JL_bitCount_34 rfl (lv_at hl 0 rfl) ?_
    refine lv_lload_n hx hb d_JL_bitCount_35 rfl (lv_at hl 0 rfl) ?_
    refine lv_bipush (v := (8 : Int32)) hx hb d_JL_bitCount_36 (by decide) ?_
    refine lv_lushr (v := (jushr x0 (8 : Int32))) hx hb d_JL_bitCount_38 rfl ?_
    refine lv_ladd hx hb d_JL_bitCount_39 ?_
    refine lv_lstore_n (lv' := [(0, .long (x0 + (jushr x0 (8 : Int32))))]) hx hb d_JL_bitCount_40 rfl hl (by decide) rfl (fun ls hl => ?_)
    exact b_41 (x0 + (jushr x0 (8 : Int32))) _ _ _ hP hD hS (lv_sub hl [0] rfl) hF
  have b_24 : ∀ (x0 : Int64) (H : Heap) (locs : List Loc) (ls : Array Slot), va_P (dC, dI) classes [] H → va_D A [] → va_S A s.heap H locs → lv_has ls 2 [(0, .long x0)] → f_J_bitCount_24  x0 = some o → W p l e (headSpec w_JL_bitCount ({ frames := 0, cells := 0, slots := 0, locals := 0 } : Room)).room s m ([.long a0] : List Value).toArray below meth c H locs 0 0 (MQ below (va_Qi (fun (r : Int32) (_ : Unit) => r = o) (fun (_ : Unit) (t : State) => va_P (dC, dI) classes [] t.heap ∧ va_K (dC, dI) classes [] t ∧ va_D A []) A) ([.long a0] : List Value).toArray s 0 0 A) (F0 m 24 ls []) := by
    intro x0 H locs ls hP hD hS hl hF
    unfold f_J_bitCount_24 at hF
    refine lv_lload_n hx hb d_JL_bitCount_24 rfl (lv_at hl 0 rfl) ?_
    refine lv_lload_n hx hb d_JL_bitCount_25 rfl (lv_at hl 0 rfl) ?_
    refine lv_iconst (v := (4 : Int32)) hx hb d_JL_bitCount_26 (by decide) ?_
    refine lv_lushr (v := (jushr x0 (4 : Int32))) hx hb d_JL_bitCount_27 rfl ?_
    refine lv_ladd hx hb d_JL_bitCount_28 ?_
    refine lv_ldc2 (v := (1085102592571150095 : Int64)) hx hb hown (hts _ tw_244) d_JL_bitCount_29 ?_
    refine lv_land hx hb d_JL_bitCount_32 ?_
    refine lv_lstore_n (lv' := [(0, .long ((x0 + (jushr x0 (4 : Int32))) &&& (1085102592571150095 : Int64)))]) hx hb d_JL_bitCount_33 rfl hl (by decide) rfl (fun ls hl => ?_)
    exact b_34 ((x0 + (jushr x0 (4 : Int32))) &&& (1085102592571150095 : Int64)) _ _ _ hP hD hS (lv_sub hl [0] rfl) hF
  have b_10 : ∀ (x0 : Int64) (H : Heap) (locs : List Loc) (ls : Array Slot), va_P (dC, dI) classes [] H → va_D A [] → va_S A s.heap H locs → lv_has ls 2 [(0, .long x0)] → f_J_bitCount_10  x0 = some o → W p l e (headSpec w_JL_bitCount ({ frames := 0, cells := 0, slots := 0, locals := 0 } : Room)).room s m ([.long a0] : List Value).toArray below meth c H locs 0 0 (MQ below (va_Qi (fun (r : Int32) (_ : Unit) => r = o) (fun (_ : Unit) (t : State) => va_P (dC, dI) classes [] t.heap ∧ va_K (dC, dI) classes [] t ∧ va_D A []) A) ([.long a0] : List Value).toArray s 0 0 A) (F0 m 10 ls []) := by
    intro x0 H locs ls hP hD hS hl hF
    unfold f_J_bitCount_10 at hF
    refine lv_lload_n hx hb d_JL_bitCount_10 rfl (lv_at hl 0 rfl) ?_
    refine lv_ldc2 (v := (3689348814741910323 : Int64)) hx hb hown (hts _ tw_243) d_JL_bitCount_11 ?_
    refine lv_land hx hb d_JL_bitCount_14 ?_
    refine lv_lload_n hx hb d_JL_bitCount_15 rfl (lv_at hl 0 rfl) ?_
    refine lv_iconst (v := (2 : Int32)) hx hb d_JL_bitCount_16 (by decide) ?_
    refine lv_lushr (v := (jushr x0 (2 : Int32))) hx hb d_JL_bitCount_17 rfl ?_
    refine lv_ldc2 (v := (3689348814741910323 : Int64)) hx hb hown (hts _ tw_243) d_JL_bitCount_18 ?_
    refine lv_land hx hb d_JL_bitCount_21 ?_
    refine lv_ladd hx hb d_JL_bitCount_22 ?_
    refine lv_lstore_n (lv' := [(0, .long ((x0 &&& (3689348814741910323 : Int64)) + ((jushr x0 (2 : Int32)) &&& (3689348814741910323 : Int64))))]) hx hb d_JL_bitCount_23 rfl hl (by decide) rfl (fun ls hl => ?_)
    exact b_24 ((x0 &&& (3689348814741910323 : Int64)) + ((jushr x0 (2 : Int32)) &&& (3689348814741910323 : Int64))) _ _ _ hP hD hS (lv_sub hl [0] rfl) hF
  unfold f_J_bitCount at hF
  refine lv_lload_n hx hb d_JL_bitCount_0 rfl (lv_at hl 0 rfl) ?_
  refine lv_lload_n hx hb d_JL_bitCount_1 rfl (lv_at hl 0 rfl) ?_
  refine lv_iconst (v := (1 : Int32)) hx hb d_JL_bitCount_2 (by decide) ?_
  refine lv_lushr (v := (jushr a0 (1 : Int32))) hx hb d_JL_bitCount_3 rfl ?_
  refine lv_ldc2 (v := (6148914691236517205 : Int64)) hx hb hown (hts _ tw_242) d_JL_bitCount_4 ?_
  refine lv_land hx hb d_JL_bitCount_7 ?_
  refine lv_lsub hx hb d_JL_bitCount_8 ?_
  refine lv_lstore_n (lv' := [(0, .long (a0 - ((jushr a0 (1 : Int32)) &&& (6148914691236517205 : Int64))))]) hx hb d_JL_bitCount_9 rfl hl (by decide) rfl (fun ls hl => ?_)
  exact b_10 (a0 - ((jushr a0 (1 : Int32)) &&& (6148914691236517205 : Int64))) _ _ _ hP hD hS (lv_sub hl [0] rfl) hF
set_option maxHeartbeats 4000000 in
set_option maxRecDepth 100000 in
theorem c_J_compare (l : Launch) (dC : Nat → ClassId) (dI : Nat → Nat → Nat) (sz : Nat) (a0 : Int64) (a1 : Int64) (o : Int32) (hF : f_J_compare a0 a1 = some o) : Met l y_JL_compare w_JL_compare ({ frames := 0, cells := 0, slots := 0, locals := 0 } : Room) (va_Pc [.long a0, .long a1] (fun U => U.heap.size = sz ∧ va_P (dC, dI) classes [] U.heap ∧ va_K (dC, dI) classes [] U ∧ va_D (fun _ => True) [])) (va_Qi (fun (r : Int32) (_ : Unit) => r = o) (fun (_ : Unit) (t : State) => va_P (dC, dI) classes [] t.heap ∧ va_K (dC, dI) classes [] t ∧ va_D (va_A [] sz) []) (va_A [] sz)) 0 0 (va_A [] sz) := by
  refine Met.ofW (cc := prog_6_method_42_code) (maxL := 4) (ret := (some .int)) (by decide) rfl ?_
  intro p e s m args below meth c s₁ B hml hv
  obtain ⟨rfl, hsz, hP, hK, hD0⟩ := hv
  have hx := B.exec
  have hb := B.bytes
  have hr := B.returns
  have hts0 := atoms_spec (ws := w_JL_compare) B.pre
  have hts : ∀ w ∈ tb, w.before _ s = true := fun w h => hts0 w (List.mem_cons_of_mem _ h)
  clear hts0
  have hown : s.vm.findClass "java/lang/Long" = some m.cls := findClass_of_methodNamed B.named
  have hlocks := B.notSynchronized
  subst hsz
  have hD := hD0.self (sz := s.heap.size)
  generalize hAe : va_A [] s.heap.size = A at hD ⊢
  have hA : ∀ q : Nat, s.heap.size ≤ q → A q := fun q h => by rw [← hAe]; exact Or.inr h
  clear hAe
  have hS : va_S A s.heap s.heap [] := va_S.rf
  have hP : va_P (dC, dI) classes [] s.heap := hP
  have hl := lv_entry ([.long a0, .long a1]) (n := 4) (Nat.le_of_ble_eq_true rfl)
  rw [lg_entry_eq]
  generalize (lg_sl ([.long a0, .long a1]) ++ List.replicate (4 - (lg_sl ([.long a0, .long a1])).length) Slot.unset).toArray = ls at hl ⊢
  have hl : lv_has ls 4 [(0, .long a0), (2, .long a1)] := hl
  unfold f_J_compare at hF
  refine lv_lload_n hx hb d_JL_compare_0 rfl (lv_at hl 0 rfl) ?_
  refine lv_lload_n hx hb d_JL_compare_1 rfl (lv_at hl 1 rfl) ?_
  refine W.lcmp hx hb d_JL_compare_2 ?_
  refine lv_if_ge (tgt := 10) hx hb d_JL_compare_3 (by decide) (fun c_3 => ?_) (fun c_3 => ?_)
  · replace hF := hif_t c_3 hF
    refine lv_lload_n hx hb d_JL_compare_10 rfl (lv_at hl 0 rfl) ?_
    refine lv_lload_n hx hb d_JL_compare_11 rfl (lv_at hl 1 rfl) ?_
    refine W.lcmp hx hb d_JL_compare_12 ?_
    refine lv_if_ne (tgt := 20) hx hb d_JL_compare_13 (by decide) (fun c_13 => ?_) (fun c_13 => ?_)
    · replace hF := hif_f c_13 hF
      refine lv_iconst (v := (1 : Int32)) hx hb d_JL_compare_20 (by decide) ?_
      obtain rfl := Option.some.inj hF
      exact W.iret (v := (1 : Int32)) hx hb hr (fun t ht hW => ⟨⟨(1 : Int32), (), rfl, rfl, by rw [ht]; exact hP, va_K.moved hW.alike hK, hD⟩, hS.F ht⟩) hS.2.2 d_JL_compare_21
    · replace hF := hif_t c_13 hF
      refine lv_iconst (v := (0 : Int32)) hx hb d_JL_compare_16 (by decide) ?_
      refine lv_goto (tgt := 21) hx hb d_JL_compare_17 (by decide) ?_
      obtain rfl := Option.some.inj hF
      exact W.iret (v := (0 : Int32)) hx hb hr (fun t ht hW => ⟨⟨(0 : Int32), (), rfl, rfl, by rw [ht]; exact hP, va_K.moved hW.alike hK, hD⟩, hS.F ht⟩) hS.2.2 d_JL_compare_21
  · replace hF := hif_f c_3 hF
    refine lv_iconst (v := (-1 : Int32)) hx hb d_JL_compare_6 (by decide) ?_
    refine lv_goto (tgt := 21) hx hb d_JL_compare_7 (by decide) ?_
    obtain rfl := Option.some.inj hF
    exact W.iret (v := (-1 : Int32)) hx hb hr (fun t ht hW => ⟨⟨(-1 : Int32), (), rfl, rfl, by rw [ht]; exact hP, va_K.moved hW.alike hK, hD⟩, hS.F ht⟩) hS.2.2 d_JL_compare_21
set_option maxHeartbeats 4000000 in
set_option maxRecDepth 100000 in
theorem c_J_compareUnsigned (l : Launch) (dC : Nat → ClassId) (dI : Nat → Nat → Nat) (sz : Nat) (a0 : Int64) (a1 : Int64) (o : Int32) (hF : f_J_compareUnsigned a0 a1 = some o) : Met l y_JL_compareUnsigned w_JL_compareUnsigned ({ frames := 1, cells := 0, slots := 0, locals := 23 } : Room) (va_Pc [.long a0, .long a1] (fun U => U.heap.size = sz ∧ va_P (dC, dI) classes [] U.heap ∧ va_K (dC, dI) classes [] U ∧ va_D (fun _ => True) [])) (va_Qi (fun (r : Int32) (_ : Unit) => r = o) (fun (_ : Unit) (t : State) => va_P (dC, dI) classes [] t.heap ∧ va_K (dC, dI) classes [] t ∧ va_D (va_A [] sz) []) (va_A [] sz)) 0 0 (va_A [] sz) := by
  refine Met.ofW (cc := prog_6_method_43_code) (maxL := 4) (ret := (some .int)) (by decide) rfl ?_
  intro p e s m args below meth c s₁ B hml hv
  obtain ⟨rfl, hsz, hP, hK, hD0⟩ := hv
  have hx := B.exec
  have hb := B.bytes
  have hr := B.returns
  have hts0 := atoms_spec (ws := w_JL_compareUnsigned) B.pre
  have hts : ∀ w ∈ tb, w.before _ s = true := fun w h => hts0 w (List.mem_cons_of_mem _ h)
  clear hts0
  have hown : s.vm.findClass "java/lang/Long" = some m.cls := findClass_of_methodNamed B.named
  have hlocks := B.notSynchronized
  subst hsz
  have hD := hD0.self (sz := s.heap.size)
  generalize hAe : va_A [] s.heap.size = A at hD ⊢
  have hA : ∀ q : Nat, s.heap.size ≤ q → A q := fun q h => by rw [← hAe]; exact Or.inr h
  clear hAe
  have hS : va_S A s.heap s.heap [] := va_S.rf
  have hP : va_P (dC, dI) classes [] s.heap := hP
  have hl := lv_entry ([.long a0, .long a1]) (n := 4) (Nat.le_of_ble_eq_true rfl)
  rw [lg_entry_eq]
  generalize (lg_sl ([.long a0, .long a1]) ++ List.replicate (4 - (lg_sl ([.long a0, .long a1])).length) Slot.unset).toArray = ls at hl ⊢
  have hl : lv_has ls 4 [(0, .long a0), (2, .long a1)] := hl
  unfold f_J_compareUnsigned at hF
  refine lv_lload_n hx hb d_JL_compareUnsigned_0 rfl (lv_at hl 0 rfl) ?_
  refine lv_ldc2 (v := (-9223372036854775808 : Int64)) hx hb hown (hts _ tw_149) d_JL_compareUnsigned_1 ?_
  refine lv_ladd hx hb d_JL_compareUnsigned_4 ?_
  refine lv_lload_n hx hb d_JL_compareUnsigned_5 rfl (lv_at hl 1 rfl) ?_
  refine lv_ldc2 (v := (-9223372036854775808 : Int64)) hx hb hown (hts _ tw_149) d_JL_compareUnsigned_6 ?_
  refine lv_ladd hx hb d_JL_compareUnsigned_9 ?_
  obtain ⟨q_10, hC_10, hF⟩ := hbd hF
  have hPc := hP.sub (ws' := []) [] rfl
  have hDc := hD.sub (ws' := []) [] (by decide) rfl
  have hKc := hK.sub (tys' := []) [] rfl
  have hFc := va_free (wc := []) hD hS hA [] rfl
  refine va_calli (va_runS (As := [.long (a0 + (-9223372036854775808 : Int64)), .long (a1 + (-9223372036854775808 : Int64))]) (rest := []) ⟨hx, hb, hml, hown, hts⟩ (c_J_compare l dC dI s.heap.size (a0 + (-9223372036854775808 : Int64)) (a1 + (-9223372036854775808 : Int64)) q_10 hC_10) (cwS 2 hts g_JL_302_JL_compare rfl rfl rfl (by decide +kernel) ⟨Nat.le_of_ble_eq_true rfl, Nat.le_of_ble_eq_true rfl⟩) ⟨fun a U g mk q => by obtain ⟨q0, q1, qP, qK, qD⟩ := q; exact ⟨q0, q1, qP, va_K.moved (u := U) (U := U.calling g mk a) (Vm.Alike.refl U.vm) qK, qD⟩, fun U hU hW => ⟨rfl, by rw [hU], by rw [hU]; exact hPc, va_K.moved hW.alike hKc, hDc.weaken (fun _ _ _ _ => trivial)⟩⟩ rfl rfl hl.1 rfl (lv_room (Nat.le_of_ble_eq_true rfl)) d_JL_compareUnsigned_10 ⟨Nat.zero_le _, Nat.zero_le _⟩) hS (fun q _ h => hFc q h) hFc (fun r u t H1 locs ht hvm hw hB hz1 hk1 hS => ?_)
  obtain ⟨hP1, hK1, hD1⟩ := hB
  replace hw := hw.symm
  subst hw
  rw [ht] at hP1
  obtain ⟨hP, hD⟩ := va_join (wr := []) (w1 := []) hP hD [] [] rfl rfl (by decide) (by decide) hk1 hFc hP1 hD1
  generalize H1 = H at hP hS ⊢
  have hP := hP.sub (ws' := []) [] rfl
  have hD := hD.sub (ws' := []) [] (by decide) rfl
  obtain rfl := Option.some.inj hF
  exact W.iret (v := q_10) hx hb hr (fun t ht hW => ⟨⟨q_10, (), rfl, rfl, by rw [ht]; exact hP, va_K.moved hW.alike hK, hD⟩, hS.F ht⟩) hS.2.2 d_JL_compareUnsigned_13
