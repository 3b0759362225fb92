set_option maxHeartbeats 4000000 in
set_option maxRecDepth 100000 in
theorem c_Y_whole (l : Launch) (dC : Nat → ClassId) (dI : Nat → Nat → Nat) (h_Y : Nat) (h_O : Nat) (h_N : Nat) (h_B : Nat) (h_G : Nat) (h_K : Nat) (k_O : ClassId) (k_N : ClassId) (k_B : ClassId) (sz : Nat) (Y_lo : Int32) (Y_ie : Int32) (Y_ra : Int32) (Y_to : Int64) (Y_te : Int32) (Y_re : Int32) (O_f : Nat → Int64) (N_f : Nat → Int32) (B_f : Nat → Int32) (a1 : Int32) (a2 : Int32) (o : Int64) (hF : f_Y_whole O_f N_f B_f a1 a2 = some o) : Met l y_Y_whole w_Y_whole ({ frames := 1, cells := 0, slots := 0, locals := 24 } : Room) (va_Pc [.ref h_Y, .int a1, .int a2] (fun U => U.heap.size = sz ∧ va_P (dC, dI) classes [cY h_Y h_O h_N h_B h_G h_K Y_lo Y_ie Y_ra Y_to Y_te Y_re, cL h_O k_O 8 O_f, cI h_N k_N 8 N_f, cI h_B k_B 8 B_f] U.heap ∧ va_K (dC, dI) classes [(k_O, .long), (k_N, .int), (k_B, .boolean)] U ∧ va_D (fun _ => True) [cY h_Y h_O h_N h_B h_G h_K Y_lo Y_ie Y_ra Y_to Y_te Y_re, cL h_O k_O 8 O_f, cI h_N k_N 8 N_f, cI h_B k_B 8 B_f])) (va_Ql (fun (r : Int64) (_ : Unit) => r = o) (fun (_ : Unit) (t : State) => va_P (dC, dI) classes [cY h_Y h_O h_N h_B h_G h_K Y_lo Y_ie Y_ra Y_to Y_te Y_re, cL h_O k_O 8 O_f, cI h_N k_N 8 N_f, cI h_B k_B 8 B_f] t.heap ∧ va_K (dC, dI) classes [(k_O, .long), (k_N, .int), (k_B, .boolean)] t ∧ va_D (va_A [cY h_Y h_O h_N h_B h_G h_K Y_lo Y_ie Y_ra Y_to Y_te Y_re, cL h_O k_O 8 O_f, cI h_N k_N 8 N_f, cI h_B k_B 8 B_f] sz) [cY h_Y h_O h_N h_B h_G h_K Y_lo Y_ie Y_ra Y_to Y_te Y_re, cL h_O k_O 8 O_f, cI h_N k_N 8 N_f, cI h_B k_B 8 B_f]) (va_A [cY h_Y h_O h_N h_B h_G h_K Y_lo Y_ie Y_ra Y_to Y_te Y_re, cL h_O k_O 8 O_f, cI h_N k_N 8 N_f, cI h_B k_B 8 B_f] sz)) 0 0 (va_A [cY h_Y h_O h_N h_B h_G h_K Y_lo Y_ie Y_ra Y_to Y_te Y_re, cL h_O k_O 8 O_f, cI h_N k_N 8 N_f, cI h_B k_B 8 B_f] sz) := by
  refine Met.ofW (cc := prog_4_method_42_code) (maxL := 7) (ret := (some .long)) (by decide) rfl ?_
  intro p e s m args below meth c s₁ B hml hv
  obtain ⟨rfl, hsz, hP, hK, hD0⟩ := hv
  have hx := B.exec
  have hb := B.bytes
  have hr := B.returns
  have hts0 := atoms_spec (ws := w_Y_whole) B.pre
  have hts : ∀ w ∈ tb, w.before _ s = true := fun w h => hts0 w (List.mem_cons_of_mem _ h)
  clear hts0
  have hown : s.vm.findClass "RoundedNumbersModel" = some m.cls := findClass_of_methodNamed B.named
  have hlocks := B.notSynchronized
  subst hsz
  have hD := hD0.self (sz := s.heap.size)
  generalize hAe : va_A [cY h_Y h_O h_N h_B h_G h_K Y_lo Y_ie Y_ra Y_to Y_te Y_re, cL h_O k_O 8 O_f, cI h_N k_N 8 N_f, cI h_B k_B 8 B_f] s.heap.size = A at hD ⊢
  have hA : ∀ q : Nat, s.heap.size ≤ q → A q := fun q h => by rw [← hAe]; exact Or.inr h
  clear hAe
  have hS : va_S A s.heap s.heap [] := va_S.rf
  have hP : va_P (dC, dI) classes [cY h_Y h_O h_N h_B h_G h_K Y_lo Y_ie Y_ra Y_to Y_te Y_re, cL h_O k_O 8 O_f, cI h_N k_N 8 N_f, cI h_B k_B 8 B_f] s.heap := hP
  have hl := lv_entry ([.ref h_Y, .int a1, .int a2]) (n := 7) (Nat.le_of_ble_eq_true rfl)
  rw [lg_entry_eq]
  generalize (lg_sl ([.ref h_Y, .int a1, .int a2]) ++ List.replicate (7 - (lg_sl ([.ref h_Y, .int a1, .int a2])).length) Slot.unset).toArray = ls at hl ⊢
  have hl : lv_has ls 7 [(0, .ref h_Y), (1, .int a1), (2, .int a2)] := hl
  have b_139 : ∀ (x1 : Int32) (y0 : Int64) (O_f : Nat → Int64) (N_f : Nat → Int32) (B_f : Nat → Int32) (Y_lo : Int32) (Y_ie : Int32) (Y_ra : Int32) (Y_to : Int64) (Y_te : Int32) (Y_re : Int32) (H : Heap) (locs : List Loc) (ls : Array Slot), va_P (dC, dI) classes [cY h_Y h_O h_N h_B h_G h_K Y_lo Y_ie Y_ra Y_to Y_te Y_re, cL h_O k_O 8 O_f, cI h_N k_N 8 N_f, cI h_B k_B 8 B_f] H → va_D A [cY h_Y h_O h_N h_B h_G h_K Y_lo Y_ie Y_ra Y_to Y_te Y_re, cL h_O k_O 8 O_f, cI h_N k_N 8 N_f, cI h_B k_B 8 B_f] → va_S A s.heap H locs → lv_has ls 7 [(0, .ref h_Y), (1, .int x1)] → f_Y_whole_139  x1 y0 O_f N_f B_f = some o → W p l e (headSpec w_Y_whole ({ frames := 1, cells := 0, slots := 0, locals := 24 } : Room)).room s m ([.ref h_Y, .int a1, .int a2] : List Value).toArray below meth c H locs 0 0 (MQ below (va_Ql (fun (r : Int64) (_ : Unit) => r = o) (fun (_ : Unit) (t : State) => va_P (dC, dI) classes [cY h_Y h_O h_N h_B h_G h_K Y_lo Y_ie Y_ra Y_to Y_te Y_re, cL h_O k_O 8 O_f, cI h_N k_N 8 N_f, cI h_B k_B 8 B_f] t.heap ∧ va_K (dC, dI) classes [(k_O, .long), (k_N, .int), (k_B, .boolean)] t ∧ va_D A [cY h_Y h_O h_N h_B h_G h_K Y_lo Y_ie Y_ra Y_to Y_te Y_re, cL h_O k_O 8 O_f, cI h_N k_N 8 N_f, cI h_B k_B 8 B_f]) A) ([.ref h_Y, .int a1, .int a2] : List Value).toArray s 0 0 A) (F0 m 139 ls [.long y0]) := by
    intro x1 y0 O_f N_f B_f Y_lo Y_ie Y_ra Y_to Y_te Y_re H locs ls hP hD hS hl hF
    unfold f_Y_whole_139 at hF
    refine lv_lstore (lv' := [(5, .long y0), (0, .ref h_Y), (1, .int x1)]) hx hb d_Y_whole_139 hl (by decide) rfl (fun ls hl => ?_)
    refine lv_aload_n hx hb d_Y_whole_141 rfl (lv_at hl 1 rfl) ?_
    refine va_get (D := (dC, dI)) (ci := 2) (v := .ref h_B) (C := "RoundedNumbersModel") (T := F_Y) (N := 11) hx hb hts in_Y hown hK hP 0 rfl rfl 2 (by decide) (hts _ tw_316) (fun _ h9 => h9) rfl d_Y_whole_142 ?_
    refine lv_iload_n hx hb d_Y_whole_145 rfl (lv_at hl 2 rfl) ?_
    have c_146 : ¬ (x1 < 0 ∨ 8 ≤ x1.toNatClampNeg) := hif_n hF
    replace hF := hif_f c_146 hF
    refine va_zald hx hb hK hP 3 2 rfl rfl c_146 d_Y_whole_146 ?_
    refine lv_if_eq (tgt := 156) hx hb d_Y_whole_147 (by decide) (fun c_147 => ?_) (fun c_147 => ?_)
    · replace hF := hif_t c_147 hF
      refine lv_lload hx hb d_Y_whole_156 (lv_at hl 0 rfl) ?_
      obtain rfl := Option.some.inj hF
      exact W.lret (v := y0) hx hb hr (fun t ht hW => ⟨⟨y0, (), rfl, rfl, by rw [ht]; exact hP, va_K.moved hW.alike hK, hD⟩, hS.F ht⟩) hS.2.2 d_Y_whole_158
    · replace hF := hif_f c_147 hF
      refine lv_lload hx hb d_Y_whole_150 (lv_at hl 0 rfl) ?_
      refine lv_lneg hx hb d_Y_whole_152 ?_
      refine lv_goto (tgt := 158) hx hb d_Y_whole_153 (by decide) ?_
      obtain rfl := Option.some.inj hF
      exact W.lret (v := (-y0)) hx hb hr (fun t ht hW => ⟨⟨(-y0), (), rfl, rfl, by rw [ht]; exact hP, va_K.moved hW.alike hK, hD⟩, hS.F ht⟩) hS.2.2 d_Y_whole_158
  have b_78 : ∀ (x1 : Int32) (y0 : Int64) (O_f : Nat → Int64) (N_f : Nat → Int32) (B_f : Nat → Int32) (Y_lo : Int32) (Y_ie : Int32) (Y_ra : Int32) (Y_to : Int64) (Y_te : Int32) (Y_re : Int32) (H : Heap) (locs : List Loc) (ls : Array Slot), va_P (dC, dI) classes [cY h_Y h_O h_N h_B h_G h_K Y_lo Y_ie Y_ra Y_to Y_te Y_re, cL h_O k_O 8 O_f, cI h_N k_N 8 N_f, cI h_B k_B 8 B_f] H → va_D A [cY h_Y h_O h_N h_B h_G h_K Y_lo Y_ie Y_ra Y_to Y_te Y_re, cL h_O k_O 8 O_f, cI h_N k_N 8 N_f, cI h_B k_B 8 B_f] → va_S A s.heap H locs → lv_has ls 7 [(0, .ref h_Y), (1, .int x1)] → f_Y_whole_78  x1 y0 O_f N_f B_f = some o → W p l e (headSpec w_Y_whole ({ frames := 1, cells := 0, slots := 0, locals := 24 } : Room)).room s m ([.ref h_Y, .int a1, .int a2] : List Value).toArray below meth c H locs 0 0 (MQ below (va_Ql (fun (r : Int64) (_ : Unit) => r = o) (fun (_ : Unit) (t : State) => va_P (dC, dI) classes [cY h_Y h_O h_N h_B h_G h_K Y_lo Y_ie Y_ra Y_to Y_te Y_re, cL h_O k_O 8 O_f, cI h_N k_N 8 N_f, cI h_B k_B 8 B_f] t.heap ∧ va_K (dC, dI) classes [(k_O, .long), (k_N, .int), (k_B, .boolean)] t ∧ va_D A [cY h_Y h_O h_N h_B h_G h_K Y_lo Y_ie Y_ra Y_to Y_te Y_re, cL h_O k_O 8 O_f, cI h_N k_N 8 N_f, cI h_B k_B 8 B_f]) A) ([.ref h_Y, .int a1, .int a2] : List Value).toArray s 0 0 A) (F0 m 78 ls [.long y0]) := by
    intro x1 y0 O_f N_f B_f Y_lo Y_ie Y_ra Y_to Y_te Y_re H locs ls hP hD hS hl hF
    unfold f_Y_whole_78 at hF
    refine lv_lstore (lv' := [(5, .long y0), (0, .ref h_Y), (1, .int x1)]) hx hb d_Y_whole_78 hl (by decide) rfl (fun ls hl => ?_)
    refine lv_aload_n hx hb d_Y_whole_80 rfl (lv_at hl 1 rfl) ?_
    refine va_get (D := (dC, dI)) (ci := 2) (v := .ref h_B) (C := "RoundedNumbersModel") (T := F_Y) (N := 11) hx hb hts in_Y hown hK hP 0 rfl rfl 2 (by decide) (hts _ tw_316) (fun _ h9 => h9) rfl d_Y_whole_81 ?_
    refine lv_iload_n hx hb d_Y_whole_84 rfl (lv_at hl 2 rfl) ?_
    have c_85 : ¬ (x1 < 0 ∨ 8 ≤ x1.toNatClampNeg) := hif_n hF
    replace hF := hif_f c_85 hF
    refine va_zald hx hb hK hP 3 2 rfl rfl c_85 d_Y_whole_85 ?_
    refine lv_if_eq (tgt := 97) hx hb d_Y_whole_86 (by decide) (fun c_86 => ?_) (fun c_86 => ?_)
    · replace hF := hif_t c_86 hF
      refine lv_lload hx hb d_Y_whole_97 (lv_at hl 0 rfl) ?_
      obtain rfl := Option.some.inj hF
      exact W.lret (v := y0) hx hb hr (fun t ht hW => ⟨⟨y0, (), rfl, rfl, by rw [ht]; exact hP, va_K.moved hW.alike hK, hD⟩, hS.F ht⟩) hS.2.2 d_Y_whole_99
    · replace hF := hif_f c_86 hF
      refine lv_lload hx hb d_Y_whole_89 (lv_at hl 0 rfl) ?_
      refine lv_lneg hx hb d_Y_whole_91 ?_
      refine lv_lconst (v := (1 : Int64)) hx hb d_Y_whole_92 (by decide) ?_
      refine lv_lsub hx hb d_Y_whole_93 ?_
      refine lv_goto (tgt := 99) hx hb d_Y_whole_94 (by decide) ?_
      obtain rfl := Option.some.inj hF
      exact W.lret (v := ((-y0) - (1 : Int64))) hx hb hr (fun t ht hW => ⟨⟨((-y0) - (1 : Int64)), (), rfl, rfl, by rw [ht]; exact hP, va_K.moved hW.alike hK, hD⟩, hS.F ht⟩) hS.2.2 d_Y_whole_99
  have b_22 : ∀ (x1 : Int32) (x2 : Int32) (y0 : Int32) (O_f : Nat → Int64) (N_f : Nat → Int32) (B_f : Nat → Int32) (Y_lo : Int32) (Y_ie : Int32) (Y_ra : Int32) (Y_to : Int64) (Y_te : Int32) (Y_re : Int32) (H : Heap) (locs : List Loc) (ls : Array Slot), va_P (dC, dI) classes [cY h_Y h_O h_N h_B h_G h_K Y_lo Y_ie Y_ra Y_to Y_te Y_re, cL h_O k_O 8 O_f, cI h_N k_N 8 N_f, cI h_B k_B 8 B_f] H → va_D A [cY h_Y h_O h_N h_B h_G h_K Y_lo Y_ie Y_ra Y_to Y_te Y_re, cL h_O k_O 8 O_f, cI h_N k_N 8 N_f, cI h_B k_B 8 B_f] → va_S A s.heap H locs → lv_has ls 7 [(0, .ref h_Y), (1, .int x1), (2, .int x2)] → f_Y_whole_22  x1 x2 y0 O_f N_f B_f = some o → W p l e (headSpec w_Y_whole ({ frames := 1, cells := 0, slots := 0, locals := 24 } : Room)).room s m ([.ref h_Y, .int a1, .int a2] : List Value).toArray below meth c H locs 0 0 (MQ below (va_Ql (fun (r : Int64) (_ : Unit) => r = o) (fun (_ : Unit) (t : State) => va_P (dC, dI) classes [cY h_Y h_O h_N h_B h_G h_K Y_lo Y_ie Y_ra Y_to Y_te Y_re, cL h_O k_O 8 O_f, cI h_N k_N 8 N_f, cI h_B k_B 8 B_f] t.heap ∧ va_K (dC, dI) classes [(k_O, .long), (k_N, .int), (k_B, .boolean)] t ∧ va_D A [cY h_Y h_O h_N h_B h_G h_K Y_lo Y_ie Y_ra Y_to Y_te Y_re, cL h_O k_O 8 O_f, cI h_N k_N 8 N_f, cI h_B k_B 8 B_f]) A) ([.ref h_Y, .int a1, .int a2] : List Value).toArray s 0 0 A) (F0 m 22 ls [.int y0]) := by
    intro x1 x2 y0 O_f N_f B_f Y_lo Y_ie Y_ra Y_to Y_te Y_re H locs ls hP hD hS hl hF
    unfold f_Y_whole_22 at hF
    refine lv_istore_n (lv' := [(3, .int y0), (0, .ref h_Y), (1, .int x1), (2, .int x2)]) hx hb d_Y_whole_22 rfl hl (by decide) rfl (fun ls hl => ?_)
    refine lv_aload_n hx hb d_Y_whole_23 rfl (lv_at hl 1 rfl) ?_
    refine va_get (D := (dC, dI)) (ci := 2) (v := .ref h_O) (C := "RoundedNumbersModel") (T := F_Y) (N := 11) hx hb hts in_Y hown hK hP 0 rfl rfl 0 (by decide) (hts _ tw_314) (fun _ h9 => h9) rfl d_Y_whole_24 ?_
    refine lv_iload_n hx hb d_Y_whole_27 rfl (lv_at hl 2 rfl) ?_
    have c_28 : ¬ (x1 < 0 ∨ 8 ≤ x1.toNatClampNeg) := hif_n hF
    replace hF := hif_f c_28 hF
    refine va_lald hx hb hK hP 1 0 rfl rfl c_28 d_Y_whole_28 ?_
    obtain ⟨q_29, hC_29, hF⟩ := hbd hF
    have hPc := hP.sub (ws' := []) [] rfl
    have hDc := hD.sub (ws' := []) [] (by decide) rfl
    have hKc := hK.sub (tys' := []) [] rfl
    have hFc := va_free (wc := []) hD hS hA [] rfl
    refine va_calli (va_runS (As := [.long (O_f x1.toNatClampNeg)]) (rest := []) ⟨hx, hb, hml, hown, hts⟩ (c_Y_bits l dC dI H.size (O_f x1.toNatClampNeg) q_29 hC_29) (cwS 1 hts g_Y_29_Y_bits rfl rfl rfl (by decide +kernel) ⟨Nat.le_of_ble_eq_true rfl, Nat.le_of_ble_eq_true rfl⟩) ⟨fun a U g mk q => by obtain ⟨q0, q1, qP, qK, qD⟩ := q; exact ⟨q0, q1, qP, va_K.moved (u := U) (U := U.calling g mk a) (Vm.Alike.refl U.vm) qK, qD⟩, fun U hU hW => ⟨rfl, by rw [hU], by rw [hU]; exact hPc, va_K.moved hW.alike hKc, hDc.weaken (fun _ _ _ _ => trivial)⟩⟩ rfl rfl hl.1 rfl (lv_room (Nat.le_of_ble_eq_true rfl)) d_Y_whole_29 ⟨Nat.zero_le _, Nat.zero_le _⟩) hS (fun q _ h => hFc q h) hFc (fun r u t H1 locs ht hvm hw hB hz1 hk1 hS => ?_)
    obtain ⟨hP1, hK1, hD1⟩ := hB
    replace hw := hw.symm
    subst hw
    rw [ht] at hP1
    obtain ⟨hP, hD⟩ := va_join (wr := [cY h_Y h_O h_N h_B h_G h_K Y_lo Y_ie Y_ra Y_to Y_te Y_re, cL h_O k_O 8 O_f, cI h_N k_N 8 N_f, cI h_B k_B 8 B_f]) (w1 := []) hP hD [] [0, 1, 2, 3] rfl rfl (by decide) (by decide) hk1 hFc hP1 hD1
    generalize H1 = H at hP hS ⊢
    have hP := hP.sub (ws' := [cY h_Y h_O h_N h_B h_G h_K Y_lo Y_ie Y_ra Y_to Y_te Y_re, cL h_O k_O 8 O_f, cI h_N k_N 8 N_f, cI h_B k_B 8 B_f]) [0, 1, 2, 3] rfl
    have hD := hD.sub (ws' := [cY h_Y h_O h_N h_B h_G h_K Y_lo Y_ie Y_ra Y_to Y_te Y_re, cL h_O k_O 8 O_f, cI h_N k_N 8 N_f, cI h_B k_B 8 B_f]) [0, 1, 2, 3] (by decide) rfl
    refine lv_aload_n hx hb d_Y_whole_32 rfl (lv_at hl 1 rfl) ?_
    refine va_get (D := (dC, dI)) (ci := 2) (v := .ref h_N) (C := "RoundedNumbersModel") (T := F_Y) (N := 11) hx hb hts in_Y hown hK hP 0 rfl rfl 1 (by decide) (hts _ tw_315) (fun _ h9 => h9) rfl d_Y_whole_33 ?_
    refine lv_iload_n hx hb d_Y_whole_36 rfl (lv_at hl 2 rfl) ?_
    have c_37 : ¬ (x1 < 0 ∨ 8 ≤ x1.toNatClampNeg) := hif_n hF
    replace hF := hif_f c_37 hF
    refine va_iald hx hb hK hP 2 1 rfl rfl c_37 d_Y_whole_37 ?_
    refine lv_iadd hx hb d_Y_whole_38 ?_
    refine lv_istore (lv' := [(4, .int (q_29 + (N_f x1.toNatClampNeg))), (3, .int y0), (0, .ref h_Y), (1, .int x1), (2, .int x2)]) hx hb d_Y_whole_39 hl (by decide) rfl (fun ls hl => ?_)
    refine lv_aload_n hx hb d_Y_whole_41 rfl (lv_at hl 2 rfl) ?_
    refine va_get (D := (dC, dI)) (ci := 2) (v := .ref h_O) (C := "RoundedNumbersModel") (T := F_Y) (N := 11) hx hb hts in_Y hown hK hP 0 rfl rfl 0 (by decide) (hts _ tw_314) (fun _ h9 => h9) rfl d_Y_whole_42 ?_
    refine lv_iload_n hx hb d_Y_whole_45 rfl (lv_at hl 3 rfl) ?_
    have c_46 : ¬ (x1 < 0 ∨ 8 ≤ x1.toNatClampNeg) := hif_n hF
    replace hF := hif_f c_46 hF
    refine va_lald hx hb hK hP 1 0 rfl rfl c_46 d_Y_whole_46 ?_
    refine lv_lconst (v := (0 : Int64)) hx hb d_Y_whole_47 (by decide) ?_
    refine W.lcmp hx hb d_Y_whole_48 ?_
    refine lv_if_eq (tgt := 57) hx hb d_Y_whole_49 (by decide) (fun c_49 => ?_) (fun c_49 => ?_)
    · replace hF := hif_t c_49 hF
      refine lv_lconst (v := (0 : Int64)) hx hb d_Y_whole_57 (by decide) ?_
      obtain rfl := Option.some.inj hF
      exact W.lret (v := (0 : Int64)) hx hb hr (fun t ht hW => ⟨⟨(0 : Int64), (), rfl, rfl, by rw [ht]; exact hP, va_K.moved hW.alike hK, hD⟩, hS.F ht⟩) hS.2.2 d_Y_whole_58
    · replace hF := hif_f c_49 hF
      refine lv_iload hx hb d_Y_whole_52 (lv_at hl 0 rfl) ?_
      refine lv_if_gt (tgt := 59) hx hb d_Y_whole_54 (by decide) (fun c_54 => ?_) (fun c_54 => ?_)
      · replace hF := hif_t c_54 hF
        refine lv_iload hx hb d_Y_whole_59 (lv_at hl 0 rfl) ?_
        refine lv_iload_n hx hb d_Y_whole_61 rfl (lv_at hl 1 rfl) ?_
        refine lv_icmp_le (tgt := 100) hx hb d_Y_whole_62 (by decide) (fun c_62 => ?_) (fun c_62 => ?_)
        · replace hF := hif_t c_62 hF
          refine lv_aload_n hx hb d_Y_whole_100 rfl (lv_at hl 2 rfl) ?_
          refine va_get (D := (dC, dI)) (ci := 2) (v := .ref h_N) (C := "RoundedNumbersModel") (T := F_Y) (N := 11) hx hb hts in_Y hown hK hP 0 rfl rfl 1 (by decide) (hts _ tw_315) (fun _ h9 => h9) rfl d_Y_whole_101 ?_
          refine lv_iload_n hx hb d_Y_whole_104 rfl (lv_at hl 3 rfl) ?_
          have c_105 : ¬ (x1 < 0 ∨ 8 ≤ x1.toNatClampNeg) := hif_n hF
          replace hF := hif_f c_105 hF
          refine va_iald hx hb hK hP 2 1 rfl rfl c_105 d_Y_whole_105 ?_
          refine lv_if_lt (tgt := 125) hx hb d_Y_whole_106 (by decide) (fun c_106 => ?_) (fun c_106 => ?_)
          · replace hF := hif_t c_106 hF
            refine lv_aload_n hx hb d_Y_whole_125 rfl (lv_at hl 2 rfl) ?_
            refine va_get (D := (dC, dI)) (ci := 2) (v := .ref h_O) (C := "RoundedNumbersModel") (T := F_Y) (N := 11) hx hb hts in_Y hown hK hP 0 rfl rfl 0 (by decide) (hts _ tw_314) (fun _ h9 => h9) rfl d_Y_whole_126 ?_
            refine lv_iload_n hx hb d_Y_whole_129 rfl (lv_at hl 3 rfl) ?_
            have c_130 : ¬ (x1 < 0 ∨ 8 ≤ x1.toNatClampNeg) := hif_n hF
            replace hF := hif_f c_130 hF
            refine va_lald hx hb hK hP 1 0 rfl rfl c_130 d_Y_whole_130 ?_
            refine lv_aload_n hx hb d_Y_whole_131 rfl (lv_at hl 2 rfl) ?_
            refine va_get (D := (dC, dI)) (ci := 2) (v := .ref h_N) (C := "RoundedNumbersModel") (T := F_Y) (N := 11) hx hb hts in_Y hown hK hP 0 rfl rfl 1 (by decide) (hts _ tw_315) (fun _ h9 => h9) rfl d_Y_whole_132 ?_
            refine lv_iload_n hx hb d_Y_whole_135 rfl (lv_at hl 3 rfl) ?_
            have c_136 : ¬ (x1 < 0 ∨ 8 ≤ x1.toNatClampNeg) := hif_n hF
            replace hF := hif_f c_136 hF
            refine va_iald hx hb hK hP 2 1 rfl rfl c_136 d_Y_whole_136 ?_
            refine lv_ineg hx hb d_Y_whole_137 ?_
            refine lv_lshr (v := (jshr (O_f x1.toNatClampNeg) (-(N_f x1.toNatClampNeg)))) hx hb d_Y_whole_138 rfl ?_
            exact b_139 x1 (jshr (O_f x1.toNatClampNeg) (-(N_f x1.toNatClampNeg))) O_f N_f B_f Y_lo Y_ie Y_ra Y_to Y_te Y_re _ _ _ hP hD hS (lv_sub hl [2, 3] rfl) hF
          · replace hF := hif_f c_106 hF
            refine lv_aload_n hx hb d_Y_whole_109 rfl (lv_at hl 2 rfl) ?_
            refine va_get (D := (dC, dI)) (ci := 2) (v := .ref h_O) (C := "RoundedNumbersModel") (T := F_Y) (N := 11) hx hb hts in_Y hown hK hP 0 rfl rfl 0 (by decide) (hts _ tw_314) (fun _ h9 => h9) rfl d_Y_whole_110 ?_
            refine lv_iload_n hx hb d_Y_whole_113 rfl (lv_at hl 3 rfl) ?_
            have c_114 : ¬ (x1 < 0 ∨ 8 ≤ x1.toNatClampNeg) := hif_n hF
            replace hF := hif_f c_114 hF
            refine va_lald hx hb hK hP 1 0 rfl rfl c_114 d_Y_whole_114 ?_
            refine lv_aload_n hx hb d_Y_whole_115 rfl (lv_at hl 2 rfl) ?_
            refine va_get (D := (dC, dI)) (ci := 2) (v := .ref h_N) (C := "RoundedNumbersModel") (T := F_Y) (N := 11) hx hb hts in_Y hown hK hP 0 rfl rfl 1 (by decide) (hts _ tw_315) (fun _ h9 => h9) rfl d_Y_whole_116 ?_
            refine lv_iload_n hx hb d_Y_whole_119 rfl (lv_at hl 3 rfl) ?_
            have c_120 : ¬ (x1 < 0 ∨ 8 ≤ x1.toNatClampNeg) := hif_n hF
            replace hF := hif_f c_120 hF
            refine va_iald hx hb hK hP 2 1 rfl rfl c_120 d_Y_whole_120 ?_
            refine lv_lshl (v := (jshl (O_f x1.toNatClampNeg) (N_f x1.toNatClampNeg))) hx hb d_Y_whole_121 rfl ?_
            refine lv_goto (tgt := 139) hx hb d_Y_whole_122 (by decide) ?_
            exact b_139 x1 (jshl (O_f x1.toNatClampNeg) (N_f x1.toNatClampNeg)) O_f N_f B_f Y_lo Y_ie Y_ra Y_to Y_te Y_re _ _ _ hP hD hS (lv_sub hl [2, 3] rfl) hF
        · replace hF := hif_f c_62 hF
          refine lv_iload_n hx hb d_Y_whole_65 rfl (lv_at hl 4 rfl) ?_
          refine lv_if_eq (tgt := 75) hx hb d_Y_whole_66 (by decide) (fun c_66 => ?_) (fun c_66 => ?_)
          · replace hF := hif_t c_66 hF
            refine lv_ldc2 (v := (2147483647 : Int64)) hx hb hown (hts _ tw_514) d_Y_whole_75 ?_
            exact b_78 x1 (2147483647 : Int64) O_f N_f B_f Y_lo Y_ie Y_ra Y_to Y_te Y_re _ _ _ hP hD hS (lv_sub hl [2, 3] rfl) hF
          · replace hF := hif_f c_66 hF
            refine lv_ldc2 (v := (9223372036854775807 : Int64)) hx hb hown (hts _ tw_513) d_Y_whole_69 ?_
            refine lv_goto (tgt := 78) hx hb d_Y_whole_72 (by decide) ?_
            exact b_78 x1 (9223372036854775807 : Int64) O_f N_f B_f Y_lo Y_ie Y_ra Y_to Y_te Y_re _ _ _ hP hD hS (lv_sub hl [2, 3] rfl) hF
      · replace hF := hif_f c_54 hF
        refine lv_lconst (v := (0 : Int64)) hx hb d_Y_whole_57 (by decide) ?_
        obtain rfl := Option.some.inj hF
        exact W.lret (v := (0 : Int64)) hx hb hr (fun t ht hW => ⟨⟨(0 : Int64), (), rfl, rfl, by rw [ht]; exact hP, va_K.moved hW.alike hK, hD⟩, hS.F ht⟩) hS.2.2 d_Y_whole_58
  unfold f_Y_whole at hF
  refine lv_iload_n hx hb d_Y_whole_0 rfl (lv_at hl 1 rfl) ?_
  obtain ⟨q_1, hC_1, hF⟩ := hbd hF
  have hPc := hP.sub (ws' := []) [] rfl
  have hDc := hD.sub (ws' := []) [] (by decide) rfl
  have hKc := hK.sub (tys' := []) [] rfl
  have hFc := va_free (wc := []) hD hS hA [] rfl
  refine va_calli (va_runS (As := [.int a1]) (rest := []) ⟨hx, hb, hml, hown, hts⟩ (c_Y_out l dC dI s.heap.size a1 q_1 hC_1) (cwS 1 hts g_Y_101_Y_out rfl rfl rfl (by decide +kernel) ⟨Nat.le_of_ble_eq_true rfl, Nat.le_of_ble_eq_true rfl⟩) ⟨fun a U g mk q => by obtain ⟨q0, q1, qP, qK, qD⟩ := q; exact ⟨q0, q1, qP, va_K.moved (u := U) (U := U.calling g mk a) (Vm.Alike.refl U.vm) qK, qD⟩, fun U hU hW => ⟨rfl, by rw [hU], by rw [hU]; exact hPc, va_K.moved hW.alike hKc, hDc.weaken (fun _ _ _ _ => trivial)⟩⟩ rfl rfl hl.1 rfl (lv_room (Nat.le_of_ble_eq_true rfl)) d_Y_whole_1 ⟨Nat.zero_le _, Nat.zero_le _⟩) hS (fun q _ h => hFc q h) hFc (fun r u t H1 locs ht hvm hw hB hz1 hk1 hS => ?_)
  obtain ⟨hP1, hK1, hD1⟩ := hB
  replace hw := hw.symm
  subst hw
  rw [ht] at hP1
  obtain ⟨hP, hD⟩ := va_join (wr := [cY h_Y h_O h_N h_B h_G h_K Y_lo Y_ie Y_ra Y_to Y_te Y_re, cL h_O k_O 8 O_f, cI h_N k_N 8 N_f, cI h_B k_B 8 B_f]) (w1 := []) hP hD [] [0, 1, 2, 3] rfl rfl (by decide) (by decide) hk1 hFc hP1 hD1
  generalize H1 = H at hP hS ⊢
  have hP := hP.sub (ws' := [cY h_Y h_O h_N h_B h_G h_K Y_lo Y_ie Y_ra Y_to Y_te Y_re, cL h_O k_O 8 O_f, cI h_N k_N 8 N_f, cI h_B k_B 8 B_f]) [0, 1, 2, 3] rfl
  have hD := hD.sub (ws' := [cY h_Y h_O h_N h_B h_G h_K Y_lo Y_ie Y_ra Y_to Y_te Y_re, cL h_O k_O 8 O_f, cI h_N k_N 8 N_f, cI h_B k_B 8 B_f]) [0, 1, 2, 3] (by decide) rfl
  refine lv_if_eq (tgt := 11) hx hb d_Y_whole_4 (by decide) (fun c_4 => ?_) (fun c_4 => ?_)
  · replace hF := hif_t c_4 hF
    refine lv_iload_n hx hb d_Y_whole_11 rfl (lv_at hl 2 rfl) ?_
    refine lv_if_eq (tgt := 20) hx hb d_Y_whole_12 (by decide) (fun c_12 => ?_) (fun c_12 => ?_)
    · replace hF := hif_t c_12 hF
      refine lv_bipush (v := (31 : Int32)) hx hb d_Y_whole_20 (by decide) ?_
      exact b_22 a1 a2 (31 : Int32) O_f N_f B_f Y_lo Y_ie Y_ra Y_to Y_te Y_re _ _ _ hP hD hS (lv_sub hl [0, 1, 2] rfl) hF
    · replace hF := hif_f c_12 hF
      refine lv_bipush (v := (63 : Int32)) hx hb d_Y_whole_15 (by decide) ?_
      refine lv_goto (tgt := 22) hx hb d_Y_whole_17 (by decide) ?_
      exact b_22 a1 a2 (63 : Int32) O_f N_f B_f Y_lo Y_ie Y_ra Y_to Y_te Y_re _ _ _ hP hD hS (lv_sub hl [0, 1, 2] rfl) hF
  · replace hF := hif_f c_4 hF
    refine lv_ldc2 (v := (-4611686018427387904 : Int64)) hx hb hown (hts _ tw_504) d_Y_whole_7 ?_
    obtain rfl := Option.some.inj hF
    exact W.lret (v := (-4611686018427387904 : Int64)) hx hb hr (fun t ht hW => ⟨⟨(-4611686018427387904 : Int64), (), rfl, rfl, by rw [ht]; exact hP, va_K.moved hW.alike hK, hD⟩, hS.F ht⟩) hS.2.2 d_Y_whole_10
set_option maxHeartbeats 4000000 in
set_option maxRecDepth 100000 in
theorem c_Y_count (l : Launch) (dC : Nat → ClassId) (dI : Nat → Nat → Nat) (h_Y : Nat) (h_O : Nat) (h_N : Nat) (h_B : Nat) (h_G : Nat) (h_K : Nat) (k_O : ClassId) (sz : Nat) (Y_lo : Int32) (Y_ie : Int32) (Y_ra : Int32) (Y_to : Int64) (Y_te : Int32) (Y_re : Int32) (O_f : Nat → Int64) (a1 : Int32) (o : Int32) (hF : f_Y_count Y_lo Y_ie Y_ra O_f a1 = some o) : Met l y_Y_count w_Y_count ({ frames := 1, cells := 0, slots := 0, locals := 21 } : Room) (va_Pc [.ref h_Y, .int a1] (fun U => U.heap.size = sz ∧ va_P (dC, dI) classes [cY h_Y h_O h_N h_B h_G h_K Y_lo Y_ie Y_ra Y_to Y_te Y_re, cL h_O k_O 8 O_f] U.heap ∧ va_K (dC, dI) classes [(k_O, .long)] U ∧ va_D (fun _ => True) [cY h_Y h_O h_N h_B h_G h_K Y_lo Y_ie Y_ra Y_to Y_te Y_re, cL h_O k_O 8 O_f])) (va_Qi (fun (r : Int32) (_ : Unit) => r = o) (fun (_ : Unit) (t : State) => va_P (dC, dI) classes [cY h_Y h_O h_N h_B h_G h_K Y_lo Y_ie Y_ra Y_to Y_te Y_re, cL h_O k_O 8 O_f] t.heap ∧ va_K (dC, dI) classes [(k_O, .long)] t ∧ va_D (va_A [cY h_Y h_O h_N h_B h_G h_K Y_lo Y_ie Y_ra Y_to Y_te Y_re, cL h_O k_O 8 O_f] sz) [cY h_Y h_O h_N h_B h_G h_K Y_lo Y_ie Y_ra Y_to Y_te Y_re, cL h_O k_O 8 O_f]) (va_A [cY h_Y h_O h_N h_B h_G h_K Y_lo Y_ie Y_ra Y_to Y_te Y_re, cL h_O k_O 8 O_f] sz)) 0 0 (va_A [cY h_Y h_O h_N h_B h_G h_K Y_lo Y_ie Y_ra Y_to Y_te Y_re, cL h_O k_O 8 O_f] sz) := by
  refine Met.ofW (cc := prog_4_method_43_code) (maxL := 4) (ret := (some .int)) (by decide) rfl ?_
  intro p e s m args below meth c s₁ B hml hv
  obtain ⟨rfl, hsz, hP, hK, hD0⟩ := hv
  have hx := B.exec
  have hb := B.bytes
  have hr := B.returns
  have hts0 := atoms_spec (ws := w_Y_count) B.pre
  have hts : ∀ w ∈ tb, w.before _ s = true := fun w h => hts0 w (List.mem_cons_of_mem _ h)
  clear hts0
  have hown : s.vm.findClass "RoundedNumbersModel" = some m.cls := findClass_of_methodNamed B.named
  have hlocks := B.notSynchronized
  subst hsz
  have hD := hD0.self (sz := s.heap.size)
  generalize hAe : va_A [cY h_Y h_O h_N h_B h_G h_K Y_lo Y_ie Y_ra Y_to Y_te Y_re, cL h_O k_O 8 O_f] s.heap.size = A at hD ⊢
  have hA : ∀ q : Nat, s.heap.size ≤ q → A q := fun q h => by rw [← hAe]; exact Or.inr h
  clear hAe
  have hS : va_S A s.heap s.heap [] := va_S.rf
  have hP : va_P (dC, dI) classes [cY h_Y h_O h_N h_B h_G h_K Y_lo Y_ie Y_ra Y_to Y_te Y_re, cL h_O k_O 8 O_f] s.heap := hP
  have hl := lv_entry ([.ref h_Y, .int a1]) (n := 4) (Nat.le_of_ble_eq_true rfl)
  rw [lg_entry_eq]
  generalize (lg_sl ([.ref h_Y, .int a1]) ++ List.replicate (4 - (lg_sl ([.ref h_Y, .int a1])).length) Slot.unset).toArray = ls at hl ⊢
  have hl : lv_has ls 4 [(0, .ref h_Y), (1, .int a1)] := hl
  have b_39 : ∀ n_ : Nat, ∀ (x2 : Int32) (x3 : Int32) (Y_lo : Int32) (Y_ie : Int32) (Y_ra : Int32) (O_f : Nat → Int64) (Y_to : Int64) (Y_te : Int32) (Y_re : Int32) (H : Heap) (locs : List Loc) (ls : Array Slot), va_P (dC, dI) classes [cY h_Y h_O h_N h_B h_G h_K Y_lo Y_ie Y_ra Y_to Y_te Y_re, cL h_O k_O 8 O_f] H → va_D A [cY h_Y h_O h_N h_B h_G h_K Y_lo Y_ie Y_ra Y_to Y_te Y_re, cL h_O k_O 8 O_f] → va_S A s.heap H locs → lv_has ls 4 [(0, .ref h_Y), (2, .int x2), (3, .int x3)] → f_Y_count_39 n_ x2 x3 Y_lo Y_ie Y_ra O_f = some o → W p l e (headSpec w_Y_count ({ frames := 1, cells := 0, slots := 0, locals := 21 } : Room)).room s m ([.ref h_Y, .int a1] : List Value).toArray below meth c H locs 0 0 (MQ below (va_Qi (fun (r : Int32) (_ : Unit) => r = o) (fun (_ : Unit) (t : State) => va_P (dC, dI) classes [cY h_Y h_O h_N h_B h_G h_K Y_lo Y_ie Y_ra Y_to Y_te Y_re, cL h_O k_O 8 O_f] t.heap ∧ va_K (dC, dI) classes [(k_O, .long)] t ∧ va_D A [cY h_Y h_O h_N h_B h_G h_K Y_lo Y_ie Y_ra Y_to Y_te Y_re, cL h_O k_O 8 O_f]) A) ([.ref h_Y, .int a1] : List Value).toArray s 0 0 A) (F0 m 39 ls []) := by
    intro n_
    induction n_ with
    | zero =>
      intro x2 x3 Y_lo Y_ie Y_ra O_f Y_to Y_te Y_re H locs ls hP hD hS hl hF
      rw [f_Y_count_39] at hF
      exact absurd hF (by simp)
    | succ n_ ih =>
      obtain ⟨k_39, ek_39⟩ : ∃ k, k = f_Y_count_39 n_ := ⟨_, rfl⟩
      rw [← ek_39] at ih
      have hk_39 := ih
      intro x2 x3 Y_lo Y_ie Y_ra O_f Y_to Y_te Y_re H locs ls hP hD hS hl hF
      rw [f_Y_count_39, ← ek_39] at hF
      refine lv_iload_n hx hb d_Y_count_39 rfl (lv_at hl 2 rfl) ?_
      refine lv_bipush (v := (8 : Int32)) hx hb d_Y_count_40 (by decide) ?_
      refine lv_icmp_ge (tgt := 62) hx hb d_Y_count_42 (by decide) (fun c_42 => ?_) (fun c_42 => ?_)
      · replace hF := hif_t c_42 hF
        refine lv_iload_n hx hb d_Y_count_62 rfl (lv_at hl 1 rfl) ?_
        obtain rfl := Option.some.inj hF
        exact W.iret (v := x2) hx hb hr (fun t ht hW => ⟨⟨x2, (), rfl, rfl, by rw [ht]; exact hP, va_K.moved hW.alike hK, hD⟩, hS.F ht⟩) hS.2.2 d_Y_count_63
      · replace hF := hif_f c_42 hF
        refine lv_aload_n hx hb d_Y_count_45 rfl (lv_at hl 0 rfl) ?_
        refine lv_iload_n hx hb d_Y_count_46 rfl (lv_at hl 2 rfl) ?_
        obtain ⟨q_47, hC_47, hF⟩ := hbd hF
        have hPc := hP.sub (ws' := [cY h_Y h_O h_N h_B h_G h_K Y_lo Y_ie Y_ra Y_to Y_te Y_re, cL h_O k_O 8 O_f]) [0, 1] rfl
        have hDc := hD.sub (ws' := [cY h_Y h_O h_N h_B h_G h_K Y_lo Y_ie Y_ra Y_to Y_te Y_re, cL h_O k_O 8 O_f]) [0, 1] (by decide) rfl
        have hKc := hK.sub (tys' := [(k_O, .long)]) [0] rfl
        have hFc := va_free (wc := [cY h_Y h_O h_N h_B h_G h_K Y_lo Y_ie Y_ra Y_to Y_te Y_re, cL h_O k_O 8 O_f]) hD hS hA [0, 1] rfl
        refine va_calli (va_runV (As := [.int x3]) (rest := []) ⟨hx, hb, hml, hown, hts⟩ (c_Y_narrow l dC dI h_Y h_O h_N h_B h_G h_K k_O H.size Y_lo Y_ie Y_ra Y_to Y_te Y_re O_f x3 q_47 hC_47) (cwV 1 hts g_Y_109_Y_narrow rfl rfl rfl (by decide +kernel) ⟨Nat.le_of_ble_eq_true rfl, Nat.le_of_ble_eq_true rfl⟩) ⟨fun a U g mk q => by obtain ⟨q0, q1, qP, qK, qD⟩ := q; exact ⟨q0, q1, qP, va_K.moved (u := U) (U := U.calling g mk a) (Vm.Alike.refl U.vm) qK, qD⟩, va_recv hKc hPc (ci := 2) (q0 := 0) rfl rfl, fun U hU hW => ⟨rfl, by rw [hU], by rw [hU]; exact hPc, va_K.moved hW.alike hKc, hDc.weaken (fun _ _ _ _ => trivial)⟩⟩ rfl rfl hl.1 rfl (lv_room (Nat.le_of_ble_eq_true rfl)) d_Y_count_47 ⟨Nat.zero_le _, Nat.zero_le _⟩) hS (fun q _ h => hFc q h) hFc (fun r u t H1 locs ht hvm hw hB hz1 hk1 hS => ?_)
        obtain ⟨hP1, hK1, hD1⟩ := hB
        replace hw := hw.symm
        subst hw
        rw [ht] at hP1
        obtain ⟨hP, hD⟩ := va_join (wr := []) (w1 := [cY h_Y h_O h_N h_B h_G h_K Y_lo Y_ie Y_ra Y_to Y_te Y_re, cL h_O k_O 8 O_f]) hP hD [0, 1] [] rfl rfl (by decide) (by decide) hk1 hFc hP1 hD1
        generalize H1 = H at hP hS ⊢
        have hP := hP.sub (ws' := [cY h_Y h_O h_N h_B h_G h_K Y_lo Y_ie Y_ra Y_to Y_te Y_re, cL h_O k_O 8 O_f]) [0, 1] rfl
        have hD := hD.sub (ws' := [cY h_Y h_O h_N h_B h_G h_K Y_lo Y_ie Y_ra Y_to Y_te Y_re, cL h_O k_O 8 O_f]) [0, 1] (by decide) rfl
        refine lv_if_eq (tgt := 56) hx hb d_Y_count_50 (by decide) (fun c_50 => ?_) (fun c_50 => ?_)
        · replace hF := hif_t c_50 hF
          refine lv_iinc (v := (x3 + (1 : Int32))) (lv' := [(3, .int (x3 + (1 : Int32))), (0, .ref h_Y), (2, .int x2)]) hx hb d_Y_count_56 hl (k := 2) rfl rfl (by decide) rfl (fun ls hl => ?_)
          refine lv_goto (tgt := 39) hx hb d_Y_count_59 (by decide) ?_
          exact hk_39 x2 (x3 + (1 : Int32)) Y_lo Y_ie Y_ra O_f Y_to Y_te Y_re _ _ _ hP hD hS (lv_sub hl [1, 2, 0] rfl) hF
        · replace hF := hif_f c_50 hF
          refine lv_iinc (v := (x2 + (1 : Int32))) (lv' := [(2, .int (x2 + (1 : Int32))), (0, .ref h_Y), (3, .int x3)]) hx hb d_Y_count_53 hl (k := 1) rfl rfl (by decide) rfl (fun ls hl => ?_)
          refine lv_iinc (v := (x3 + (1 : Int32))) (lv' := [(3, .int (x3 + (1 : Int32))), (2, .int (x2 + (1 : Int32))), (0, .ref h_Y)]) hx hb d_Y_count_56 hl (k := 2) rfl rfl (by decide) rfl (fun ls hl => ?_)
          refine lv_goto (tgt := 39) hx hb d_Y_count_59 (by decide) ?_
          exact hk_39 (x2 + (1 : Int32)) (x3 + (1 : Int32)) Y_lo Y_ie Y_ra O_f Y_to Y_te Y_re _ _ _ hP hD hS (lv_sub hl [2, 1, 0] rfl) hF
  unfold f_Y_count at hF
  refine lv_iconst (v := (0 : Int32)) hx hb d_Y_count_0 (by decide) ?_
  refine lv_istore_n (lv' := [(2, .int (0 : Int32)), (0, .ref h_Y), (1, .int a1)]) hx hb d_Y_count_1 rfl hl (by decide) rfl (fun ls hl => ?_)
  refine lv_iload_n hx hb d_Y_count_2 rfl (lv_at hl 2 rfl) ?_
  rcases Decidable.em (a1 = (0 : Int32)) with c_3_0 | c_3_0
  · replace hF := hif_t c_3_0 hF
    refine lv_tableIn (tgt := 32) hx hb d_Y_count_3 (by rw [c_3_0]; decide) (by rw [c_3_0]; decide) (by rw [c_3_0]; rfl) (by decide) ?_
    refine lv_aload_n hx hb d_Y_count_32 rfl (lv_at hl 1 rfl) ?_
    refine va_get (D := (dC, dI)) (ci := 2) (v := .int Y_lo) (C := "RoundedNumbersModel") (T := F_Y) (N := 11) hx hb hts in_Y hown hK hP 0 rfl rfl 3 (by decide) (hts _ tw_317) (fun _ h9 => h9) rfl d_Y_count_33 ?_
    obtain rfl := Option.some.inj hF
    exact W.iret (v := Y_lo) hx hb hr (fun t ht hW => ⟨⟨Y_lo, (), rfl, rfl, by rw [ht]; exact hP, va_K.moved hW.alike hK, hD⟩, hS.F ht⟩) hS.2.2 d_Y_count_36
  · replace hF := hif_f c_3_0 hF
    rcases Decidable.em (a1 = (1 : Int32)) with c_3_1 | c_3_1
    · replace hF := hif_t c_3_1 hF
      refine lv_tableIn (tgt := 37) hx hb d_Y_count_3 (by rw [c_3_1]; decide) (by rw [c_3_1]; decide) (by rw [c_3_1]; rfl) (by decide) ?_
      refine lv_iconst (v := (0 : Int32)) hx hb d_Y_count_37 (by decide) ?_
      refine lv_istore_n (lv' := [(3, .int (0 : Int32)), (2, .int (0 : Int32)), (0, .ref h_Y), (1, .int a1)]) hx hb d_Y_count_38 rfl hl (by decide) rfl (fun ls hl => ?_)
      exact b_39 1000 (0 : Int32) (0 : Int32) Y_lo Y_ie Y_ra O_f Y_to Y_te Y_re _ _ _ hP hD hS (lv_sub hl [2, 1, 0] rfl) hF
    · replace hF := hif_f c_3_1 hF
      rcases Decidable.em (a1 = (2 : Int32)) with c_3_2 | c_3_2
      · replace hF := hif_t c_3_2 hF
        refine lv_tableIn (tgt := 64) hx hb d_Y_count_3 (by rw [c_3_2]; decide) (by rw [c_3_2]; decide) (by rw [c_3_2]; rfl) (by decide) ?_
        refine lv_aload_n hx hb d_Y_count_64 rfl (lv_at hl 1 rfl) ?_
        refine va_get (D := (dC, dI)) (ci := 2) (v := .int Y_ie) (C := "RoundedNumbersModel") (T := F_Y) (N := 11) hx hb hts in_Y hown hK hP 0 rfl rfl 4 (by decide) (hts _ tw_318) (fun _ h9 => h9) rfl d_Y_count_65 ?_
        obtain rfl := Option.some.inj hF
        exact W.iret (v := Y_ie) hx hb hr (fun t ht hW => ⟨⟨Y_ie, (), rfl, rfl, by rw [ht]; exact hP, va_K.moved hW.alike hK, hD⟩, hS.F ht⟩) hS.2.2 d_Y_count_68
      · replace hF := hif_f c_3_2 hF
        rcases Decidable.em (a1 = (3 : Int32)) with c_3_3 | c_3_3
        · replace hF := hif_t c_3_3 hF
          refine lv_tableIn (tgt := 69) hx hb d_Y_count_3 (by rw [c_3_3]; decide) (by rw [c_3_3]; decide) (by rw [c_3_3]; rfl) (by decide) ?_
          refine lv_aload_n hx hb d_Y_count_69 rfl (lv_at hl 1 rfl) ?_
          refine va_get (D := (dC, dI)) (ci := 2) (v := .int Y_ra) (C := "RoundedNumbersModel") (T := F_Y) (N := 11) hx hb hts in_Y hown hK hP 0 rfl rfl 5 (by decide) (hts _ tw_319) (fun _ h9 => h9) rfl d_Y_count_70 ?_
          obtain rfl := Option.some.inj hF
          exact W.iret (v := Y_ra) hx hb hr (fun t ht hW => ⟨⟨Y_ra, (), rfl, rfl, by rw [ht]; exact hP, va_K.moved hW.alike hK, hD⟩, hS.F ht⟩) hS.2.2 d_Y_count_73
        · replace hF := hif_f c_3_3 hF
          have z_0 := lv_neT c_3_0 (a := 0) (by decide)
          have z_1 := lv_neT c_3_1 (a := 1) (by decide)
          have z_2 := lv_neT c_3_2 (a := 2) (by decide)
          have z_3 := lv_neT c_3_3 (a := 3) (by decide)
          refine lv_tableOut (tgt := 74) hx hb d_Y_count_3 (by omega) (by decide) ?_
          refine lv_bipush (v := (-100 : Int32)) hx hb d_Y_count_74 (by decide) ?_
          obtain rfl := Option.some.inj hF
          exact W.iret (v := (-100 : Int32)) hx hb hr (fun t ht hW => ⟨⟨(-100 : Int32), (), rfl, rfl, by rw [ht]; exact hP, va_K.moved hW.alike hK, hD⟩, hS.F ht⟩) hS.2.2 d_Y_count_76
