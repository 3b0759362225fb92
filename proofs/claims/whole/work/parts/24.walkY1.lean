set_option maxHeartbeats 4000000 in
set_option maxRecDepth 100000 in
theorem c_Y_round (l : Launch) (dC : Nat → ClassId) (dI : Nat → Nat → Nat) (h_Y : Nat) (h_O : Nat) (h_N : Nat) (h_B : Nat) (h_G : Nat) (h_K : Nat) (k_O : ClassId) (k_N : ClassId) (k_B : ClassId) (sz : Nat) (Y_lo : Int32) (Y_ie : Int32) (Y_ra : Int32) (Y_to : Int64) (Y_te : Int32) (Y_re : Int32) (O_f : Nat → Int64) (N_f : Nat → Int32) (B_f : Nat → Int32) (a1 : Int32) (a2 : Int32) (a3 : Int32) (o : Int32 × Int32 × Int32 × Int32 × (Nat → Int64) × (Nat → Int32) × (Nat → Int32)) (hF : f_Y_round Y_lo Y_ie Y_ra Y_to Y_te Y_re O_f N_f B_f a1 a2 a3 = some o) : Met l y_Y_round w_Y_round ({ frames := 3, cells := 0, slots := 0, locals := 73 } : Room) (va_Pc [.ref h_Y, .int a1, .int a2, .int a3] (fun U => U.heap.size = sz ∧ va_P (dC, dI) classes [cY h_Y h_O h_N h_B h_G h_K Y_lo Y_ie Y_ra Y_to Y_te Y_re, cL h_O k_O 8 O_f, cI h_N k_N 8 N_f, cI h_B k_B 8 B_f] U.heap ∧ va_K (dC, dI) classes [(k_O, .long), (k_N, .int), (k_B, .boolean)] U ∧ va_D (fun _ => True) [cY h_Y h_O h_N h_B h_G h_K Y_lo Y_ie Y_ra Y_to Y_te Y_re, cL h_O k_O 8 O_f, cI h_N k_N 8 N_f, cI h_B k_B 8 B_f])) (va_Qi (fun (r : Int32) (_ : Unit) => r = o.1) (fun (_ : Unit) (t : State) => va_P (dC, dI) classes [cY h_Y h_O h_N h_B h_G h_K o.2.1 o.2.2.1 o.2.2.2.1 Y_to Y_te Y_re, cL h_O k_O 8 o.2.2.2.2.1, cI h_N k_N 8 o.2.2.2.2.2.1, cI h_B k_B 8 o.2.2.2.2.2.2] t.heap ∧ va_K (dC, dI) classes [(k_O, .long), (k_N, .int), (k_B, .boolean)] t ∧ va_D (va_A [cY h_Y h_O h_N h_B h_G h_K Y_lo Y_ie Y_ra Y_to Y_te Y_re, cL h_O k_O 8 O_f, cI h_N k_N 8 N_f, cI h_B k_B 8 B_f] sz) [cY h_Y h_O h_N h_B h_G h_K o.2.1 o.2.2.1 o.2.2.2.1 Y_to Y_te Y_re, cL h_O k_O 8 o.2.2.2.2.1, cI h_N k_N 8 o.2.2.2.2.2.1, cI h_B k_B 8 o.2.2.2.2.2.2]) (va_A [cY h_Y h_O h_N h_B h_G h_K Y_lo Y_ie Y_ra Y_to Y_te Y_re, cL h_O k_O 8 O_f, cI h_N k_N 8 N_f, cI h_B k_B 8 B_f] sz)) 0 0 (va_A [cY h_Y h_O h_N h_B h_G h_K Y_lo Y_ie Y_ra Y_to Y_te Y_re, cL h_O k_O 8 O_f, cI h_N k_N 8 N_f, cI h_B k_B 8 B_f] sz) := by
  refine Met.ofW (cc := prog_4_method_9_code) (maxL := 12) (ret := (some .int)) (by decide) rfl ?_
  intro p e s m args below meth c s₁ B hml hv
  obtain ⟨rfl, hsz, hP, hK, hD0⟩ := hv
  have hx := B.exec
  have hb := B.bytes
  have hr := B.returns
  have hts0 := atoms_spec (ws := w_Y_round) B.pre
  have hts : ∀ w ∈ tb, w.before _ s = true := fun w h => hts0 w (List.mem_cons_of_mem _ h)
  clear hts0
  have hown : s.vm.findClass "RoundedNumbersModel" = some m.cls := findClass_of_methodNamed B.named
  have hlocks := B.notSynchronized
  subst hsz
  have hD := hD0.self (sz := s.heap.size)
  generalize hAe : va_A [cY h_Y h_O h_N h_B h_G h_K Y_lo Y_ie Y_ra Y_to Y_te Y_re, cL h_O k_O 8 O_f, cI h_N k_N 8 N_f, cI h_B k_B 8 B_f] s.heap.size = A at hD ⊢
  have hA : ∀ q : Nat, s.heap.size ≤ q → A q := fun q h => by rw [← hAe]; exact Or.inr h
  clear hAe
  have hS : va_S A s.heap s.heap [] := va_S.rf
  have hP : va_P (dC, dI) classes [cY h_Y h_O h_N h_B h_G h_K Y_lo Y_ie Y_ra Y_to Y_te Y_re, cL h_O k_O 8 O_f, cI h_N k_N 8 N_f, cI h_B k_B 8 B_f] s.heap := hP
  have hl := lv_entry ([.ref h_Y, .int a1, .int a2, .int a3]) (n := 12) (Nat.le_of_ble_eq_true rfl)
  rw [lg_entry_eq]
  generalize (lg_sl ([.ref h_Y, .int a1, .int a2, .int a3]) ++ List.replicate (12 - (lg_sl ([.ref h_Y, .int a1, .int a2, .int a3])).length) Slot.unset).toArray = ls at hl ⊢
  have hl : lv_has ls 12 [(0, .ref h_Y), (1, .int a1), (2, .int a2), (3, .int a3)] := hl
  have b_155 : ∀ (x4 : Int32) (x11 : Int32) (y0 : Int64) (y1 : Int32) (y2 : Int32) (Y_lo : Int32) (Y_ie : Int32) (Y_ra : Int32) (Y_to : Int64) (Y_te : Int32) (Y_re : Int32) (O_f : Nat → Int64) (N_f : Nat → Int32) (B_f : Nat → Int32) (H : Heap) (locs : List Loc) (ls : Array Slot), va_P (dC, dI) classes [cY h_Y h_O h_N h_B h_G h_K Y_lo Y_ie Y_ra Y_to Y_te Y_re, cL h_O k_O 8 O_f, cI h_N k_N 8 N_f, cI h_B k_B 8 B_f] H → va_D A [cY h_Y h_O h_N h_B h_G h_K Y_lo Y_ie Y_ra Y_to Y_te Y_re, cL h_O k_O 8 O_f, cI h_N k_N 8 N_f, cI h_B k_B 8 B_f] → va_S A s.heap H locs → lv_has ls 12 [(0, .ref h_Y), (4, .int x4), (11, .int x11)] → f_Y_round_155  x4 x11 y0 y1 y2 Y_lo Y_ie Y_ra Y_to Y_te Y_re O_f N_f B_f = some o → W p l e (headSpec w_Y_round ({ frames := 3, cells := 0, slots := 0, locals := 73 } : Room)).room s m ([.ref h_Y, .int a1, .int a2, .int a3] : List Value).toArray below meth c H locs 0 0 (MQ below (va_Qi (fun (r : Int32) (_ : Unit) => r = o.1) (fun (_ : Unit) (t : State) => va_P (dC, dI) classes [cY h_Y h_O h_N h_B h_G h_K o.2.1 o.2.2.1 o.2.2.2.1 Y_to Y_te Y_re, cL h_O k_O 8 o.2.2.2.2.1, cI h_N k_N 8 o.2.2.2.2.2.1, cI h_B k_B 8 o.2.2.2.2.2.2] t.heap ∧ va_K (dC, dI) classes [(k_O, .long), (k_N, .int), (k_B, .boolean)] t ∧ va_D A [cY h_Y h_O h_N h_B h_G h_K o.2.1 o.2.2.1 o.2.2.2.1 Y_to Y_te Y_re, cL h_O k_O 8 o.2.2.2.2.1, cI h_N k_N 8 o.2.2.2.2.2.1, cI h_B k_B 8 o.2.2.2.2.2.2]) A) ([.ref h_Y, .int a1, .int a2, .int a3] : List Value).toArray s 0 0 A) (F0 m 155 ls [.long y0, .int y1, .int y2, .ref h_Y]) := by
    intro x4 x11 y0 y1 y2 Y_lo Y_ie Y_ra Y_to Y_te Y_re O_f N_f B_f H locs ls hP hD hS hl hF
    unfold f_Y_round_155 at hF
    refine lv_aload_n hx hb d_Y_round_155 rfl (lv_at hl 0 rfl) ?_
    refine va_get (D := (dC, dI)) (ci := 2) (v := .int Y_te) (C := "RoundedNumbersModel") (T := F_Y) (N := 11) hx hb hts in_Y hown hK hP 0 rfl rfl 9 (by decide) (hts _ tw_323) (fun _ h9 => h9) rfl d_Y_round_156 ?_
    refine lv_iload hx hb d_Y_round_159 (lv_at hl 1 rfl) ?_
    refine lv_iadd hx hb d_Y_round_161 ?_
    refine lv_iload hx hb d_Y_round_162 (lv_at hl 2 rfl) ?_
    refine lv_if_eq (tgt := 171) hx hb d_Y_round_164 (by decide) (fun c_164 => ?_) (fun c_164 => ?_)
    · replace hF := hif_t c_164 hF
      refine lv_iconst (v := (-1 : Int32)) hx hb d_Y_round_171 (by decide) ?_
      obtain ⟨q_172, hC_172, hF⟩ := hbd hF
      have hPc := hP.sub (ws' := [cY h_Y h_O h_N h_B h_G h_K Y_lo Y_ie Y_ra Y_to Y_te Y_re, cL h_O k_O 8 O_f, cI h_N k_N 8 N_f, cI h_B k_B 8 B_f]) [0, 1, 2, 3] rfl
      have hDc := hD.sub (ws' := [cY h_Y h_O h_N h_B h_G h_K Y_lo Y_ie Y_ra Y_to Y_te Y_re, cL h_O k_O 8 O_f, cI h_N k_N 8 N_f, cI h_B k_B 8 B_f]) [0, 1, 2, 3] (by decide) rfl
      have hKc := hK.sub (tys' := [(k_O, .long), (k_N, .int), (k_B, .boolean)]) [0, 1, 2] rfl
      have hFc := va_free (wc := [cY h_Y h_O h_N h_B h_G h_K Y_lo Y_ie Y_ra Y_to Y_te Y_re, cL h_O k_O 8 O_f, cI h_N k_N 8 N_f, cI h_B k_B 8 B_f]) hD hS hA [0, 1, 2, 3] rfl
      refine va_calli (va_runV (As := [.int y2, .int y1, .long y0, .int (Y_te + x4), .int (-1 : Int32)]) (rest := []) ⟨hx, hb, hml, hown, hts⟩ (c_Y_finish l dC dI h_Y h_O h_N h_B h_G h_K k_O k_N k_B H.size Y_lo Y_ie Y_ra Y_to Y_te Y_re O_f N_f B_f y2 y1 y0 (Y_te + x4) (-1 : Int32) q_172 hC_172) (cwV 5 hts g_Y_64_Y_finish rfl rfl rfl (by decide +kernel) ⟨Nat.le_of_ble_eq_true rfl, Nat.le_of_ble_eq_true rfl⟩) ⟨fun a U g mk q => by obtain ⟨q0, q1, qP, qK, qD⟩ := q; exact ⟨q0, q1, qP, va_K.moved (u := U) (U := U.calling g mk a) (Vm.Alike.refl U.vm) qK, qD⟩, va_recv hKc hPc (ci := 2) (q0 := 0) rfl rfl, fun U hU hW => ⟨rfl, by rw [hU], by rw [hU]; exact hPc, va_K.moved hW.alike hKc, hDc.weaken (fun _ _ _ _ => trivial)⟩⟩ rfl rfl hl.1 rfl (lv_room (Nat.le_of_ble_eq_true rfl)) d_Y_round_172 ⟨Nat.zero_le _, Nat.zero_le _⟩) hS (fun q _ h => hFc q h) hFc (fun r u t H1 locs ht hvm hw hB hz1 hk1 hS => ?_)
      obtain ⟨hP1, hK1, hD1⟩ := hB
      replace hw := hw.symm
      subst hw
      rw [ht] at hP1
      obtain ⟨hP, hD⟩ := va_join (wr := []) (w1 := [cY h_Y h_O h_N h_B h_G h_K q_172.2.1 q_172.2.2.1 q_172.2.2.2.1 Y_to Y_te Y_re, cL h_O k_O 8 q_172.2.2.2.2.1, cI h_N k_N 8 q_172.2.2.2.2.2.1, cI h_B k_B 8 q_172.2.2.2.2.2.2]) hP hD [0, 1, 2, 3] [] rfl rfl (by decide) (by decide) hk1 hFc hP1 hD1
      generalize H1 = H at hP hS ⊢
      have hP := hP.sub (ws' := [cY h_Y h_O h_N h_B h_G h_K q_172.2.1 q_172.2.2.1 q_172.2.2.2.1 Y_to Y_te Y_re, cL h_O k_O 8 q_172.2.2.2.2.1, cI h_N k_N 8 q_172.2.2.2.2.2.1, cI h_B k_B 8 q_172.2.2.2.2.2.2]) [0, 1, 2, 3] rfl
      have hD := hD.sub (ws' := [cY h_Y h_O h_N h_B h_G h_K q_172.2.1 q_172.2.2.1 q_172.2.2.2.1 Y_to Y_te Y_re, cL h_O k_O 8 q_172.2.2.2.2.1, cI h_N k_N 8 q_172.2.2.2.2.2.1, cI h_B k_B 8 q_172.2.2.2.2.2.2]) [0, 1, 2, 3] (by decide) rfl
      obtain rfl := Option.some.inj hF
      exact W.iret (v := q_172.1) hx hb hr (fun t ht hW => ⟨⟨q_172.1, (), rfl, rfl, by rw [ht]; exact hP, va_K.moved hW.alike hK, hD⟩, hS.F ht⟩) hS.2.2 d_Y_round_175
    · replace hF := hif_f c_164 hF
      refine lv_iconst (v := (1 : Int32)) hx hb d_Y_round_167 (by decide) ?_
      refine lv_goto (tgt := 172) hx hb d_Y_round_168 (by decide) ?_
      obtain ⟨q_172, hC_172, hF⟩ := hbd hF
      have hPc := hP.sub (ws' := [cY h_Y h_O h_N h_B h_G h_K Y_lo Y_ie Y_ra Y_to Y_te Y_re, cL h_O k_O 8 O_f, cI h_N k_N 8 N_f, cI h_B k_B 8 B_f]) [0, 1, 2, 3] rfl
      have hDc := hD.sub (ws' := [cY h_Y h_O h_N h_B h_G h_K Y_lo Y_ie Y_ra Y_to Y_te Y_re, cL h_O k_O 8 O_f, cI h_N k_N 8 N_f, cI h_B k_B 8 B_f]) [0, 1, 2, 3] (by decide) rfl
      have hKc := hK.sub (tys' := [(k_O, .long), (k_N, .int), (k_B, .boolean)]) [0, 1, 2] rfl
      have hFc := va_free (wc := [cY h_Y h_O h_N h_B h_G h_K Y_lo Y_ie Y_ra Y_to Y_te Y_re, cL h_O k_O 8 O_f, cI h_N k_N 8 N_f, cI h_B k_B 8 B_f]) hD hS hA [0, 1, 2, 3] rfl
      refine va_calli (va_runV (As := [.int y2, .int y1, .long y0, .int (Y_te + x4), .int (1 : Int32)]) (rest := []) ⟨hx, hb, hml, hown, hts⟩ (c_Y_finish l dC dI h_Y h_O h_N h_B h_G h_K k_O k_N k_B H.size Y_lo Y_ie Y_ra Y_to Y_te Y_re O_f N_f B_f y2 y1 y0 (Y_te + x4) (1 : Int32) q_172 hC_172) (cwV 5 hts g_Y_64_Y_finish rfl rfl rfl (by decide +kernel) ⟨Nat.le_of_ble_eq_true rfl, Nat.le_of_ble_eq_true rfl⟩) ⟨fun a U g mk q => by obtain ⟨q0, q1, qP, qK, qD⟩ := q; exact ⟨q0, q1, qP, va_K.moved (u := U) (U := U.calling g mk a) (Vm.Alike.refl U.vm) qK, qD⟩, va_recv hKc hPc (ci := 2) (q0 := 0) rfl rfl, fun U hU hW => ⟨rfl, by rw [hU], by rw [hU]; exact hPc, va_K.moved hW.alike hKc, hDc.weaken (fun _ _ _ _ => trivial)⟩⟩ rfl rfl hl.1 rfl (lv_room (Nat.le_of_ble_eq_true rfl)) d_Y_round_172 ⟨Nat.zero_le _, Nat.zero_le _⟩) hS (fun q _ h => hFc q h) hFc (fun r u t H1 locs ht hvm hw hB hz1 hk1 hS => ?_)
      obtain ⟨hP1, hK1, hD1⟩ := hB
      replace hw := hw.symm
      subst hw
      rw [ht] at hP1
      obtain ⟨hP, hD⟩ := va_join (wr := []) (w1 := [cY h_Y h_O h_N h_B h_G h_K q_172.2.1 q_172.2.2.1 q_172.2.2.2.1 Y_to Y_te Y_re, cL h_O k_O 8 q_172.2.2.2.2.1, cI h_N k_N 8 q_172.2.2.2.2.2.1, cI h_B k_B 8 q_172.2.2.2.2.2.2]) hP hD [0, 1, 2, 3] [] rfl rfl (by decide) (by decide) hk1 hFc hP1 hD1
      generalize H1 = H at hP hS ⊢
      have hP := hP.sub (ws' := [cY h_Y h_O h_N h_B h_G h_K q_172.2.1 q_172.2.2.1 q_172.2.2.2.1 Y_to Y_te Y_re, cL h_O k_O 8 q_172.2.2.2.2.1, cI h_N k_N 8 q_172.2.2.2.2.2.1, cI h_B k_B 8 q_172.2.2.2.2.2.2]) [0, 1, 2, 3] rfl
      have hD := hD.sub (ws' := [cY h_Y h_O h_N h_B h_G h_K q_172.2.1 q_172.2.2.1 q_172.2.2.2.1 Y_to Y_te Y_re, cL h_O k_O 8 q_172.2.2.2.2.1, cI h_N k_N 8 q_172.2.2.2.2.2.1, cI h_B k_B 8 q_172.2.2.2.2.2.2]) [0, 1, 2, 3] (by decide) rfl
      obtain rfl := Option.some.inj hF
      exact W.iret (v := q_172.1) hx hb hr (fun t ht hW => ⟨⟨q_172.1, (), rfl, rfl, by rw [ht]; exact hP, va_K.moved hW.alike hK, hD⟩, hS.F ht⟩) hS.2.2 d_Y_round_175
  have b_138 : ∀ (x1 : Int32) (x2 : Int32) (x4 : Int32) (x9 : Int64) (x11 : Int32) (Y_lo : Int32) (Y_ie : Int32) (Y_ra : Int32) (Y_to : Int64) (Y_te : Int32) (Y_re : Int32) (O_f : Nat → Int64) (N_f : Nat → Int32) (B_f : Nat → Int32) (H : Heap) (locs : List Loc) (ls : Array Slot), va_P (dC, dI) classes [cY h_Y h_O h_N h_B h_G h_K Y_lo Y_ie Y_ra Y_to Y_te Y_re, cL h_O k_O 8 O_f, cI h_N k_N 8 N_f, cI h_B k_B 8 B_f] H → va_D A [cY h_Y h_O h_N h_B h_G h_K Y_lo Y_ie Y_ra Y_to Y_te Y_re, cL h_O k_O 8 O_f, cI h_N k_N 8 N_f, cI h_B k_B 8 B_f] → va_S A s.heap H locs → lv_has ls 12 [(0, .ref h_Y), (1, .int x1), (2, .int x2), (4, .int x4), (9, .long x9), (11, .int x11)] → f_Y_round_138  x1 x2 x4 x9 x11 Y_lo Y_ie Y_ra Y_to Y_te Y_re O_f N_f B_f = some o → W p l e (headSpec w_Y_round ({ frames := 3, cells := 0, slots := 0, locals := 73 } : Room)).room s m ([.ref h_Y, .int a1, .int a2, .int a3] : List Value).toArray below meth c H locs 0 0 (MQ below (va_Qi (fun (r : Int32) (_ : Unit) => r = o.1) (fun (_ : Unit) (t : State) => va_P (dC, dI) classes [cY h_Y h_O h_N h_B h_G h_K o.2.1 o.2.2.1 o.2.2.2.1 Y_to Y_te Y_re, cL h_O k_O 8 o.2.2.2.2.1, cI h_N k_N 8 o.2.2.2.2.2.1, cI h_B k_B 8 o.2.2.2.2.2.2] t.heap ∧ va_K (dC, dI) classes [(k_O, .long), (k_N, .int), (k_B, .boolean)] t ∧ va_D A [cY h_Y h_O h_N h_B h_G h_K o.2.1 o.2.2.1 o.2.2.2.1 Y_to Y_te Y_re, cL h_O k_O 8 o.2.2.2.2.1, cI h_N k_N 8 o.2.2.2.2.2.1, cI h_B k_B 8 o.2.2.2.2.2.2]) A) ([.ref h_Y, .int a1, .int a2, .int a3] : List Value).toArray s 0 0 A) (F0 m 138 ls []) := by
    intro x1 x2 x4 x9 x11 Y_lo Y_ie Y_ra Y_to Y_te Y_re O_f N_f B_f H locs ls hP hD hS hl hF
    unfold f_Y_round_138 at hF
    refine lv_aload_n hx hb d_Y_round_138 rfl (lv_at hl 0 rfl) ?_
    refine lv_iload_n hx hb d_Y_round_139 rfl (lv_at hl 1 rfl) ?_
    refine lv_iload_n hx hb d_Y_round_140 rfl (lv_at hl 2 rfl) ?_
    refine lv_iload hx hb d_Y_round_141 (lv_at hl 5 rfl) ?_
    refine lv_if_eq (tgt := 153) hx hb d_Y_round_143 (by decide) (fun c_143 => ?_) (fun c_143 => ?_)
    · replace hF := hif_t c_143 hF
      refine lv_lload hx hb d_Y_round_153 (lv_at hl 4 rfl) ?_
      exact b_155 x4 x11 x9 x2 x1 Y_lo Y_ie Y_ra Y_to Y_te Y_re O_f N_f B_f _ _ _ hP hD hS (lv_sub hl [0, 3, 5] rfl) hF
    · replace hF := hif_f c_143 hF
      refine lv_lload hx hb d_Y_round_146 (lv_at hl 4 rfl) ?_
      refine lv_lconst (v := (1 : Int64)) hx hb d_Y_round_148 (by decide) ?_
      refine lv_ladd hx hb d_Y_round_149 ?_
      refine lv_goto (tgt := 155) hx hb d_Y_round_150 (by decide) ?_
      exact b_155 x4 x11 (x9 + (1 : Int64)) x2 x1 Y_lo Y_ie Y_ra Y_to Y_te Y_re O_f N_f B_f _ _ _ hP hD hS (lv_sub hl [0, 3, 5] rfl) hF
  have b_105 : ∀ (x1 : Int32) (x2 : Int32) (x4 : Int32) (x7 : Int64) (x9 : Int64) (y0 : Int32) (Y_lo : Int32) (Y_ie : Int32) (Y_ra : Int32) (Y_to : Int64) (Y_te : Int32) (Y_re : Int32) (O_f : Nat → Int64) (N_f : Nat → Int32) (B_f : Nat → Int32) (H : Heap) (locs : List Loc) (ls : Array Slot), va_P (dC, dI) classes [cY h_Y h_O h_N h_B h_G h_K Y_lo Y_ie Y_ra Y_to Y_te Y_re, cL h_O k_O 8 O_f, cI h_N k_N 8 N_f, cI h_B k_B 8 B_f] H → va_D A [cY h_Y h_O h_N h_B h_G h_K Y_lo Y_ie Y_ra Y_to Y_te Y_re, cL h_O k_O 8 O_f, cI h_N k_N 8 N_f, cI h_B k_B 8 B_f] → va_S A s.heap H locs → lv_has ls 12 [(0, .ref h_Y), (1, .int x1), (2, .int x2), (4, .int x4), (7, .long x7), (9, .long x9)] → f_Y_round_105  x1 x2 x4 x7 x9 y0 Y_lo Y_ie Y_ra Y_to Y_te Y_re O_f N_f B_f = some o → W p l e (headSpec w_Y_round ({ frames := 3, cells := 0, slots := 0, locals := 73 } : Room)).room s m ([.ref h_Y, .int a1, .int a2, .int a3] : List Value).toArray below meth c H locs 0 0 (MQ below (va_Qi (fun (r : Int32) (_ : Unit) => r = o.1) (fun (_ : Unit) (t : State) => va_P (dC, dI) classes [cY h_Y h_O h_N h_B h_G h_K o.2.1 o.2.2.1 o.2.2.2.1 Y_to Y_te Y_re, cL h_O k_O 8 o.2.2.2.2.1, cI h_N k_N 8 o.2.2.2.2.2.1, cI h_B k_B 8 o.2.2.2.2.2.2] t.heap ∧ va_K (dC, dI) classes [(k_O, .long), (k_N, .int), (k_B, .boolean)] t ∧ va_D A [cY h_Y h_O h_N h_B h_G h_K o.2.1 o.2.2.1 o.2.2.2.1 Y_to Y_te Y_re, cL h_O k_O 8 o.2.2.2.2.1, cI h_N k_N 8 o.2.2.2.2.2.1, cI h_B k_B 8 o.2.2.2.2.2.2]) A) ([.ref h_Y, .int a1, .int a2, .int a3] : List Value).toArray s 0 0 A) (F0 m 105 ls [.int y0]) := by
    intro x1 x2 x4 x7 x9 y0 Y_lo Y_ie Y_ra Y_to Y_te Y_re O_f N_f B_f H locs ls hP hD hS hl hF
    unfold f_Y_round_105 at hF
    refine lv_istore (lv' := [(11, .int y0), (0, .ref h_Y), (1, .int x1), (2, .int x2), (4, .int x4), (7, .long x7), (9, .long x9)]) hx hb d_Y_round_105 hl (by decide) rfl (fun ls hl => ?_)
    refine lv_lload hx hb d_Y_round_107 (lv_at hl 5 rfl) ?_
    refine lv_lconst (v := (0 : Int64)) hx hb d_Y_round_109 (by decide) ?_
    refine W.lcmp hx hb d_Y_round_110 ?_
    refine lv_if_ne (tgt := 138) hx hb d_Y_round_111 (by decide) (fun c_111 => ?_) (fun c_111 => ?_)
    · replace hF := hif_f c_111 hF
      exact b_138 x1 x2 x4 x9 y0 Y_lo Y_ie Y_ra Y_to Y_te Y_re O_f N_f B_f _ _ _ hP hD hS (lv_sub hl [1, 2, 3, 4, 6, 0] rfl) hF
    · replace hF := hif_t c_111 hF
      refine lv_aload_n hx hb d_Y_round_114 rfl (lv_at hl 1 rfl) ?_
      refine va_get (D := (dC, dI)) (ci := 2) (v := .int Y_re) (C := "RoundedNumbersModel") (T := F_Y) (N := 11) hx hb hts in_Y hown hK hP 0 rfl rfl 10 (by decide) (hts _ tw_324) (fun _ h9 => h9) rfl d_Y_round_115 ?_
      refine lv_if_ne (tgt := 138) hx hb d_Y_round_118 (by decide) (fun c_118 => ?_) (fun c_118 => ?_)
      · replace hF := hif_f c_118 hF
        exact b_138 x1 x2 x4 x9 y0 Y_lo Y_ie Y_ra Y_to Y_te Y_re O_f N_f B_f _ _ _ hP hD hS (lv_sub hl [1, 2, 3, 4, 6, 0] rfl) hF
      · replace hF := hif_t c_118 hF
        refine lv_aload_n hx hb d_Y_round_121 rfl (lv_at hl 1 rfl) ?_
        refine lv_iload_n hx hb d_Y_round_122 rfl (lv_at hl 2 rfl) ?_
        refine lv_iload_n hx hb d_Y_round_123 rfl (lv_at hl 3 rfl) ?_
        refine lv_lload hx hb d_Y_round_124 (lv_at hl 6 rfl) ?_
        refine lv_aload_n hx hb d_Y_round_126 rfl (lv_at hl 1 rfl) ?_
        refine va_get (D := (dC, dI)) (ci := 2) (v := .int Y_te) (C := "RoundedNumbersModel") (T := F_Y) (N := 11) hx hb hts in_Y hown hK hP 0 rfl rfl 9 (by decide) (hts _ tw_323) (fun _ h9 => h9) rfl d_Y_round_127 ?_
        refine lv_iload hx hb d_Y_round_130 (lv_at hl 4 rfl) ?_
        refine lv_iadd hx hb d_Y_round_132 ?_
        refine lv_iconst (v := (0 : Int32)) hx hb d_Y_round_133 (by decide) ?_
        obtain ⟨q_134, hC_134, hF⟩ := hbd hF
        have hPc := hP.sub (ws' := [cY h_Y h_O h_N h_B h_G h_K Y_lo Y_ie Y_ra Y_to Y_te Y_re, cL h_O k_O 8 O_f, cI h_N k_N 8 N_f, cI h_B k_B 8 B_f]) [0, 1, 2, 3] rfl
        have hDc := hD.sub (ws' := [cY h_Y h_O h_N h_B h_G h_K Y_lo Y_ie Y_ra Y_to Y_te Y_re, cL h_O k_O 8 O_f, cI h_N k_N 8 N_f, cI h_B k_B 8 B_f]) [0, 1, 2, 3] (by decide) rfl
        have hKc := hK.sub (tys' := [(k_O, .long), (k_N, .int), (k_B, .boolean)]) [0, 1, 2] rfl
        have hFc := va_free (wc := [cY h_Y h_O h_N h_B h_G h_K Y_lo Y_ie Y_ra Y_to Y_te Y_re, cL h_O k_O 8 O_f, cI h_N k_N 8 N_f, cI h_B k_B 8 B_f]) hD hS hA [0, 1, 2, 3] rfl
        refine va_calli (va_runV (As := [.int x1, .int x2, .long x9, .int (Y_te + x4), .int (0 : Int32)]) (rest := []) ⟨hx, hb, hml, hown, hts⟩ (c_Y_finish l dC dI h_Y h_O h_N h_B h_G h_K k_O k_N k_B H.size Y_lo Y_ie Y_ra Y_to Y_te Y_re O_f N_f B_f x1 x2 x9 (Y_te + x4) (0 : Int32) q_134 hC_134) (cwV 5 hts g_Y_64_Y_finish rfl rfl rfl (by decide +kernel) ⟨Nat.le_of_ble_eq_true rfl, Nat.le_of_ble_eq_true rfl⟩) ⟨fun a U g mk q => by obtain ⟨q0, q1, qP, qK, qD⟩ := q; exact ⟨q0, q1, qP, va_K.moved (u := U) (U := U.calling g mk a) (Vm.Alike.refl U.vm) qK, qD⟩, va_recv hKc hPc (ci := 2) (q0 := 0) rfl rfl, fun U hU hW => ⟨rfl, by rw [hU], by rw [hU]; exact hPc, va_K.moved hW.alike hKc, hDc.weaken (fun _ _ _ _ => trivial)⟩⟩ rfl rfl hl.1 rfl (lv_room (Nat.le_of_ble_eq_true rfl)) d_Y_round_134 ⟨Nat.zero_le _, Nat.zero_le _⟩) hS (fun q _ h => hFc q h) hFc (fun r u t H1 locs ht hvm hw hB hz1 hk1 hS => ?_)
        obtain ⟨hP1, hK1, hD1⟩ := hB
        replace hw := hw.symm
        subst hw
        rw [ht] at hP1
        obtain ⟨hP, hD⟩ := va_join (wr := []) (w1 := [cY h_Y h_O h_N h_B h_G h_K q_134.2.1 q_134.2.2.1 q_134.2.2.2.1 Y_to Y_te Y_re, cL h_O k_O 8 q_134.2.2.2.2.1, cI h_N k_N 8 q_134.2.2.2.2.2.1, cI h_B k_B 8 q_134.2.2.2.2.2.2]) hP hD [0, 1, 2, 3] [] rfl rfl (by decide) (by decide) hk1 hFc hP1 hD1
        generalize H1 = H at hP hS ⊢
        have hP := hP.sub (ws' := [cY h_Y h_O h_N h_B h_G h_K q_134.2.1 q_134.2.2.1 q_134.2.2.2.1 Y_to Y_te Y_re, cL h_O k_O 8 q_134.2.2.2.2.1, cI h_N k_N 8 q_134.2.2.2.2.2.1, cI h_B k_B 8 q_134.2.2.2.2.2.2]) [0, 1, 2, 3] rfl
        have hD := hD.sub (ws' := [cY h_Y h_O h_N h_B h_G h_K q_134.2.1 q_134.2.2.1 q_134.2.2.2.1 Y_to Y_te Y_re, cL h_O k_O 8 q_134.2.2.2.2.1, cI h_N k_N 8 q_134.2.2.2.2.2.1, cI h_B k_B 8 q_134.2.2.2.2.2.2]) [0, 1, 2, 3] (by decide) rfl
        obtain rfl := Option.some.inj hF
        exact W.iret (v := q_134.1) hx hb hr (fun t ht hW => ⟨⟨q_134.1, (), rfl, rfl, by rw [ht]; exact hP, va_K.moved hW.alike hK, hD⟩, hS.F ht⟩) hS.2.2 d_Y_round_137
  unfold f_Y_round at hF
  refine lv_aload_n hx hb d_Y_round_0 rfl (lv_at hl 0 rfl) ?_
  refine va_get (D := (dC, dI)) (ci := 2) (v := .long Y_to) (C := "RoundedNumbersModel") (T := F_Y) (N := 11) hx hb hts in_Y hown hK hP 0 rfl rfl 8 (by decide) (hts _ tw_322) (fun _ h9 => h9) rfl d_Y_round_1 ?_
  obtain ⟨q_4, hC_4, hF⟩ := hbd hF
  have hPc := hP.sub (ws' := []) [] rfl
  have hDc := hD.sub (ws' := []) [] (by decide) rfl
  have hKc := hK.sub (tys' := []) [] rfl
  have hFc := va_free (wc := []) hD hS hA [] rfl
  refine va_calli (va_runS (As := [.long Y_to]) (rest := []) ⟨hx, hb, hml, hown, hts⟩ (c_Y_bits l dC dI s.heap.size Y_to q_4 hC_4) (cwS 1 hts g_Y_29_Y_bits rfl rfl rfl (by decide +kernel) ⟨Nat.le_of_ble_eq_true rfl, Nat.le_of_ble_eq_true rfl⟩) ⟨fun a U g mk q => by obtain ⟨q0, q1, qP, qK, qD⟩ := q; exact ⟨q0, q1, qP, va_K.moved (u := U) (U := U.calling g mk a) (Vm.Alike.refl U.vm) qK, qD⟩, fun U hU hW => ⟨rfl, by rw [hU], by rw [hU]; exact hPc, va_K.moved hW.alike hKc, hDc.weaken (fun _ _ _ _ => trivial)⟩⟩ rfl rfl hl.1 rfl (lv_room (Nat.le_of_ble_eq_true rfl)) d_Y_round_4 ⟨Nat.zero_le _, Nat.zero_le _⟩) hS (fun q _ h => hFc q h) hFc (fun r u t H1 locs ht hvm hw hB hz1 hk1 hS => ?_)
  obtain ⟨hP1, hK1, hD1⟩ := hB
  replace hw := hw.symm
  subst hw
  rw [ht] at hP1
  obtain ⟨hP, hD⟩ := va_join (wr := [cY h_Y h_O h_N h_B h_G h_K Y_lo Y_ie Y_ra Y_to Y_te Y_re, cL h_O k_O 8 O_f, cI h_N k_N 8 N_f, cI h_B k_B 8 B_f]) (w1 := []) hP hD [] [0, 1, 2, 3] rfl rfl (by decide) (by decide) hk1 hFc hP1 hD1
  generalize H1 = H at hP hS ⊢
  have hP := hP.sub (ws' := [cY h_Y h_O h_N h_B h_G h_K Y_lo Y_ie Y_ra Y_to Y_te Y_re, cL h_O k_O 8 O_f, cI h_N k_N 8 N_f, cI h_B k_B 8 B_f]) [0, 1, 2, 3] rfl
  have hD := hD.sub (ws' := [cY h_Y h_O h_N h_B h_G h_K Y_lo Y_ie Y_ra Y_to Y_te Y_re, cL h_O k_O 8 O_f, cI h_N k_N 8 N_f, cI h_B k_B 8 B_f]) [0, 1, 2, 3] (by decide) rfl
  refine lv_iload_n hx hb d_Y_round_7 rfl (lv_at hl 3 rfl) ?_
  refine lv_isub hx hb d_Y_round_8 ?_
  refine lv_istore (lv' := [(4, .int (q_4 - a3)), (0, .ref h_Y), (1, .int a1), (2, .int a2), (3, .int a3)]) hx hb d_Y_round_9 hl (by decide) rfl (fun ls hl => ?_)
  refine lv_iload hx hb d_Y_round_11 (lv_at hl 0 rfl) ?_
  refine lv_if_gt (tgt := 32) hx hb d_Y_round_13 (by decide) (fun c_13 => ?_) (fun c_13 => ?_)
  · replace hF := hif_t c_13 hF
    refine lv_lconst (v := (1 : Int64)) hx hb d_Y_round_32 (by decide) ?_
    refine lv_iload hx hb d_Y_round_33 (lv_at hl 0 rfl) ?_
    refine lv_lshl (v := (jshl (1 : Int64) (q_4 - a3))) hx hb d_Y_round_35 rfl ?_
    refine lv_lstore (lv' := [(5, .long (jshl (1 : Int64) (q_4 - a3))), (4, .int (q_4 - a3)), (0, .ref h_Y), (1, .int a1), (2, .int a2), (3, .int a3)]) hx hb d_Y_round_36 hl (by decide) rfl (fun ls hl => ?_)
    refine lv_aload_n hx hb d_Y_round_38 rfl (lv_at hl 2 rfl) ?_
    refine va_get (D := (dC, dI)) (ci := 2) (v := .long Y_to) (C := "RoundedNumbersModel") (T := F_Y) (N := 11) hx hb hts in_Y hown hK hP 0 rfl rfl 8 (by decide) (hts _ tw_322) (fun _ h9 => h9) rfl d_Y_round_39 ?_
    refine lv_lload hx hb d_Y_round_42 (lv_at hl 0 rfl) ?_
    refine lv_lconst (v := (1 : Int64)) hx hb d_Y_round_44 (by decide) ?_
    refine lv_lsub hx hb d_Y_round_45 ?_
    refine lv_land hx hb d_Y_round_46 ?_
    refine lv_lstore (lv' := [(7, .long (Y_to &&& ((jshl (1 : Int64) (q_4 - a3)) - (1 : Int64)))), (5, .long (jshl (1 : Int64) (q_4 - a3))), (4, .int (q_4 - a3)), (0, .ref h_Y), (1, .int a1), (2, .int a2), (3, .int a3)]) hx hb d_Y_round_47 hl (by decide) rfl (fun ls hl => ?_)
    refine lv_aload_n hx hb d_Y_round_49 rfl (lv_at hl 3 rfl) ?_
    refine va_get (D := (dC, dI)) (ci := 2) (v := .long Y_to) (C := "RoundedNumbersModel") (T := F_Y) (N := 11) hx hb hts in_Y hown hK hP 0 rfl rfl 8 (by decide) (hts _ tw_322) (fun _ h9 => h9) rfl d_Y_round_50 ?_
    refine lv_iload hx hb d_Y_round_53 (lv_at hl 2 rfl) ?_
    refine lv_lshr (v := (jshr Y_to (q_4 - a3))) hx hb d_Y_round_55 rfl ?_
    refine lv_lstore (lv' := [(9, .long (jshr Y_to (q_4 - a3))), (7, .long (Y_to &&& ((jshl (1 : Int64) (q_4 - a3)) - (1 : Int64)))), (5, .long (jshl (1 : Int64) (q_4 - a3))), (4, .int (q_4 - a3)), (0, .ref h_Y), (1, .int a1), (2, .int a2), (3, .int a3)]) hx hb d_Y_round_56 hl (by decide) rfl (fun ls hl => ?_)
    refine lv_ldc2 (v := (2 : Int64)) hx hb hown (hts _ tw_372) d_Y_round_58 ?_
    refine lv_lload hx hb d_Y_round_61 (lv_at hl 1 rfl) ?_
    refine lv_lmul hx hb d_Y_round_63 ?_
    refine lv_lload hx hb d_Y_round_64 (lv_at hl 2 rfl) ?_
    refine W.lcmp hx hb d_Y_round_66 ?_
    refine lv_if_gt (tgt := 100) hx hb d_Y_round_67 (by decide) (fun c_67 => ?_) (fun c_67 => ?_)
    · replace hF := hif_t c_67 hF
      refine lv_iconst (v := (1 : Int32)) hx hb d_Y_round_100 (by decide) ?_
      refine lv_goto (tgt := 105) hx hb d_Y_round_101 (by decide) ?_
      exact b_105 a1 a2 (q_4 - a3) (Y_to &&& ((jshl (1 : Int64) (q_4 - a3)) - (1 : Int64))) (jshr Y_to (q_4 - a3)) (1 : Int32) Y_lo Y_ie Y_ra Y_to Y_te Y_re O_f N_f B_f _ _ _ hP hD hS (lv_sub hl [4, 5, 6, 3, 1, 0] rfl) hF
    · replace hF := hif_f c_67 hF
      refine lv_ldc2 (v := (2 : Int64)) hx hb hown (hts _ tw_372) d_Y_round_70 ?_
      refine lv_lload hx hb d_Y_round_73 (lv_at hl 1 rfl) ?_
      refine lv_lmul hx hb d_Y_round_75 ?_
      refine lv_lload hx hb d_Y_round_76 (lv_at hl 2 rfl) ?_
      refine W.lcmp hx hb d_Y_round_78 ?_
      refine lv_if_ne (tgt := 104) hx hb d_Y_round_79 (by decide) (fun c_79 => ?_) (fun c_79 => ?_)
      · replace hF := hif_f c_79 hF
        refine lv_iconst (v := (0 : Int32)) hx hb d_Y_round_104 (by decide) ?_
        exact b_105 a1 a2 (q_4 - a3) (Y_to &&& ((jshl (1 : Int64) (q_4 - a3)) - (1 : Int64))) (jshr Y_to (q_4 - a3)) (0 : Int32) Y_lo Y_ie Y_ra Y_to Y_te Y_re O_f N_f B_f _ _ _ hP hD hS (lv_sub hl [4, 5, 6, 3, 1, 0] rfl) hF
      · replace hF := hif_t c_79 hF
        refine lv_aload_n hx hb d_Y_round_82 rfl (lv_at hl 4 rfl) ?_
        refine va_get (D := (dC, dI)) (ci := 2) (v := .int Y_re) (C := "RoundedNumbersModel") (T := F_Y) (N := 11) hx hb hts in_Y hown hK hP 0 rfl rfl 10 (by decide) (hts _ tw_324) (fun _ h9 => h9) rfl d_Y_round_83 ?_
        refine lv_if_ne (tgt := 100) hx hb d_Y_round_86 (by decide) (fun c_86 => ?_) (fun c_86 => ?_)
        · replace hF := hif_f c_86 hF
          refine lv_iconst (v := (1 : Int32)) hx hb d_Y_round_100 (by decide) ?_
          refine lv_goto (tgt := 105) hx hb d_Y_round_101 (by decide) ?_
          exact b_105 a1 a2 (q_4 - a3) (Y_to &&& ((jshl (1 : Int64) (q_4 - a3)) - (1 : Int64))) (jshr Y_to (q_4 - a3)) (1 : Int32) Y_lo Y_ie Y_ra Y_to Y_te Y_re O_f N_f B_f _ _ _ hP hD hS (lv_sub hl [4, 5, 6, 3, 1, 0] rfl) hF
        · replace hF := hif_t c_86 hF
          refine lv_lload hx hb d_Y_round_89 (lv_at hl 0 rfl) ?_
          refine lv_ldc2 (v := (2 : Int64)) hx hb hown (hts _ tw_372) d_Y_round_91 ?_
          refine lv_lrem hx hb d_Y_round_94 (by decide) ?_
          refine lv_lconst (v := (1 : Int64)) hx hb d_Y_round_95 (by decide) ?_
          refine W.lcmp hx hb d_Y_round_96 ?_
          refine lv_if_ne (tgt := 104) hx hb d_Y_round_97 (by decide) (fun c_97 => ?_) (fun c_97 => ?_)
          · replace hF := hif_f c_97 hF
            refine lv_iconst (v := (0 : Int32)) hx hb d_Y_round_104 (by decide) ?_
            exact b_105 a1 a2 (q_4 - a3) (Y_to &&& ((jshl (1 : Int64) (q_4 - a3)) - (1 : Int64))) (jshr Y_to (q_4 - a3)) (0 : Int32) Y_lo Y_ie Y_ra Y_to Y_te Y_re O_f N_f B_f _ _ _ hP hD hS (lv_sub hl [4, 5, 6, 3, 1, 0] rfl) hF
          · replace hF := hif_t c_97 hF
            refine lv_iconst (v := (1 : Int32)) hx hb d_Y_round_100 (by decide) ?_
            refine lv_goto (tgt := 105) hx hb d_Y_round_101 (by decide) ?_
            exact b_105 a1 a2 (q_4 - a3) (Y_to &&& ((jshl (1 : Int64) (q_4 - a3)) - (1 : Int64))) (jshr Y_to (q_4 - a3)) (1 : Int32) Y_lo Y_ie Y_ra Y_to Y_te Y_re O_f N_f B_f _ _ _ hP hD hS (lv_sub hl [4, 5, 6, 3, 1, 0] rfl) hF
  · replace hF := hif_f c_13 hF
    refine lv_aload_n hx hb d_Y_round_16 rfl (lv_at hl 1 rfl) ?_
    refine lv_iload_n hx hb d_Y_round_17 rfl (lv_at hl 2 rfl) ?_
    refine lv_iload_n hx hb d_Y_round_18 rfl (lv_at hl 3 rfl) ?_
    refine lv_aload_n hx hb d_Y_round_19 rfl (lv_at hl 1 rfl) ?_
    refine va_get (D := (dC, dI)) (ci := 2) (v := .long Y_to) (C := "RoundedNumbersModel") (T := F_Y) (N := 11) hx hb hts in_Y hown hK hP 0 rfl rfl 8 (by decide) (hts _ tw_322) (fun _ h9 => h9) rfl d_Y_round_20 ?_
    refine lv_aload_n hx hb d_Y_round_23 rfl (lv_at hl 1 rfl) ?_
    refine va_get (D := (dC, dI)) (ci := 2) (v := .int Y_te) (C := "RoundedNumbersModel") (T := F_Y) (N := 11) hx hb hts in_Y hown hK hP 0 rfl rfl 9 (by decide) (hts _ tw_323) (fun _ h9 => h9) rfl d_Y_round_24 ?_
    refine lv_iconst (v := (0 : Int32)) hx hb d_Y_round_27 (by decide) ?_
    obtain ⟨q_28, hC_28, hF⟩ := hbd hF
    have hPc := hP.sub (ws' := [cY h_Y h_O h_N h_B h_G h_K Y_lo Y_ie Y_ra Y_to Y_te Y_re, cL h_O k_O 8 O_f, cI h_N k_N 8 N_f, cI h_B k_B 8 B_f]) [0, 1, 2, 3] rfl
    have hDc := hD.sub (ws' := [cY h_Y h_O h_N h_B h_G h_K Y_lo Y_ie Y_ra Y_to Y_te Y_re, cL h_O k_O 8 O_f, cI h_N k_N 8 N_f, cI h_B k_B 8 B_f]) [0, 1, 2, 3] (by decide) rfl
    have hKc := hK.sub (tys' := [(k_O, .long), (k_N, .int), (k_B, .boolean)]) [0, 1, 2] rfl
    have hFc := va_free (wc := [cY h_Y h_O h_N h_B h_G h_K Y_lo Y_ie Y_ra Y_to Y_te Y_re, cL h_O k_O 8 O_f, cI h_N k_N 8 N_f, cI h_B k_B 8 B_f]) hD hS hA [0, 1, 2, 3] rfl
    refine va_calli (va_runV (As := [.int a1, .int a2, .long Y_to, .int Y_te, .int (0 : Int32)]) (rest := []) ⟨hx, hb, hml, hown, hts⟩ (c_Y_finish l dC dI h_Y h_O h_N h_B h_G h_K k_O k_N k_B H.size Y_lo Y_ie Y_ra Y_to Y_te Y_re O_f N_f B_f a1 a2 Y_to Y_te (0 : Int32) q_28 hC_28) (cwV 5 hts g_Y_64_Y_finish rfl rfl rfl (by decide +kernel) ⟨Nat.le_of_ble_eq_true rfl, Nat.le_of_ble_eq_true rfl⟩) ⟨fun a U g mk q => by obtain ⟨q0, q1, qP, qK, qD⟩ := q; exact ⟨q0, q1, qP, va_K.moved (u := U) (U := U.calling g mk a) (Vm.Alike.refl U.vm) qK, qD⟩, va_recv hKc hPc (ci := 2) (q0 := 0) rfl rfl, fun U hU hW => ⟨rfl, by rw [hU], by rw [hU]; exact hPc, va_K.moved hW.alike hKc, hDc.weaken (fun _ _ _ _ => trivial)⟩⟩ rfl rfl hl.1 rfl (lv_room (Nat.le_of_ble_eq_true rfl)) d_Y_round_28 ⟨Nat.zero_le _, Nat.zero_le _⟩) hS (fun q _ h => hFc q h) hFc (fun r u t H1 locs ht hvm hw hB hz1 hk1 hS => ?_)
    obtain ⟨hP1, hK1, hD1⟩ := hB
    replace hw := hw.symm
    subst hw
    rw [ht] at hP1
    obtain ⟨hP, hD⟩ := va_join (wr := []) (w1 := [cY h_Y h_O h_N h_B h_G h_K q_28.2.1 q_28.2.2.1 q_28.2.2.2.1 Y_to Y_te Y_re, cL h_O k_O 8 q_28.2.2.2.2.1, cI h_N k_N 8 q_28.2.2.2.2.2.1, cI h_B k_B 8 q_28.2.2.2.2.2.2]) hP hD [0, 1, 2, 3] [] rfl rfl (by decide) (by decide) hk1 hFc hP1 hD1
    generalize H1 = H at hP hS ⊢
    have hP := hP.sub (ws' := [cY h_Y h_O h_N h_B h_G h_K q_28.2.1 q_28.2.2.1 q_28.2.2.2.1 Y_to Y_te Y_re, cL h_O k_O 8 q_28.2.2.2.2.1, cI h_N k_N 8 q_28.2.2.2.2.2.1, cI h_B k_B 8 q_28.2.2.2.2.2.2]) [0, 1, 2, 3] rfl
    have hD := hD.sub (ws' := [cY h_Y h_O h_N h_B h_G h_K q_28.2.1 q_28.2.2.1 q_28.2.2.2.1 Y_to Y_te Y_re, cL h_O k_O 8 q_28.2.2.2.2.1, cI h_N k_N 8 q_28.2.2.2.2.2.1, cI h_B k_B 8 q_28.2.2.2.2.2.2]) [0, 1, 2, 3] (by decide) rfl
    obtain rfl := Option.some.inj hF
    exact W.iret (v := q_28.1) hx hb hr (fun t ht hW => ⟨⟨q_28.1, (), rfl, rfl, by rw [ht]; exact hP, va_K.moved hW.alike hK, hD⟩, hS.F ht⟩) hS.2.2 d_Y_round_31
set_option maxHeartbeats 4000000 in
set_option maxRecDepth 100000 in
theorem c_Y_clear (l : Launch) (dC : Nat → ClassId) (dI : Nat → Nat → Nat) (h_A : Nat) (k_A : ClassId) (sz : Nat) (A_f : Nat → Int32) (o : (Nat → Int32)) (hF : f_Y_clear A_f = some o) : Met l y_Y_clear w_Y_clear ({ frames := 0, cells := 0, slots := 0, locals := 0 } : Room) (va_Pc [.ref h_A] (fun U => U.heap.size = sz ∧ va_P (dC, dI) classes [cI h_A k_A 30 A_f] U.heap ∧ va_K (dC, dI) classes [(k_A, .int)] U ∧ va_D (fun _ => True) [cI h_A k_A 30 A_f])) (va_Qv (fun _ : Unit => True) (fun (_ : Unit) (t : State) => va_P (dC, dI) classes [cI h_A k_A 30 o] t.heap ∧ va_K (dC, dI) classes [(k_A, .int)] t ∧ va_D (va_A [cI h_A k_A 30 A_f] sz) [cI h_A k_A 30 o]) (va_A [cI h_A k_A 30 A_f] sz)) 0 0 (va_A [cI h_A k_A 30 A_f] sz) := by
  refine Met.ofW (cc := prog_4_method_11_code) (maxL := 2) (ret := none) (by decide) rfl ?_
  intro p e s m args below meth c s₁ B hml hv
  obtain ⟨rfl, hsz, hP, hK, hD0⟩ := hv
  have hx := B.exec
  have hb := B.bytes
  have hr := B.returns
  have hts0 := atoms_spec (ws := w_Y_clear) B.pre
  have hts : ∀ w ∈ tb, w.before _ s = true := fun w h => hts0 w (List.mem_cons_of_mem _ h)
  clear hts0
  have hown : s.vm.findClass "RoundedNumbersModel" = some m.cls := findClass_of_methodNamed B.named
  have hlocks := B.notSynchronized
  subst hsz
  have hD := hD0.self (sz := s.heap.size)
  generalize hAe : va_A [cI h_A k_A 30 A_f] s.heap.size = A at hD ⊢
  have hA : ∀ q : Nat, s.heap.size ≤ q → A q := fun q h => by rw [← hAe]; exact Or.inr h
  clear hAe
  have hS : va_S A s.heap s.heap [] := va_S.rf
  have hP : va_P (dC, dI) classes [cI h_A k_A 30 A_f] s.heap := hP
  have hl := lv_entry ([.ref h_A]) (n := 2) (Nat.le_of_ble_eq_true rfl)
  rw [lg_entry_eq]
  generalize (lg_sl ([.ref h_A]) ++ List.replicate (2 - (lg_sl ([.ref h_A])).length) Slot.unset).toArray = ls at hl ⊢
  have hl : lv_has ls 2 [(0, .ref h_A)] := hl
  have b_2 : ∀ n_ : Nat, ∀ (x1 : Int32) (A_f : Nat → Int32) (H : Heap) (locs : List Loc) (ls : Array Slot), va_P (dC, dI) classes [cI h_A k_A 30 A_f] H → va_D A [cI h_A k_A 30 A_f] → va_S A s.heap H locs → lv_has ls 2 [(0, .ref h_A), (1, .int x1)] → f_Y_clear_2 n_ x1 A_f = some o → W p l e (headSpec w_Y_clear ({ frames := 0, cells := 0, slots := 0, locals := 0 } : Room)).room s m ([.ref h_A] : List Value).toArray below meth c H locs 0 0 (MQ below (va_Qv (fun _ : Unit => True) (fun (_ : Unit) (t : State) => va_P (dC, dI) classes [cI h_A k_A 30 o] t.heap ∧ va_K (dC, dI) classes [(k_A, .int)] t ∧ va_D A [cI h_A k_A 30 o]) A) ([.ref h_A] : List Value).toArray s 0 0 A) (F0 m 2 ls []) := by
    intro n_
    induction n_ with
    | zero =>
      intro x1 A_f H locs ls hP hD hS hl hF
      rw [f_Y_clear_2] at hF
      exact absurd hF (by simp)
    | succ n_ ih =>
      obtain ⟨k_2, ek_2⟩ : ∃ k, k = f_Y_clear_2 n_ := ⟨_, rfl⟩
      rw [← ek_2] at ih
      have hk_2 := ih
      intro x1 A_f H locs ls hP hD hS hl hF
      rw [f_Y_clear_2, ← ek_2] at hF
      refine lv_iload_n hx hb d_Y_clear_2 rfl (lv_at hl 1 rfl) ?_
      refine lv_bipush (v := (30 : Int32)) hx hb d_Y_clear_3 (by decide) ?_
      refine lv_icmp_ge (tgt := 18) hx hb d_Y_clear_5 (by decide) (fun c_5 => ?_) (fun c_5 => ?_)
      · replace hF := hif_t c_5 hF
        obtain rfl := Option.some.inj hF
        exact W.vret hx hb hr (fun t ht hW => ⟨⟨(), rfl, trivial, by rw [ht]; exact hP, va_K.moved hW.alike hK, hD⟩, hS.F ht⟩) hS.2.2 d_Y_clear_18
      · replace hF := hif_f c_5 hF
        refine lv_aload_n hx hb d_Y_clear_8 rfl (lv_at hl 0 rfl) ?_
        refine lv_iload_n hx hb d_Y_clear_9 rfl (lv_at hl 1 rfl) ?_
        refine lv_iconst (v := (0 : Int32)) hx hb d_Y_clear_10 (by decide) ?_
        have c_11 : ¬ (x1 < 0 ∨ 30 ≤ x1.toNatClampNeg) := hif_n hF
        replace hF := hif_f c_11 hF
        refine va_iast hx hb hK hP hD hS 0 0 rfl rfl c_11 d_Y_clear_11 (fun H locs hP hD hS => ?_)
        have hP : va_P (dC, dI) classes [cI h_A k_A 30 (upd A_f x1.toNatClampNeg (0 : Int32))] H := hP
        have hD : va_D A [cI h_A k_A 30 (upd A_f x1.toNatClampNeg (0 : Int32))] := hD
        refine lv_iinc (v := (x1 + (1 : Int32))) (lv' := [(1, .int (x1 + (1 : Int32))), (0, .ref h_A)]) hx hb d_Y_clear_12 hl (k := 1) rfl rfl (by decide) rfl (fun ls hl => ?_)
        refine lv_goto (tgt := 2) hx hb d_Y_clear_15 (by decide) ?_
        exact hk_2 (x1 + (1 : Int32)) (upd A_f x1.toNatClampNeg (0 : Int32)) _ _ _ hP hD hS (lv_sub hl [1, 0] rfl) hF
  unfold f_Y_clear at hF
  refine lv_iconst (v := (0 : Int32)) hx hb d_Y_clear_0 (by decide) ?_
  refine lv_istore_n (lv' := [(1, .int (0 : Int32)), (0, .ref h_A)]) hx hb d_Y_clear_1 rfl hl (by decide) rfl (fun ls hl => ?_)
  exact b_2 1000 (0 : Int32) A_f _ _ _ hP hD hS (lv_sub hl [1, 0] rfl) hF
set_option maxHeartbeats 4000000 in
set_option maxRecDepth 100000 in
theorem c_Y_addAt (l : Launch) (dC : Nat → ClassId) (dI : Nat → Nat → Nat) (h_A : Nat) (k_A : ClassId) (sz : Nat) (A_f : Nat → Int32) (a1 : Int32) (a2 : Int64) (o : (Nat → Int32)) (hF : f_Y_addAt A_f a1 a2 = some o) : Met l y_Y_addAt w_Y_addAt ({ frames := 0, cells := 0, slots := 0, locals := 0 } : Room) (va_Pc [.ref h_A, .int a1, .long a2] (fun U => U.heap.size = sz ∧ va_P (dC, dI) classes [cI h_A k_A 30 A_f] U.heap ∧ va_K (dC, dI) classes [(k_A, .int)] U ∧ va_D (fun _ => True) [cI h_A k_A 30 A_f])) (va_Qv (fun _ : Unit => True) (fun (_ : Unit) (t : State) => va_P (dC, dI) classes [cI h_A k_A 30 o] t.heap ∧ va_K (dC, dI) classes [(k_A, .int)] t ∧ va_D (va_A [cI h_A k_A 30 A_f] sz) [cI h_A k_A 30 o]) (va_A [cI h_A k_A 30 A_f] sz)) 0 0 (va_A [cI h_A k_A 30 A_f] sz) := by
  refine Met.ofW (cc := prog_4_method_12_code) (maxL := 7) (ret := none) (by decide) rfl ?_
  intro p e s m args below meth c s₁ B hml hv
  obtain ⟨rfl, hsz, hP, hK, hD0⟩ := hv
  have hx := B.exec
  have hb := B.bytes
  have hr := B.returns
  have hts0 := atoms_spec (ws := w_Y_addAt) B.pre
  have hts : ∀ w ∈ tb, w.before _ s = true := fun w h => hts0 w (List.mem_cons_of_mem _ h)
  clear hts0
  have hown : s.vm.findClass "RoundedNumbersModel" = some m.cls := findClass_of_methodNamed B.named
  have hlocks := B.notSynchronized
  subst hsz
  have hD := hD0.self (sz := s.heap.size)
  generalize hAe : va_A [cI h_A k_A 30 A_f] s.heap.size = A at hD ⊢
  have hA : ∀ q : Nat, s.heap.size ≤ q → A q := fun q h => by rw [← hAe]; exact Or.inr h
  clear hAe
  have hS : va_S A s.heap s.heap [] := va_S.rf
  have hP : va_P (dC, dI) classes [cI h_A k_A 30 A_f] s.heap := hP
  have hl := lv_entry ([.ref h_A, .int a1, .long a2]) (n := 7) (Nat.le_of_ble_eq_true rfl)
  rw [lg_entry_eq]
  generalize (lg_sl ([.ref h_A, .int a1, .long a2]) ++ List.replicate (7 - (lg_sl ([.ref h_A, .int a1, .long a2])).length) Slot.unset).toArray = ls at hl ⊢
  have hl : lv_has ls 7 [(0, .ref h_A), (1, .int a1), (2, .long a2)] := hl
  have b_6 : ∀ n_ : Nat, ∀ (x4 : Int64) (x6 : Int32) (A_f : Nat → Int32) (H : Heap) (locs : List Loc) (ls : Array Slot), va_P (dC, dI) classes [cI h_A k_A 30 A_f] H → va_D A [cI h_A k_A 30 A_f] → va_S A s.heap H locs → lv_has ls 7 [(0, .ref h_A), (4, .long x4), (6, .int x6)] → f_Y_addAt_6 n_ x4 x6 A_f = some o → W p l e (headSpec w_Y_addAt ({ frames := 0, cells := 0, slots := 0, locals := 0 } : Room)).room s m ([.ref h_A, .int a1, .long a2] : List Value).toArray below meth c H locs 0 0 (MQ below (va_Qv (fun _ : Unit => True) (fun (_ : Unit) (t : State) => va_P (dC, dI) classes [cI h_A k_A 30 o] t.heap ∧ va_K (dC, dI) classes [(k_A, .int)] t ∧ va_D A [cI h_A k_A 30 o]) A) ([.ref h_A, .int a1, .long a2] : List Value).toArray s 0 0 A) (F0 m 6 ls []) := by
    intro n_
    induction n_ with
    | zero =>
      intro x4 x6 A_f H locs ls hP hD hS hl hF
      rw [f_Y_addAt_6] at hF
      exact absurd hF (by simp)
    | succ n_ ih =>
      obtain ⟨k_6, ek_6⟩ : ∃ k, k = f_Y_addAt_6 n_ := ⟨_, rfl⟩
      rw [← ek_6] at ih
      have hk_6 := ih
      intro x4 x6 A_f H locs ls hP hD hS hl hF
      rw [f_Y_addAt_6, ← ek_6] at hF
      refine lv_lload hx hb d_Y_addAt_6 (lv_at hl 1 rfl) ?_
      refine lv_lconst (v := (0 : Int64)) hx hb d_Y_addAt_8 (by decide) ?_
      refine W.lcmp hx hb d_Y_addAt_9 ?_
      refine lv_if_le (tgt := 47) hx hb d_Y_addAt_10 (by decide) (fun c_10 => ?_) (fun c_10 => ?_)
      · replace hF := hif_t c_10 hF
        obtain rfl := Option.some.inj hF
        exact W.vret hx hb hr (fun t ht hW => ⟨⟨(), rfl, trivial, by rw [ht]; exact hP, va_K.moved hW.alike hK, hD⟩, hS.F ht⟩) hS.2.2 d_Y_addAt_47
      · replace hF := hif_f c_10 hF
        refine lv_lload hx hb d_Y_addAt_13 (lv_at hl 1 rfl) ?_
        refine lv_aload_n hx hb d_Y_addAt_15 rfl (lv_at hl 0 rfl) ?_
        refine lv_iload hx hb d_Y_addAt_16 (lv_at hl 2 rfl) ?_
        have c_18 : ¬ (x6 < 0 ∨ 30 ≤ x6.toNatClampNeg) := hif_n hF
        replace hF := hif_f c_18 hF
        refine va_iald hx hb hK hP 0 0 rfl rfl c_18 d_Y_addAt_18 ?_
        refine lv_i2l (v := (A_f x6.toNatClampNeg).toInt64) hx hb d_Y_addAt_19 rfl ?_
        refine lv_ladd hx hb d_Y_addAt_20 ?_
        refine lv_lstore (lv' := [(4, .long (x4 + (A_f x6.toNatClampNeg).toInt64)), (0, .ref h_A), (6, .int x6)]) hx hb d_Y_addAt_21 hl (by decide) rfl (fun ls hl => ?_)
        refine lv_aload_n hx hb d_Y_addAt_23 rfl (lv_at hl 1 rfl) ?_
        refine lv_iload hx hb d_Y_addAt_24 (lv_at hl 2 rfl) ?_
        refine lv_lload hx hb d_Y_addAt_26 (lv_at hl 0 rfl) ?_
        refine lv_ldc2 (v := (268435455 : Int64)) hx hb hown (hts _ tw_396) d_Y_addAt_28 ?_
        refine lv_land hx hb d_Y_addAt_31 ?_
        refine lv_l2i (v := ((x4 + (A_f x6.toNatClampNeg).toInt64) &&& (268435455 : Int64)).toInt32) hx hb d_Y_addAt_32 rfl ?_
        have c_33 : ¬ (x6 < 0 ∨ 30 ≤ x6.toNatClampNeg) := hif_n hF
        replace hF := hif_f c_33 hF
        refine va_iast hx hb hK hP hD hS 0 0 rfl rfl c_33 d_Y_addAt_33 (fun H locs hP hD hS => ?_)
        have hP : va_P (dC, dI) classes [cI h_A k_A 30 (upd A_f x6.toNatClampNeg (((x4 + (A_f x6.toNatClampNeg).toInt64) &&& (268435455 : Int64)).toInt32))] H := hP
        have hD : va_D A [cI h_A k_A 30 (upd A_f x6.toNatClampNeg (((x4 + (A_f x6.toNatClampNeg).toInt64) &&& (268435455 : Int64)).toInt32))] := hD
        refine lv_lload hx hb d_Y_addAt_34 (lv_at hl 0 rfl) ?_
        refine lv_bipush (v := (28 : Int32)) hx hb d_Y_addAt_36 (by decide) ?_
        refine lv_lshr (v := (jshr (x4 + (A_f x6.toNatClampNeg).toInt64) (28 : Int32))) hx hb d_Y_addAt_38 rfl ?_
        refine lv_lstore (lv' := [(4, .long (jshr (x4 + (A_f x6.toNatClampNeg).toInt64) (28 : Int32))), (0, .ref h_A), (6, .int x6)]) hx hb d_Y_addAt_39 hl (by decide) rfl (fun ls hl => ?_)
        refine lv_iinc (v := (x6 + (1 : Int32))) (lv' := [(6, .int (x6 + (1 : Int32))), (4, .long (jshr (x4 + (A_f x6.toNatClampNeg).toInt64) (28 : Int32))), (0, .ref h_A)]) hx hb d_Y_addAt_41 hl (k := 2) rfl rfl (by decide) rfl (fun ls hl => ?_)
        refine lv_goto (tgt := 6) hx hb d_Y_addAt_44 (by decide) ?_
        exact hk_6 (jshr (x4 + (A_f x6.toNatClampNeg).toInt64) (28 : Int32)) (x6 + (1 : Int32)) (upd A_f x6.toNatClampNeg (((x4 + (A_f x6.toNatClampNeg).toInt64) &&& (268435455 : Int64)).toInt32)) _ _ _ hP hD hS (lv_sub hl [2, 1, 0] rfl) hF
  unfold f_Y_addAt at hF
  refine lv_lload_n hx hb d_Y_addAt_0 rfl (lv_at hl 2 rfl) ?_
  refine lv_lstore (lv' := [(4, .long a2), (0, .ref h_A), (1, .int a1), (2, .long a2)]) hx hb d_Y_addAt_1 hl (by decide) rfl (fun ls hl => ?_)
  refine lv_iload_n hx hb d_Y_addAt_3 rfl (lv_at hl 2 rfl) ?_
  refine lv_istore (lv' := [(6, .int a1), (4, .long a2), (0, .ref h_A), (1, .int a1), (2, .long a2)]) hx hb d_Y_addAt_4 hl (by decide) rfl (fun ls hl => ?_)
  exact b_6 1000 a2 a1 A_f _ _ _ hP hD hS (lv_sub hl [2, 1, 0] rfl) hF
set_option maxHeartbeats 4000000 in
set_option maxRecDepth 100000 in
theorem c_Y_addShifted (l : Launch) (dC : Nat → ClassId) (dI : Nat → Nat → Nat) (h_A : Nat) (k_A : ClassId) (sz : Nat) (A_f : Nat → Int32) (a1 : Int64) (a2 : Int32) (o : (Nat → Int32)) (hF : f_Y_addShifted A_f a1 a2 = some o) : Met l y_Y_addShifted w_Y_addShifted ({ frames := 1, cells := 0, slots := 0, locals := 26 } : Room) (va_Pc [.ref h_A, .long a1, .int a2] (fun U => U.heap.size = sz ∧ va_P (dC, dI) classes [cI h_A k_A 30 A_f] U.heap ∧ va_K (dC, dI) classes [(k_A, .int)] U ∧ va_D (fun _ => True) [cI h_A k_A 30 A_f])) (va_Qv (fun _ : Unit => True) (fun (_ : Unit) (t : State) => va_P (dC, dI) classes [cI h_A k_A 30 o] t.heap ∧ va_K (dC, dI) classes [(k_A, .int)] t ∧ va_D (va_A [cI h_A k_A 30 A_f] sz) [cI h_A k_A 30 o]) (va_A [cI h_A k_A 30 A_f] sz)) 0 0 (va_A [cI h_A k_A 30 A_f] sz) := by
  refine Met.ofW (cc := prog_4_method_13_code) (maxL := 6) (ret := none) (by decide) rfl ?_
  intro p e s m args below meth c s₁ B hml hv
  obtain ⟨rfl, hsz, hP, hK, hD0⟩ := hv
  have hx := B.exec
  have hb := B.bytes
  have hr := B.returns
  have hts0 := atoms_spec (ws := w_Y_addShifted) B.pre
  have hts : ∀ w ∈ tb, w.before _ s = true := fun w h => hts0 w (List.mem_cons_of_mem _ h)
  clear hts0
  have hown : s.vm.findClass "RoundedNumbersModel" = some m.cls := findClass_of_methodNamed B.named
  have hlocks := B.notSynchronized
  subst hsz
  have hD := hD0.self (sz := s.heap.size)
  generalize hAe : va_A [cI h_A k_A 30 A_f] s.heap.size = A at hD ⊢
  have hA : ∀ q : Nat, s.heap.size ≤ q → A q := fun q h => by rw [← hAe]; exact Or.inr h
  clear hAe
  have hS : va_S A s.heap s.heap [] := va_S.rf
  have hP : va_P (dC, dI) classes [cI h_A k_A 30 A_f] s.heap := hP
  have hl := lv_entry ([.ref h_A, .long a1, .int a2]) (n := 6) (Nat.le_of_ble_eq_true rfl)
  rw [lg_entry_eq]
  generalize (lg_sl ([.ref h_A, .long a1, .int a2]) ++ List.replicate (6 - (lg_sl ([.ref h_A, .long a1, .int a2])).length) Slot.unset).toArray = ls at hl ⊢
  have hl : lv_has ls 6 [(0, .ref h_A), (1, .long a1), (3, .int a2)] := hl
  unfold f_Y_addShifted at hF
  refine lv_iload_n hx hb d_Y_addShifted_0 rfl (lv_at hl 2 rfl) ?_
  refine lv_bipush (v := (28 : Int32)) hx hb d_Y_addShifted_1 (by decide) ?_
  refine lv_idiv hx hb d_Y_addShifted_3 (by decide) ?_
  refine lv_istore (lv' := [(4, .int (a2 / (28 : Int32))), (0, .ref h_A), (1, .long a1), (3, .int a2)]) hx hb d_Y_addShifted_4 hl (by decide) rfl (fun ls hl => ?_)
  refine lv_iload_n hx hb d_Y_addShifted_6 rfl (lv_at hl 3 rfl) ?_
  refine lv_bipush (v := (28 : Int32)) hx hb d_Y_addShifted_7 (by decide) ?_
  refine lv_irem hx hb d_Y_addShifted_9 (by decide) ?_
  refine lv_istore (lv' := [(5, .int (a2 - a2 / (28 : Int32) * (28 : Int32))), (4, .int (a2 / (28 : Int32))), (0, .ref h_A), (1, .long a1), (3, .int a2)]) hx hb d_Y_addShifted_10 hl (by decide) rfl (fun ls hl => ?_)
  refine lv_aload_n hx hb d_Y_addShifted_12 rfl (lv_at hl 2 rfl) ?_
  refine lv_iload hx hb d_Y_addShifted_13 (lv_at hl 1 rfl) ?_
  refine lv_lload_n hx hb d_Y_addShifted_15 rfl (lv_at hl 3 rfl) ?_
  refine lv_ldc2 (v := (268435455 : Int64)) hx hb hown (hts _ tw_396) d_Y_addShifted_16 ?_
  refine lv_land hx hb d_Y_addShifted_19 ?_
  refine lv_iload hx hb d_Y_addShifted_20 (lv_at hl 0 rfl) ?_
  refine lv_lshl (v := (jshl (a1 &&& (268435455 : Int64)) (a2 - a2 / (28 : Int32) * (28 : Int32)))) hx hb d_Y_addShifted_22 rfl ?_
  obtain ⟨q_23, hC_23, hF⟩ := hbd hF
  have hPc := hP.sub (ws' := [cI h_A k_A 30 A_f]) [0] rfl
  have hDc := hD.sub (ws' := [cI h_A k_A 30 A_f]) [0] (by decide) rfl
  have hKc := hK.sub (tys' := [(k_A, .int)]) [0] rfl
  have hFc := va_free (wc := [cI h_A k_A 30 A_f]) hD hS hA [0] rfl
  refine va_callv (va_runS (As := [.ref h_A, .int (a2 / (28 : Int32)), .long (jshl (a1 &&& (268435455 : Int64)) (a2 - a2 / (28 : Int32) * (28 : Int32)))]) (rest := []) ⟨hx, hb, hml, hown, hts⟩ (c_Y_addAt l dC dI h_A k_A s.heap.size A_f (a2 / (28 : Int32)) (jshl (a1 &&& (268435455 : Int64)) (a2 - a2 / (28 : Int32) * (28 : Int32))) q_23 hC_23) (cwS 3 hts g_Y_74_Y_addAt rfl rfl rfl (by decide +kernel) ⟨Nat.le_of_ble_eq_true rfl, Nat.le_of_ble_eq_true rfl⟩) ⟨fun a U g mk q => by obtain ⟨q0, q1, qP, qK, qD⟩ := q; exact ⟨q0, q1, qP, va_K.moved (u := U) (U := U.calling g mk a) (Vm.Alike.refl U.vm) qK, qD⟩, fun U hU hW => ⟨rfl, by rw [hU], by rw [hU]; exact hPc, va_K.moved hW.alike hKc, hDc.weaken (fun _ _ _ _ => trivial)⟩⟩ rfl rfl hl.1 rfl (lv_room (Nat.le_of_ble_eq_true rfl)) d_Y_addShifted_23 ⟨Nat.zero_le _, Nat.zero_le _⟩) hS (fun q _ h => hFc q h) hFc (fun u t H1 locs ht hvm hw hB hz1 hk1 hS => ?_)
  obtain ⟨hP1, hK1, hD1⟩ := hB
  rw [ht] at hP1
  obtain ⟨hP, hD⟩ := va_join (wr := []) (w1 := [cI h_A k_A 30 q_23]) hP hD [0] [] rfl rfl (by decide) (by decide) hk1 hFc hP1 hD1
  generalize H1 = H at hP hS ⊢
  have hP := hP.sub (ws' := [cI h_A k_A 30 q_23]) [0] rfl
  have hD := hD.sub (ws' := [cI h_A k_A 30 q_23]) [0] (by decide) rfl
  refine lv_aload_n hx hb d_Y_addShifted_26 rfl (lv_at hl 2 rfl) ?_
  refine lv_iload hx hb d_Y_addShifted_27 (lv_at hl 1 rfl) ?_
  refine lv_iconst (v := (1 : Int32)) hx hb d_Y_addShifted_29 (by decide) ?_
  refine lv_iadd hx hb d_Y_addShifted_30 ?_
  refine lv_lload_n hx hb d_Y_addShifted_31 rfl (lv_at hl 3 rfl) ?_
  refine lv_bipush (v := (28 : Int32)) hx hb d_Y_addShifted_32 (by decide) ?_
  refine lv_lshr (v := (jshr a1 (28 : Int32))) hx hb d_Y_addShifted_34 rfl ?_
  refine lv_iload hx hb d_Y_addShifted_35 (lv_at hl 0 rfl) ?_
  refine lv_lshl (v := (jshl (jshr a1 (28 : Int32)) (a2 - a2 / (28 : Int32) * (28 : Int32)))) hx hb d_Y_addShifted_37 rfl ?_
  obtain ⟨q_38, hC_38, hF⟩ := hbd hF
  have hPc := hP.sub (ws' := [cI h_A k_A 30 q_23]) [0] rfl
  have hDc := hD.sub (ws' := [cI h_A k_A 30 q_23]) [0] (by decide) rfl
  have hKc := hK.sub (tys' := [(k_A, .int)]) [0] rfl
  have hFc := va_free (wc := [cI h_A k_A 30 q_23]) hD hS hA [0] rfl
  refine va_callv (va_runS (As := [.ref h_A, .int ((a2 / (28 : Int32)) + (1 : Int32)), .long (jshl (jshr a1 (28 : Int32)) (a2 - a2 / (28 : Int32) * (28 : Int32)))]) (rest := []) ⟨hx, hb, hml, hown, hts⟩ (c_Y_addAt l dC dI h_A k_A H.size q_23 ((a2 / (28 : Int32)) + (1 : Int32)) (jshl (jshr a1 (28 : Int32)) (a2 - a2 / (28 : Int32) * (28 : Int32))) q_38 hC_38) (cwS 3 hts g_Y_74_Y_addAt rfl rfl rfl (by decide +kernel) ⟨Nat.le_of_ble_eq_true rfl, Nat.le_of_ble_eq_true rfl⟩) ⟨fun a U g mk q => by obtain ⟨q0, q1, qP, qK, qD⟩ := q; exact ⟨q0, q1, qP, va_K.moved (u := U) (U := U.calling g mk a) (Vm.Alike.refl U.vm) qK, qD⟩, fun U hU hW => ⟨rfl, by rw [hU], by rw [hU]; exact hPc, va_K.moved hW.alike hKc, hDc.weaken (fun _ _ _ _ => trivial)⟩⟩ rfl rfl hl.1 rfl (lv_room (Nat.le_of_ble_eq_true rfl)) d_Y_addShifted_38 ⟨Nat.zero_le _, Nat.zero_le _⟩) hS (fun q _ h => hFc q h) hFc (fun u t H1 locs ht hvm hw hB hz1 hk1 hS => ?_)
  obtain ⟨hP1, hK1, hD1⟩ := hB
  rw [ht] at hP1
  obtain ⟨hP, hD⟩ := va_join (wr := []) (w1 := [cI h_A k_A 30 q_38]) hP hD [0] [] rfl rfl (by decide) (by decide) hk1 hFc hP1 hD1
  generalize H1 = H at hP hS ⊢
  have hP := hP.sub (ws' := [cI h_A k_A 30 q_38]) [0] rfl
  have hD := hD.sub (ws' := [cI h_A k_A 30 q_38]) [0] (by decide) rfl
  obtain rfl := Option.some.inj hF
  exact W.vret hx hb hr (fun t ht hW => ⟨⟨(), rfl, trivial, by rw [ht]; exact hP, va_K.moved hW.alike hK, hD⟩, hS.F ht⟩) hS.2.2 d_Y_addShifted_41
set_option maxHeartbeats 4000000 in
set_option maxRecDepth 100000 in
theorem c_Y_addProduct (l : Launch) (dC : Nat → ClassId) (dI : Nat → Nat → Nat) (h_A : Nat) (k_A : ClassId) (sz : Nat) (A_f : Nat → Int32) (a1 : Int64) (a2 : Int64) (a3 : Int32) (o : (Nat → Int32)) (hF : f_Y_addProduct A_f a1 a2 a3 = some o) : Met l y_Y_addProduct w_Y_addProduct ({ frames := 2, cells := 0, slots := 0, locals := 51 } : Room) (va_Pc [.ref h_A, .long a1, .long a2, .int a3] (fun U => U.heap.size = sz ∧ va_P (dC, dI) classes [cI h_A k_A 30 A_f] U.heap ∧ va_K (dC, dI) classes [(k_A, .int)] U ∧ va_D (fun _ => True) [cI h_A k_A 30 A_f])) (va_Qv (fun _ : Unit => True) (fun (_ : Unit) (t : State) => va_P (dC, dI) classes [cI h_A k_A 30 o] t.heap ∧ va_K (dC, dI) classes [(k_A, .int)] t ∧ va_D (va_A [cI h_A k_A 30 A_f] sz) [cI h_A k_A 30 o]) (va_A [cI h_A k_A 30 A_f] sz)) 0 0 (va_A [cI h_A k_A 30 A_f] sz) := by
  refine Met.ofW (cc := prog_4_method_14_code) (maxL := 14) (ret := none) (by decide) rfl ?_
  intro p e s m args below meth c s₁ B hml hv
  obtain ⟨rfl, hsz, hP, hK, hD0⟩ := hv
  have hx := B.exec
  have hb := B.bytes
  have hr := B.returns
  have hts0 := atoms_spec (ws := w_Y_addProduct) B.pre
  have hts : ∀ w ∈ tb, w.before _ s = true := fun w h => hts0 w (List.mem_cons_of_mem _ h)
  clear hts0
  have hown : s.vm.findClass "RoundedNumbersModel" = some m.cls := findClass_of_methodNamed B.named
  have hlocks := B.notSynchronized
  subst hsz
  have hD := hD0.self (sz := s.heap.size)
  generalize hAe : va_A [cI h_A k_A 30 A_f] s.heap.size = A at hD ⊢
  have hA : ∀ q : Nat, s.heap.size ≤ q → A q := fun q h => by rw [← hAe]; exact Or.inr h
  clear hAe
  have hS : va_S A s.heap s.heap [] := va_S.rf
  have hP : va_P (dC, dI) classes [cI h_A k_A 30 A_f] s.heap := hP
  have hl := lv_entry ([.ref h_A, .long a1, .long a2, .int a3]) (n := 14) (Nat.le_of_ble_eq_true rfl)
  rw [lg_entry_eq]
  generalize (lg_sl ([.ref h_A, .long a1, .long a2, .int a3]) ++ List.replicate (14 - (lg_sl ([.ref h_A, .long a1, .long a2, .int a3])).length) Slot.unset).toArray = ls at hl ⊢
  have hl : lv_has ls 14 [(0, .ref h_A), (1, .long a1), (3, .long a2), (5, .int a3)] := hl
  unfold f_Y_addProduct at hF
  refine lv_lload_n hx hb d_Y_addProduct_0 rfl (lv_at hl 1 rfl) ?_
  refine lv_bipush (v := (27 : Int32)) hx hb d_Y_addProduct_1 (by decide) ?_
  refine lv_lshr (v := (jshr a1 (27 : Int32))) hx hb d_Y_addProduct_3 rfl ?_
  refine lv_lstore (lv' := [(6, .long (jshr a1 (27 : Int32))), (0, .ref h_A), (1, .long a1), (3, .long a2), (5, .int a3)]) hx hb d_Y_addProduct_4 hl (by decide) rfl (fun ls hl => ?_)
  refine lv_lload_n hx hb d_Y_addProduct_6 rfl (lv_at hl 2 rfl) ?_
  refine lv_ldc2 (v := (134217727 : Int64)) hx hb hown (hts _ tw_441) d_Y_addProduct_7 ?_
  refine lv_land hx hb d_Y_addProduct_10 ?_
  refine lv_lstore (lv' := [(8, .long (a1 &&& (134217727 : Int64))), (6, .long (jshr a1 (27 : Int32))), (0, .ref h_A), (1, .long a1), (3, .long a2), (5, .int a3)]) hx hb d_Y_addProduct_11 hl (by decide) rfl (fun ls hl => ?_)
  refine lv_lload_n hx hb d_Y_addProduct_13 rfl (lv_at hl 4 rfl) ?_
  refine lv_bipush (v := (27 : Int32)) hx hb d_Y_addProduct_14 (by decide) ?_
  refine lv_lshr (v := (jshr a2 (27 : Int32))) hx hb d_Y_addProduct_16 rfl ?_
  refine lv_lstore (lv' := [(10, .long (jshr a2 (27 : Int32))), (8, .long (a1 &&& (134217727 : Int64))), (6, .long (jshr a1 (27 : Int32))), (0, .ref h_A), (1, .long a1), (3, .long a2), (5, .int a3)]) hx hb d_Y_addProduct_17 hl (by decide) rfl (fun ls hl => ?_)
  refine lv_lload_n hx hb d_Y_addProduct_19 rfl (lv_at hl 5 rfl) ?_
  refine lv_ldc2 (v := (134217727 : Int64)) hx hb hown (hts _ tw_441) d_Y_addProduct_20 ?_
  refine lv_land hx hb d_Y_addProduct_23 ?_
  refine lv_lstore (lv' := [(12, .long (a2 &&& (134217727 : Int64))), (10, .long (jshr a2 (27 : Int32))), (8, .long (a1 &&& (134217727 : Int64))), (6, .long (jshr a1 (27 : Int32))), (0, .ref h_A), (1, .long a1), (3, .long a2), (5, .int a3)]) hx hb d_Y_addProduct_24 hl (by decide) rfl (fun ls hl => ?_)
  refine lv_aload_n hx hb d_Y_addProduct_26 rfl (lv_at hl 4 rfl) ?_
  refine lv_lload hx hb d_Y_addProduct_27 (lv_at hl 2 rfl) ?_
  refine lv_lload hx hb d_Y_addProduct_29 (lv_at hl 0 rfl) ?_
  refine lv_lmul hx hb d_Y_addProduct_31 ?_
  refine lv_iload hx hb d_Y_addProduct_32 (lv_at hl 7 rfl) ?_
  obtain ⟨q_34, hC_34, hF⟩ := hbd hF
  have hPc := hP.sub (ws' := [cI h_A k_A 30 A_f]) [0] rfl
  have hDc := hD.sub (ws' := [cI h_A k_A 30 A_f]) [0] (by decide) rfl
  have hKc := hK.sub (tys' := [(k_A, .int)]) [0] rfl
  have hFc := va_free (wc := [cI h_A k_A 30 A_f]) hD hS hA [0] rfl
  refine va_callv (va_runS (As := [.ref h_A, .long ((a1 &&& (134217727 : Int64)) * (a2 &&& (134217727 : Int64))), .int a3]) (rest := []) ⟨hx, hb, hml, hown, hts⟩ (c_Y_addShifted l dC dI h_A k_A s.heap.size A_f ((a1 &&& (134217727 : Int64)) * (a2 &&& (134217727 : Int64))) a3 q_34 hC_34) (cwS 3 hts g_Y_80_Y_addShifted rfl rfl rfl (by decide +kernel) ⟨Nat.le_of_ble_eq_true rfl, Nat.le_of_ble_eq_true rfl⟩) ⟨fun a U g mk q => by obtain ⟨q0, q1, qP, qK, qD⟩ := q; exact ⟨q0, q1, qP, va_K.moved (u := U) (U := U.calling g mk a) (Vm.Alike.refl U.vm) qK, qD⟩, fun U hU hW => ⟨rfl, by rw [hU], by rw [hU]; exact hPc, va_K.moved hW.alike hKc, hDc.weaken (fun _ _ _ _ => trivial)⟩⟩ rfl rfl hl.1 rfl (lv_room (Nat.le_of_ble_eq_true rfl)) d_Y_addProduct_34 ⟨Nat.zero_le _, Nat.zero_le _⟩) hS (fun q _ h => hFc q h) hFc (fun u t H1 locs ht hvm hw hB hz1 hk1 hS => ?_)
  obtain ⟨hP1, hK1, hD1⟩ := hB
  rw [ht] at hP1
  obtain ⟨hP, hD⟩ := va_join (wr := []) (w1 := [cI h_A k_A 30 q_34]) hP hD [0] [] rfl rfl (by decide) (by decide) hk1 hFc hP1 hD1
  generalize H1 = H at hP hS ⊢
  have hP := hP.sub (ws' := [cI h_A k_A 30 q_34]) [0] rfl
  have hD := hD.sub (ws' := [cI h_A k_A 30 q_34]) [0] (by decide) rfl
  refine lv_aload_n hx hb d_Y_addProduct_37 rfl (lv_at hl 4 rfl) ?_
  refine lv_lload hx hb d_Y_addProduct_38 (lv_at hl 2 rfl) ?_
  refine lv_lload hx hb d_Y_addProduct_40 (lv_at hl 1 rfl) ?_
  refine lv_lmul hx hb d_Y_addProduct_42 ?_
  refine lv_iload hx hb d_Y_addProduct_43 (lv_at hl 7 rfl) ?_
  refine lv_bipush (v := (27 : Int32)) hx hb d_Y_addProduct_45 (by decide) ?_
  refine lv_iadd hx hb d_Y_addProduct_47 ?_
  obtain ⟨q_48, hC_48, hF⟩ := hbd hF
  have hPc := hP.sub (ws' := [cI h_A k_A 30 q_34]) [0] rfl
  have hDc := hD.sub (ws' := [cI h_A k_A 30 q_34]) [0] (by decide) rfl
  have hKc := hK.sub (tys' := [(k_A, .int)]) [0] rfl
  have hFc := va_free (wc := [cI h_A k_A 30 q_34]) hD hS hA [0] rfl
  refine va_callv (va_runS (As := [.ref h_A, .long ((a1 &&& (134217727 : Int64)) * (jshr a2 (27 : Int32))), .int (a3 + (27 : Int32))]) (rest := []) ⟨hx, hb, hml, hown, hts⟩ (c_Y_addShifted l dC dI h_A k_A H.size q_34 ((a1 &&& (134217727 : Int64)) * (jshr a2 (27 : Int32))) (a3 + (27 : Int32)) q_48 hC_48) (cwS 3 hts g_Y_80_Y_addShifted rfl rfl rfl (by decide +kernel) ⟨Nat.le_of_ble_eq_true rfl, Nat.le_of_ble_eq_true rfl⟩) ⟨fun a U g mk q => by obtain ⟨q0, q1, qP, qK, qD⟩ := q; exact ⟨q0, q1, qP, va_K.moved (u := U) (U := U.calling g mk a) (Vm.Alike.refl U.vm) qK, qD⟩, fun U hU hW => ⟨rfl, by rw [hU], by rw [hU]; exact hPc, va_K.moved hW.alike hKc, hDc.weaken (fun _ _ _ _ => trivial)⟩⟩ rfl rfl hl.1 rfl (lv_room (Nat.le_of_ble_eq_true rfl)) d_Y_addProduct_48 ⟨Nat.zero_le _, Nat.zero_le _⟩) hS (fun q _ h => hFc q h) hFc (fun u t H1 locs ht hvm hw hB hz1 hk1 hS => ?_)
  obtain ⟨hP1, hK1, hD1⟩ := hB
  rw [ht] at hP1
  obtain ⟨hP, hD⟩ := va_join (wr := []) (w1 := [cI h_A k_A 30 q_48]) hP hD [0] [] rfl rfl (by decide) (by decide) hk1 hFc hP1 hD1
  generalize H1 = H at hP hS ⊢
  have hP := hP.sub (ws' := [cI h_A k_A 30 q_48]) [0] rfl
  have hD := hD.sub (ws' := [cI h_A k_A 30 q_48]) [0] (by decide) rfl
  refine lv_aload_n hx hb d_Y_addProduct_51 rfl (lv_at hl 4 rfl) ?_
  refine lv_lload hx hb d_Y_addProduct_52 (lv_at hl 3 rfl) ?_
  refine lv_lload hx hb d_Y_addProduct_54 (lv_at hl 0 rfl) ?_
  refine lv_lmul hx hb d_Y_addProduct_56 ?_
  refine lv_iload hx hb d_Y_addProduct_57 (lv_at hl 7 rfl) ?_
  refine lv_bipush (v := (27 : Int32)) hx hb d_Y_addProduct_59 (by decide) ?_
  refine lv_iadd hx hb d_Y_addProduct_61 ?_
  obtain ⟨q_62, hC_62, hF⟩ := hbd hF
  have hPc := hP.sub (ws' := [cI h_A k_A 30 q_48]) [0] rfl
  have hDc := hD.sub (ws' := [cI h_A k_A 30 q_48]) [0] (by decide) rfl
  have hKc := hK.sub (tys' := [(k_A, .int)]) [0] rfl
  have hFc := va_free (wc := [cI h_A k_A 30 q_48]) hD hS hA [0] rfl
  refine va_callv (va_runS (As := [.ref h_A, .long ((jshr a1 (27 : Int32)) * (a2 &&& (134217727 : Int64))), .int (a3 + (27 : Int32))]) (rest := []) ⟨hx, hb, hml, hown, hts⟩ (c_Y_addShifted l dC dI h_A k_A H.size q_48 ((jshr a1 (27 : Int32)) * (a2 &&& (134217727 : Int64))) (a3 + (27 : Int32)) q_62 hC_62) (cwS 3 hts g_Y_80_Y_addShifted rfl rfl rfl (by decide +kernel) ⟨Nat.le_of_ble_eq_true rfl, Nat.le_of_ble_eq_true rfl⟩) ⟨fun a U g mk q => by obtain ⟨q0, q1, qP, qK, qD⟩ := q; exact ⟨q0, q1, qP, va_K.moved (u := U) (U := U.calling g mk a) (Vm.Alike.refl U.vm) qK, qD⟩, fun U hU hW => ⟨rfl, by rw [hU], by rw [hU]; exact hPc, va_K.moved hW.alike hKc, hDc.weaken (fun _ _ _ _ => trivial)⟩⟩ rfl rfl hl.1 rfl (lv_room (Nat.le_of_ble_eq_true rfl)) d_Y_addProduct_62 ⟨Nat.zero_le _, Nat.zero_le _⟩) hS (fun q _ h => hFc q h) hFc (fun u t H1 locs ht hvm hw hB hz1 hk1 hS => ?_)
  obtain ⟨hP1, hK1, hD1⟩ := hB
  rw [ht] at hP1
  obtain ⟨hP, hD⟩ := va_join (wr := []) (w1 := [cI h_A k_A 30 q_62]) hP hD [0] [] rfl rfl (by decide) (by decide) hk1 hFc hP1 hD1
  generalize H1 = H at hP hS ⊢
  have hP := hP.sub (ws' := [cI h_A k_A 30 q_62]) [0] rfl
  have hD := hD.sub (ws' := [cI h_A k_A 30 q_62]) [0] (by decide) rfl
  refine lv_aload_n hx hb d_Y_addProduct_65 rfl (lv_at hl 4 rfl) ?_
  refine lv_lload hx hb d_Y_addProduct_66 (lv_at hl 3 rfl) ?_
  refine lv_lload hx hb d_Y_addProduct_68 (lv_at hl 1 rfl) ?_
  refine lv_lmul hx hb d_Y_addProduct_70 ?_
  refine lv_iload hx hb d_Y_addProduct_71 (lv_at hl 7 rfl) ?_
  refine lv_bipush (v := (54 : Int32)) hx hb d_Y_addProduct_73 (by decide) ?_
  refine lv_iadd hx hb d_Y_addProduct_75 ?_
  obtain ⟨q_76, hC_76, hF⟩ := hbd hF
  have hPc := hP.sub (ws' := [cI h_A k_A 30 q_62]) [0] rfl
  have hDc := hD.sub (ws' := [cI h_A k_A 30 q_62]) [0] (by decide) rfl
  have hKc := hK.sub (tys' := [(k_A, .int)]) [0] rfl
  have hFc := va_free (wc := [cI h_A k_A 30 q_62]) hD hS hA [0] rfl
  refine va_callv (va_runS (As := [.ref h_A, .long ((jshr a1 (27 : Int32)) * (jshr a2 (27 : Int32))), .int (a3 + (54 : Int32))]) (rest := []) ⟨hx, hb, hml, hown, hts⟩ (c_Y_addShifted l dC dI h_A k_A H.size q_62 ((jshr a1 (27 : Int32)) * (jshr a2 (27 : Int32))) (a3 + (54 : Int32)) q_76 hC_76) (cwS 3 hts g_Y_80_Y_addShifted rfl rfl rfl (by decide +kernel) ⟨Nat.le_of_ble_eq_true rfl, Nat.le_of_ble_eq_true rfl⟩) ⟨fun a U g mk q => by obtain ⟨q0, q1, qP, qK, qD⟩ := q; exact ⟨q0, q1, qP, va_K.moved (u := U) (U := U.calling g mk a) (Vm.Alike.refl U.vm) qK, qD⟩, fun U hU hW => ⟨rfl, by rw [hU], by rw [hU]; exact hPc, va_K.moved hW.alike hKc, hDc.weaken (fun _ _ _ _ => trivial)⟩⟩ rfl rfl hl.1 rfl (lv_room (Nat.le_of_ble_eq_true rfl)) d_Y_addProduct_76 ⟨Nat.zero_le _, Nat.zero_le _⟩) hS (fun q _ h => hFc q h) hFc (fun u t H1 locs ht hvm hw hB hz1 hk1 hS => ?_)
  obtain ⟨hP1, hK1, hD1⟩ := hB
  rw [ht] at hP1
  obtain ⟨hP, hD⟩ := va_join (wr := []) (w1 := [cI h_A k_A 30 q_76]) hP hD [0] [] rfl rfl (by decide) (by decide) hk1 hFc hP1 hD1
  generalize H1 = H at hP hS ⊢
  have hP := hP.sub (ws' := [cI h_A k_A 30 q_76]) [0] rfl
  have hD := hD.sub (ws' := [cI h_A k_A 30 q_76]) [0] (by decide) rfl
  obtain rfl := Option.some.inj hF
  exact W.vret hx hb hr (fun t ht hW => ⟨⟨(), rfl, trivial, by rw [ht]; exact hP, va_K.moved hW.alike hK, hD⟩, hS.F ht⟩) hS.2.2 d_Y_addProduct_79
set_option maxHeartbeats 4000000 in
set_option maxRecDepth 100000 in
theorem c_Y_compareBig (l : Launch) (dC : Nat → ClassId) (dI : Nat → Nat → Nat) (h_A : Nat) (h_C : Nat) (k_A : ClassId) (k_C : ClassId) (sz : Nat) (A_f : Nat → Int32) (C_f : Nat → Int32) (o : Int32) (hF : f_Y_compareBig A_f C_f = some o) : Met l y_Y_compareBig w_Y_compareBig ({ frames := 0, cells := 0, slots := 0, locals := 0 } : Room) (va_Pc [.ref h_A, .ref h_C] (fun U => U.heap.size = sz ∧ va_P (dC, dI) classes [cI h_A k_A 30 A_f, cI h_C k_C 30 C_f] U.heap ∧ va_K (dC, dI) classes [(k_A, .int), (k_C, .int)] U ∧ va_D (fun _ => True) [cI h_A k_A 30 A_f, cI h_C k_C 30 C_f])) (va_Qi (fun (r : Int32) (_ : Unit) => r = o) (fun (_ : Unit) (t : State) => va_P (dC, dI) classes [cI h_A k_A 30 A_f, cI h_C k_C 30 C_f] t.heap ∧ va_K (dC, dI) classes [(k_A, .int), (k_C, .int)] t ∧ va_D (va_A [cI h_A k_A 30 A_f, cI h_C k_C 30 C_f] sz) [cI h_A k_A 30 A_f, cI h_C k_C 30 C_f]) (va_A [cI h_A k_A 30 A_f, cI h_C k_C 30 C_f] sz)) 0 0 (va_A [cI h_A k_A 30 A_f, cI h_C k_C 30 C_f] sz) := by
  refine Met.ofW (cc := prog_4_method_15_code) (maxL := 3) (ret := (some .int)) (by decide) rfl ?_
  intro p e s m args below meth c s₁ B hml hv
  obtain ⟨rfl, hsz, hP, hK, hD0⟩ := hv
  have hx := B.exec
  have hb := B.bytes
  have hr := B.returns
  have hts0 := atoms_spec (ws := w_Y_compareBig) B.pre
  have hts : ∀ w ∈ tb, w.before _ s = true := fun w h => hts0 w (List.mem_cons_of_mem _ h)
  clear hts0
  have hown : s.vm.findClass "RoundedNumbersModel" = some m.cls := findClass_of_methodNamed B.named
  have hlocks := B.notSynchronized
  subst hsz
  have hD := hD0.self (sz := s.heap.size)
  generalize hAe : va_A [cI h_A k_A 30 A_f, cI h_C k_C 30 C_f] s.heap.size = A at hD ⊢
  have hA : ∀ q : Nat, s.heap.size ≤ q → A q := fun q h => by rw [← hAe]; exact Or.inr h
  clear hAe
  have hS : va_S A s.heap s.heap [] := va_S.rf
  have hP : va_P (dC, dI) classes [cI h_A k_A 30 A_f, cI h_C k_C 30 C_f] s.heap := hP
  have hl := lv_entry ([.ref h_A, .ref h_C]) (n := 3) (Nat.le_of_ble_eq_true rfl)
  rw [lg_entry_eq]
  generalize (lg_sl ([.ref h_A, .ref h_C]) ++ List.replicate (3 - (lg_sl ([.ref h_A, .ref h_C])).length) Slot.unset).toArray = ls at hl ⊢
  have hl : lv_has ls 3 [(0, .ref h_A), (1, .ref h_C)] := hl
  have b_3 : ∀ n_ : Nat, ∀ (x2 : Int32) (A_f : Nat → Int32) (C_f : Nat → Int32) (H : Heap) (locs : List Loc) (ls : Array Slot), va_P (dC, dI) classes [cI h_A k_A 30 A_f, cI h_C k_C 30 C_f] H → va_D A [cI h_A k_A 30 A_f, cI h_C k_C 30 C_f] → va_S A s.heap H locs → lv_has ls 3 [(0, .ref h_A), (1, .ref h_C), (2, .int x2)] → f_Y_compareBig_3 n_ x2 A_f C_f = some o → W p l e (headSpec w_Y_compareBig ({ frames := 0, cells := 0, slots := 0, locals := 0 } : Room)).room s m ([.ref h_A, .ref h_C] : List Value).toArray below meth c H locs 0 0 (MQ below (va_Qi (fun (r : Int32) (_ : Unit) => r = o) (fun (_ : Unit) (t : State) => va_P (dC, dI) classes [cI h_A k_A 30 A_f, cI h_C k_C 30 C_f] t.heap ∧ va_K (dC, dI) classes [(k_A, .int), (k_C, .int)] t ∧ va_D A [cI h_A k_A 30 A_f, cI h_C k_C 30 C_f]) A) ([.ref h_A, .ref h_C] : List Value).toArray s 0 0 A) (F0 m 3 ls []) := by
    intro n_
    induction n_ with
    | zero =>
      intro x2 A_f C_f H locs ls hP hD hS hl hF
      rw [f_Y_compareBig_3] at hF
      exact absurd hF (by simp)
    | succ n_ ih =>
      obtain ⟨k_3, ek_3⟩ : ∃ k, k = f_Y_compareBig_3 n_ := ⟨_, rfl⟩
      rw [← ek_3] at ih
      have hk_3 := ih
      intro x2 A_f C_f H locs ls hP hD hS hl hF
      rw [f_Y_compareBig_3, ← ek_3] at hF
      refine lv_iload_n hx hb d_Y_compareBig_3 rfl (lv_at hl 2 rfl) ?_
      refine lv_if_lt (tgt := 37) hx hb d_Y_compareBig_4 (by decide) (fun c_4 => ?_) (fun c_4 => ?_)
      · replace hF := hif_t c_4 hF
        refine lv_iconst (v := (0 : Int32)) hx hb d_Y_compareBig_37 (by decide) ?_
        obtain rfl := Option.some.inj hF
        exact W.iret (v := (0 : Int32)) hx hb hr (fun t ht hW => ⟨⟨(0 : Int32), (), rfl, rfl, by rw [ht]; exact hP, va_K.moved hW.alike hK, hD⟩, hS.F ht⟩) hS.2.2 d_Y_compareBig_38
      · replace hF := hif_f c_4 hF
        refine lv_aload_n hx hb d_Y_compareBig_7 rfl (lv_at hl 0 rfl) ?_
        refine lv_iload_n hx hb d_Y_compareBig_8 rfl (lv_at hl 2 rfl) ?_
        have c_9 : ¬ (x2 < 0 ∨ 30 ≤ x2.toNatClampNeg) := hif_n hF
        replace hF := hif_f c_9 hF
        refine va_iald hx hb hK hP 0 0 rfl rfl c_9 d_Y_compareBig_9 ?_
        refine lv_aload_n hx hb d_Y_compareBig_10 rfl (lv_at hl 1 rfl) ?_
        refine lv_iload_n hx hb d_Y_compareBig_11 rfl (lv_at hl 2 rfl) ?_
        have c_12 : ¬ (x2 < 0 ∨ 30 ≤ x2.toNatClampNeg) := hif_n hF
        replace hF := hif_f c_12 hF
        refine va_iald hx hb hK hP 1 1 rfl rfl c_12 d_Y_compareBig_12 ?_
        refine lv_icmp_eq (tgt := 31) hx hb d_Y_compareBig_13 (by decide) (fun c_13 => ?_) (fun c_13 => ?_)
        · replace hF := hif_t c_13 hF
          refine lv_iinc (v := (x2 + (-1 : Int32))) (lv' := [(2, .int (x2 + (-1 : Int32))), (0, .ref h_A), (1, .ref h_C)]) hx hb d_Y_compareBig_31 hl (k := 2) rfl rfl (by decide) rfl (fun ls hl => ?_)
          refine lv_goto (tgt := 3) hx hb d_Y_compareBig_34 (by decide) ?_
          exact hk_3 (x2 + (-1 : Int32)) A_f C_f _ _ _ hP hD hS (lv_sub hl [1, 2, 0] rfl) hF
        · replace hF := hif_f c_13 hF
          refine lv_aload_n hx hb d_Y_compareBig_16 rfl (lv_at hl 0 rfl) ?_
          refine lv_iload_n hx hb d_Y_compareBig_17 rfl (lv_at hl 2 rfl) ?_
          have c_18 : ¬ (x2 < 0 ∨ 30 ≤ x2.toNatClampNeg) := hif_n hF
          replace hF := hif_f c_18 hF
          refine va_iald hx hb hK hP 0 0 rfl rfl c_18 d_Y_compareBig_18 ?_
          refine lv_aload_n hx hb d_Y_compareBig_19 rfl (lv_at hl 1 rfl) ?_
          refine lv_iload_n hx hb d_Y_compareBig_20 rfl (lv_at hl 2 rfl) ?_
          have c_21 : ¬ (x2 < 0 ∨ 30 ≤ x2.toNatClampNeg) := hif_n hF
          replace hF := hif_f c_21 hF
          refine va_iald hx hb hK hP 1 1 rfl rfl c_21 d_Y_compareBig_21 ?_
          refine lv_icmp_ge (tgt := 29) hx hb d_Y_compareBig_22 (by decide) (fun c_22 => ?_) (fun c_22 => ?_)
          · replace hF := hif_t c_22 hF
            refine lv_iconst (v := (1 : Int32)) hx hb d_Y_compareBig_29 (by decide) ?_
            obtain rfl := Option.some.inj hF
            exact W.iret (v := (1 : Int32)) hx hb hr (fun t ht hW => ⟨⟨(1 : Int32), (), rfl, rfl, by rw [ht]; exact hP, va_K.moved hW.alike hK, hD⟩, hS.F ht⟩) hS.2.2 d_Y_compareBig_30
          · replace hF := hif_f c_22 hF
            refine lv_iconst (v := (-1 : Int32)) hx hb d_Y_compareBig_25 (by decide) ?_
            refine lv_goto (tgt := 30) hx hb d_Y_compareBig_26 (by decide) ?_
            obtain rfl := Option.some.inj hF
            exact W.iret (v := (-1 : Int32)) hx hb hr (fun t ht hW => ⟨⟨(-1 : Int32), (), rfl, rfl, by rw [ht]; exact hP, va_K.moved hW.alike hK, hD⟩, hS.F ht⟩) hS.2.2 d_Y_compareBig_30
  unfold f_Y_compareBig at hF
  refine lv_bipush (v := (29 : Int32)) hx hb d_Y_compareBig_0 (by decide) ?_
  refine lv_istore_n (lv' := [(2, .int (29 : Int32)), (0, .ref h_A), (1, .ref h_C)]) hx hb d_Y_compareBig_2 rfl hl (by decide) rfl (fun ls hl => ?_)
  exact b_3 1000 (29 : Int32) A_f C_f _ _ _ hP hD hS (lv_sub hl [1, 2, 0] rfl) hF
set_option maxHeartbeats 4000000 in
set_option maxRecDepth 100000 in
theorem c_Y_takeAway (l : Launch) (dC : Nat → ClassId) (dI : Nat → Nat → Nat) (h_A : Nat) (h_C : Nat) (k_A : ClassId) (k_C : ClassId) (sz : Nat) (A_f : Nat → Int32) (C_f : Nat → Int32) (o : (Nat → Int32)) (hF : f_Y_takeAway A_f C_f = some o) : Met l y_Y_takeAway w_Y_takeAway ({ frames := 0, cells := 0, slots := 0, locals := 0 } : Room) (va_Pc [.ref h_A, .ref h_C] (fun U => U.heap.size = sz ∧ va_P (dC, dI) classes [cI h_A k_A 30 A_f, cI h_C k_C 30 C_f] U.heap ∧ va_K (dC, dI) classes [(k_A, .int), (k_C, .int)] U ∧ va_D (fun _ => True) [cI h_A k_A 30 A_f, cI h_C k_C 30 C_f])) (va_Qv (fun _ : Unit => True) (fun (_ : Unit) (t : State) => va_P (dC, dI) classes [cI h_A k_A 30 o, cI h_C k_C 30 C_f] t.heap ∧ va_K (dC, dI) classes [(k_A, .int), (k_C, .int)] t ∧ va_D (va_A [cI h_A k_A 30 A_f, cI h_C k_C 30 C_f] sz) [cI h_A k_A 30 o, cI h_C k_C 30 C_f]) (va_A [cI h_A k_A 30 A_f, cI h_C k_C 30 C_f] sz)) 0 0 (va_A [cI h_A k_A 30 A_f, cI h_C k_C 30 C_f] sz) := by
  refine Met.ofW (cc := prog_4_method_16_code) (maxL := 5) (ret := none) (by decide) rfl ?_
  intro p e s m args below meth c s₁ B hml hv
  obtain ⟨rfl, hsz, hP, hK, hD0⟩ := hv
  have hx := B.exec
  have hb := B.bytes
  have hr := B.returns
  have hts0 := atoms_spec (ws := w_Y_takeAway) B.pre
  have hts : ∀ w ∈ tb, w.before _ s = true := fun w h => hts0 w (List.mem_cons_of_mem _ h)
  clear hts0
  have hown : s.vm.findClass "RoundedNumbersModel" = some m.cls := findClass_of_methodNamed B.named
  have hlocks := B.notSynchronized
  subst hsz
  have hD := hD0.self (sz := s.heap.size)
  generalize hAe : va_A [cI h_A k_A 30 A_f, cI h_C k_C 30 C_f] s.heap.size = A at hD ⊢
  have hA : ∀ q : Nat, s.heap.size ≤ q → A q := fun q h => by rw [← hAe]; exact Or.inr h
  clear hAe
  have hS : va_S A s.heap s.heap [] := va_S.rf
  have hP : va_P (dC, dI) classes [cI h_A k_A 30 A_f, cI h_C k_C 30 C_f] s.heap := hP
  have hl := lv_entry ([.ref h_A, .ref h_C]) (n := 5) (Nat.le_of_ble_eq_true rfl)
  rw [lg_entry_eq]
  generalize (lg_sl ([.ref h_A, .ref h_C]) ++ List.replicate (5 - (lg_sl ([.ref h_A, .ref h_C])).length) Slot.unset).toArray = ls at hl ⊢
  have hl : lv_has ls 5 [(0, .ref h_A), (1, .ref h_C)] := hl
  have b_31 : ∀ (k_4 : (Int32) → (Int32) → (Nat → Int32) → (Nat → Int32) → Option ((Nat → Int32))), (∀ (x2 : Int32) (x3 : Int32) (A_f : Nat → Int32) (C_f : Nat → Int32) (H : Heap) (locs : List Loc) (ls : Array Slot), va_P (dC, dI) classes [cI h_A k_A 30 A_f, cI h_C k_C 30 C_f] H → va_D A [cI h_A k_A 30 A_f, cI h_C k_C 30 C_f] → va_S A s.heap H locs → lv_has ls 5 [(0, .ref h_A), (1, .ref h_C), (2, .int x2), (3, .int x3)] → k_4 x2 x3 A_f C_f = some o → W p l e (headSpec w_Y_takeAway ({ frames := 0, cells := 0, slots := 0, locals := 0 } : Room)).room s m ([.ref h_A, .ref h_C] : List Value).toArray below meth c H locs 0 0 (MQ below (va_Qv (fun _ : Unit => True) (fun (_ : Unit) (t : State) => va_P (dC, dI) classes [cI h_A k_A 30 o, cI h_C k_C 30 C_f] t.heap ∧ va_K (dC, dI) classes [(k_A, .int), (k_C, .int)] t ∧ va_D A [cI h_A k_A 30 o, cI h_C k_C 30 C_f]) A) ([.ref h_A, .ref h_C] : List Value).toArray s 0 0 A) (F0 m 4 ls [])) → ∀ (x3 : Int32) (x4 : Int32) (y0 : Int32) (A_f : Nat → Int32) (C_f : Nat → Int32) (H : Heap) (locs : List Loc) (ls : Array Slot), va_P (dC, dI) classes [cI h_A k_A 30 A_f, cI h_C k_C 30 C_f] H → va_D A [cI h_A k_A 30 A_f, cI h_C k_C 30 C_f] → va_S A s.heap H locs → lv_has ls 5 [(0, .ref h_A), (1, .ref h_C), (3, .int x3), (4, .int x4)] → f_Y_takeAway_31 k_4 x3 x4 y0 A_f C_f = some o → W p l e (headSpec w_Y_takeAway ({ frames := 0, cells := 0, slots := 0, locals := 0 } : Room)).room s m ([.ref h_A, .ref h_C] : List Value).toArray below meth c H locs 0 0 (MQ below (va_Qv (fun _ : Unit => True) (fun (_ : Unit) (t : State) => va_P (dC, dI) classes [cI h_A k_A 30 o, cI h_C k_C 30 C_f] t.heap ∧ va_K (dC, dI) classes [(k_A, .int), (k_C, .int)] t ∧ va_D A [cI h_A k_A 30 o, cI h_C k_C 30 C_f]) A) ([.ref h_A, .ref h_C] : List Value).toArray s 0 0 A) (F0 m 31 ls [.int y0]) := by
    intro k_4 hk_4 x3 x4 y0 A_f C_f H locs ls hP hD hS hl hF
    unfold f_Y_takeAway_31 at hF
    refine lv_istore_n (lv' := [(2, .int y0), (0, .ref h_A), (1, .ref h_C), (3, .int x3), (4, .int x4)]) hx hb d_Y_takeAway_31 rfl hl (by decide) rfl (fun ls hl => ?_)
    refine lv_aload_n hx hb d_Y_takeAway_32 rfl (lv_at hl 1 rfl) ?_
    refine lv_iload_n hx hb d_Y_takeAway_33 rfl (lv_at hl 3 rfl) ?_
    refine lv_iload hx hb d_Y_takeAway_34 (lv_at hl 4 rfl) ?_
    refine lv_if_ge (tgt := 49) hx hb d_Y_takeAway_36 (by decide) (fun c_36 => ?_) (fun c_36 => ?_)
    · replace hF := hif_t c_36 hF
      refine lv_iload hx hb d_Y_takeAway_49 (lv_at hl 4 rfl) ?_
      have c_51 : ¬ (x3 < 0 ∨ 30 ≤ x3.toNatClampNeg) := hif_n hF
      replace hF := hif_f c_51 hF
      refine va_iast hx hb hK hP hD hS 0 0 rfl rfl c_51 d_Y_takeAway_51 (fun H locs hP hD hS => ?_)
      have hP : va_P (dC, dI) classes [cI h_A k_A 30 (upd A_f x3.toNatClampNeg x4), cI h_C k_C 30 C_f] H := hP
      have hD : va_D A [cI h_A k_A 30 (upd A_f x3.toNatClampNeg x4), cI h_C k_C 30 C_f] := hD
      refine lv_iinc (v := (x3 + (1 : Int32))) (lv' := [(3, .int (x3 + (1 : Int32))), (2, .int y0), (0, .ref h_A), (1, .ref h_C), (4, .int x4)]) hx hb d_Y_takeAway_52 hl (k := 3) rfl rfl (by decide) rfl (fun ls hl => ?_)
      refine lv_goto (tgt := 4) hx hb d_Y_takeAway_55 (by decide) ?_
      exact hk_4 y0 (x3 + (1 : Int32)) (upd A_f x3.toNatClampNeg x4) C_f _ _ _ hP hD hS (lv_sub hl [2, 3, 1, 0] rfl) hF
    · replace hF := hif_f c_36 hF
      refine lv_iload hx hb d_Y_takeAway_39 (lv_at hl 4 rfl) ?_
      refine lv_ldc (v := (268435455 : Int32)) hx hb hown (hts _ tw_413) d_Y_takeAway_41 ?_
      refine lv_iadd hx hb d_Y_takeAway_43 ?_
      refine lv_iconst (v := (1 : Int32)) hx hb d_Y_takeAway_44 (by decide) ?_
      refine lv_iadd hx hb d_Y_takeAway_45 ?_
      refine lv_goto (tgt := 51) hx hb d_Y_takeAway_46 (by decide) ?_
      have c_51 : ¬ (x3 < 0 ∨ 30 ≤ x3.toNatClampNeg) := hif_n hF
      replace hF := hif_f c_51 hF
      refine va_iast hx hb hK hP hD hS 0 0 rfl rfl c_51 d_Y_takeAway_51 (fun H locs hP hD hS => ?_)
      have hP : va_P (dC, dI) classes [cI h_A k_A 30 (upd A_f x3.toNatClampNeg ((x4 + (268435455 : Int32)) + (1 : Int32))), cI h_C k_C 30 C_f] H := hP
      have hD : va_D A [cI h_A k_A 30 (upd A_f x3.toNatClampNeg ((x4 + (268435455 : Int32)) + (1 : Int32))), cI h_C k_C 30 C_f] := hD
      refine lv_iinc (v := (x3 + (1 : Int32))) (lv' := [(3, .int (x3 + (1 : Int32))), (2, .int y0), (0, .ref h_A), (1, .ref h_C), (4, .int x4)]) hx hb d_Y_takeAway_52 hl (k := 3) rfl rfl (by decide) rfl (fun ls hl => ?_)
      refine lv_goto (tgt := 4) hx hb d_Y_takeAway_55 (by decide) ?_
      exact hk_4 y0 (x3 + (1 : Int32)) (upd A_f x3.toNatClampNeg ((x4 + (268435455 : Int32)) + (1 : Int32))) C_f _ _ _ hP hD hS (lv_sub hl [2, 3, 1, 0] rfl) hF
  have b_4 : ∀ n_ : Nat, ∀ (x2 : Int32) (x3 : Int32) (A_f : Nat → Int32) (C_f : Nat → Int32) (H : Heap) (locs : List Loc) (ls : Array Slot), va_P (dC, dI) classes [cI h_A k_A 30 A_f, cI h_C k_C 30 C_f] H → va_D A [cI h_A k_A 30 A_f, cI h_C k_C 30 C_f] → va_S A s.heap H locs → lv_has ls 5 [(0, .ref h_A), (1, .ref h_C), (2, .int x2), (3, .int x3)] → f_Y_takeAway_4 n_ x2 x3 A_f C_f = some o → W p l e (headSpec w_Y_takeAway ({ frames := 0, cells := 0, slots := 0, locals := 0 } : Room)).room s m ([.ref h_A, .ref h_C] : List Value).toArray below meth c H locs 0 0 (MQ below (va_Qv (fun _ : Unit => True) (fun (_ : Unit) (t : State) => va_P (dC, dI) classes [cI h_A k_A 30 o, cI h_C k_C 30 C_f] t.heap ∧ va_K (dC, dI) classes [(k_A, .int), (k_C, .int)] t ∧ va_D A [cI h_A k_A 30 o, cI h_C k_C 30 C_f]) A) ([.ref h_A, .ref h_C] : List Value).toArray s 0 0 A) (F0 m 4 ls []) := by
    intro n_
    induction n_ with
    | zero =>
      intro x2 x3 A_f C_f H locs ls hP hD hS hl hF
      rw [f_Y_takeAway_4] at hF
      exact absurd hF (by simp)
    | succ n_ ih =>
      obtain ⟨k_4, ek_4⟩ : ∃ k, k = f_Y_takeAway_4 n_ := ⟨_, rfl⟩
      rw [← ek_4] at ih
      have hk_4 := ih
      intro x2 x3 A_f C_f H locs ls hP hD hS hl hF
      rw [f_Y_takeAway_4, ← ek_4] at hF
      refine lv_iload_n hx hb d_Y_takeAway_4 rfl (lv_at hl 3 rfl) ?_
      refine lv_bipush (v := (30 : Int32)) hx hb d_Y_takeAway_5 (by decide) ?_
      refine lv_icmp_ge (tgt := 58) hx hb d_Y_takeAway_7 (by decide) (fun c_7 => ?_) (fun c_7 => ?_)
      · replace hF := hif_t c_7 hF
        obtain rfl := Option.some.inj hF
        exact W.vret hx hb hr (fun t ht hW => ⟨⟨(), rfl, trivial, by rw [ht]; exact hP, va_K.moved hW.alike hK, hD⟩, hS.F ht⟩) hS.2.2 d_Y_takeAway_58
      · replace hF := hif_f c_7 hF
        refine lv_aload_n hx hb d_Y_takeAway_10 rfl (lv_at hl 0 rfl) ?_
        refine lv_iload_n hx hb d_Y_takeAway_11 rfl (lv_at hl 3 rfl) ?_
        have c_12 : ¬ (x3 < 0 ∨ 30 ≤ x3.toNatClampNeg) := hif_n hF
        replace hF := hif_f c_12 hF
        refine va_iald hx hb hK hP 0 0 rfl rfl c_12 d_Y_takeAway_12 ?_
        refine lv_aload_n hx hb d_Y_takeAway_13 rfl (lv_at hl 1 rfl) ?_
        refine lv_iload_n hx hb d_Y_takeAway_14 rfl (lv_at hl 3 rfl) ?_
        have c_15 : ¬ (x3 < 0 ∨ 30 ≤ x3.toNatClampNeg) := hif_n hF
        replace hF := hif_f c_15 hF
        refine va_iald hx hb hK hP 1 1 rfl rfl c_15 d_Y_takeAway_15 ?_
        refine lv_isub hx hb d_Y_takeAway_16 ?_
        refine lv_iload_n hx hb d_Y_takeAway_17 rfl (lv_at hl 2 rfl) ?_
        refine lv_isub hx hb d_Y_takeAway_18 ?_
        refine lv_istore (lv' := [(4, .int (((A_f x3.toNatClampNeg) - (C_f x3.toNatClampNeg)) - x2)), (0, .ref h_A), (1, .ref h_C), (2, .int x2), (3, .int x3)]) hx hb d_Y_takeAway_19 hl (by decide) rfl (fun ls hl => ?_)
        refine lv_iload hx hb d_Y_takeAway_21 (lv_at hl 0 rfl) ?_
        refine lv_if_ge (tgt := 30) hx hb d_Y_takeAway_23 (by decide) (fun c_23 => ?_) (fun c_23 => ?_)
        · replace hF := hif_t c_23 hF
          refine lv_iconst (v := (0 : Int32)) hx hb d_Y_takeAway_30 (by decide) ?_
          exact b_31 k_4 hk_4 x3 (((A_f x3.toNatClampNeg) - (C_f x3.toNatClampNeg)) - x2) (0 : Int32) A_f C_f _ _ _ hP hD hS (lv_sub hl [1, 2, 4, 0] rfl) hF
        · replace hF := hif_f c_23 hF
          refine lv_iconst (v := (1 : Int32)) hx hb d_Y_takeAway_26 (by decide) ?_
          refine lv_goto (tgt := 31) hx hb d_Y_takeAway_27 (by decide) ?_
          exact b_31 k_4 hk_4 x3 (((A_f x3.toNatClampNeg) - (C_f x3.toNatClampNeg)) - x2) (1 : Int32) A_f C_f _ _ _ hP hD hS (lv_sub hl [1, 2, 4, 0] rfl) hF
  unfold f_Y_takeAway at hF
  refine lv_iconst (v := (0 : Int32)) hx hb d_Y_takeAway_0 (by decide) ?_
  refine lv_istore_n (lv' := [(2, .int (0 : Int32)), (0, .ref h_A), (1, .ref h_C)]) hx hb d_Y_takeAway_1 rfl hl (by decide) rfl (fun ls hl => ?_)
  refine lv_iconst (v := (0 : Int32)) hx hb d_Y_takeAway_2 (by decide) ?_
  refine lv_istore_n (lv' := [(3, .int (0 : Int32)), (2, .int (0 : Int32)), (0, .ref h_A), (1, .ref h_C)]) hx hb d_Y_takeAway_3 rfl hl (by decide) rfl (fun ls hl => ?_)
  exact b_4 1000 (0 : Int32) (0 : Int32) A_f C_f _ _ _ hP hD hS (lv_sub hl [2, 3, 1, 0] rfl) hF
set_option maxHeartbeats 4000000 in
set_option maxRecDepth 100000 in
theorem c_Y_takeTop (l : Launch) (dC : Nat → ClassId) (dI : Nat → Nat → Nat) (h_Y : Nat) (h_O : Nat) (h_N : Nat) (h_B : Nat) (h_G : Nat) (h_K : Nat) (h_A : Nat) (k_A : ClassId) (sz : Nat) (Y_lo : Int32) (Y_ie : Int32) (Y_ra : Int32) (Y_to : Int64) (Y_te : Int32) (Y_re : Int32) (A_f : Nat → Int32) (a2 : Int32) (o : Int64 × Int32 × Int32) (hF : f_Y_takeTop Y_to Y_te Y_re A_f a2 = some o) : Met l y_Y_takeTop w_Y_takeTop ({ frames := 0, cells := 0, slots := 0, locals := 0 } : Room) (va_Pc [.ref h_Y, .ref h_A, .int a2] (fun U => U.heap.size = sz ∧ va_P (dC, dI) classes [cY h_Y h_O h_N h_B h_G h_K Y_lo Y_ie Y_ra Y_to Y_te Y_re, cI h_A k_A 30 A_f] U.heap ∧ va_K (dC, dI) classes [(k_A, .int)] U ∧ va_D (fun _ => True) [cY h_Y h_O h_N h_B h_G h_K Y_lo Y_ie Y_ra Y_to Y_te Y_re, cI h_A k_A 30 A_f])) (va_Qv (fun _ : Unit => True) (fun (_ : Unit) (t : State) => va_P (dC, dI) classes [cY h_Y h_O h_N h_B h_G h_K Y_lo Y_ie Y_ra o.1 o.2.1 o.2.2, cI h_A k_A 30 A_f] t.heap ∧ va_K (dC, dI) classes [(k_A, .int)] t ∧ va_D (va_A [cY h_Y h_O h_N h_B h_G h_K Y_lo Y_ie Y_ra Y_to Y_te Y_re, cI h_A k_A 30 A_f] sz) [cY h_Y h_O h_N h_B h_G h_K Y_lo Y_ie Y_ra o.1 o.2.1 o.2.2, cI h_A k_A 30 A_f]) (va_A [cY h_Y h_O h_N h_B h_G h_K Y_lo Y_ie Y_ra Y_to Y_te Y_re, cI h_A k_A 30 A_f] sz)) 0 0 (va_A [cY h_Y h_O h_N h_B h_G h_K Y_lo Y_ie Y_ra Y_to Y_te Y_re, cI h_A k_A 30 A_f] sz) := by
  refine Met.ofW (cc := prog_4_method_17_code) (maxL := 6) (ret := none) (by decide) rfl ?_
  intro p e s m args below meth c s₁ B hml hv
  obtain ⟨rfl, hsz, hP, hK, hD0⟩ := hv
  have hx := B.exec
  have hb := B.bytes
  have hr := B.returns
  have hts0 := atoms_spec (ws := w_Y_takeTop) B.pre
  have hts : ∀ w ∈ tb, w.before _ s = true := fun w h => hts0 w (List.mem_cons_of_mem _ h)
  clear hts0
  have hown : s.vm.findClass "RoundedNumbersModel" = some m.cls := findClass_of_methodNamed B.named
  have hlocks := B.notSynchronized
  subst hsz
  have hD := hD0.self (sz := s.heap.size)
  generalize hAe : va_A [cY h_Y h_O h_N h_B h_G h_K Y_lo Y_ie Y_ra Y_to Y_te Y_re, cI h_A k_A 30 A_f] s.heap.size = A at hD ⊢
  have hA : ∀ q : Nat, s.heap.size ≤ q → A q := fun q h => by rw [← hAe]; exact Or.inr h
  clear hAe
  have hS : va_S A s.heap s.heap [] := va_S.rf
  have hP : va_P (dC, dI) classes [cY h_Y h_O h_N h_B h_G h_K Y_lo Y_ie Y_ra Y_to Y_te Y_re, cI h_A k_A 30 A_f] s.heap := hP
  have hl := lv_entry ([.ref h_Y, .ref h_A, .int a2]) (n := 6) (Nat.le_of_ble_eq_true rfl)
  rw [lg_entry_eq]
  generalize (lg_sl ([.ref h_Y, .ref h_A, .int a2]) ++ List.replicate (6 - (lg_sl ([.ref h_Y, .ref h_A, .int a2])).length) Slot.unset).toArray = ls at hl ⊢
  have hl : lv_has ls 6 [(0, .ref h_Y), (1, .ref h_A), (2, .int a2)] := hl
  have b_56 : ∀ (k_22 : (Int32) → (Int32) → (Int32) → (Int64) → (Int32) → (Int32) → (Nat → Int32) → Option (Int64 × Int32 × Int32)), (∀ (x2 : Int32) (x3 : Int32) (x4 : Int32) (Y_to : Int64) (Y_te : Int32) (Y_re : Int32) (A_f : Nat → Int32) (Y_lo : Int32) (Y_ie : Int32) (Y_ra : Int32) (H : Heap) (locs : List Loc) (ls : Array Slot), va_P (dC, dI) classes [cY h_Y h_O h_N h_B h_G h_K Y_lo Y_ie Y_ra Y_to Y_te Y_re, cI h_A k_A 30 A_f] H → va_D A [cY h_Y h_O h_N h_B h_G h_K Y_lo Y_ie Y_ra Y_to Y_te Y_re, cI h_A k_A 30 A_f] → va_S A s.heap H locs → lv_has ls 6 [(0, .ref h_Y), (1, .ref h_A), (2, .int x2), (3, .int x3), (4, .int x4)] → k_22 x2 x3 x4 Y_to Y_te Y_re A_f = some o → W p l e (headSpec w_Y_takeTop ({ frames := 0, cells := 0, slots := 0, locals := 0 } : Room)).room s m ([.ref h_Y, .ref h_A, .int a2] : List Value).toArray below meth c H locs 0 0 (MQ below (va_Qv (fun _ : Unit => True) (fun (_ : Unit) (t : State) => va_P (dC, dI) classes [cY h_Y h_O h_N h_B h_G h_K Y_lo Y_ie Y_ra o.1 o.2.1 o.2.2, cI h_A k_A 30 A_f] t.heap ∧ va_K (dC, dI) classes [(k_A, .int)] t ∧ va_D A [cY h_Y h_O h_N h_B h_G h_K Y_lo Y_ie Y_ra o.1 o.2.1 o.2.2, cI h_A k_A 30 A_f]) A) ([.ref h_Y, .ref h_A, .int a2] : List Value).toArray s 0 0 A) (F0 m 22 ls [])) → ∀ (x2 : Int32) (x3 : Int32) (x4 : Int32) (x5 : Int32) (Y_to : Int64) (Y_te : Int32) (Y_re : Int32) (A_f : Nat → Int32) (Y_lo : Int32) (Y_ie : Int32) (Y_ra : Int32) (H : Heap) (locs : List Loc) (ls : Array Slot), va_P (dC, dI) classes [cY h_Y h_O h_N h_B h_G h_K Y_lo Y_ie Y_ra Y_to Y_te Y_re, cI h_A k_A 30 A_f] H → va_D A [cY h_Y h_O h_N h_B h_G h_K Y_lo Y_ie Y_ra Y_to Y_te Y_re, cI h_A k_A 30 A_f] → va_S A s.heap H locs → lv_has ls 6 [(0, .ref h_Y), (1, .ref h_A), (2, .int x2), (3, .int x3), (4, .int x4), (5, .int x5)] → f_Y_takeTop_56 k_22 x2 x3 x4 x5 Y_to Y_te Y_re A_f = some o → W p l e (headSpec w_Y_takeTop ({ frames := 0, cells := 0, slots := 0, locals := 0 } : Room)).room s m ([.ref h_Y, .ref h_A, .int a2] : List Value).toArray below meth c H locs 0 0 (MQ below (va_Qv (fun _ : Unit => True) (fun (_ : Unit) (t : State) => va_P (dC, dI) classes [cY h_Y h_O h_N h_B h_G h_K Y_lo Y_ie Y_ra o.1 o.2.1 o.2.2, cI h_A k_A 30 A_f] t.heap ∧ va_K (dC, dI) classes [(k_A, .int)] t ∧ va_D A [cY h_Y h_O h_N h_B h_G h_K Y_lo Y_ie Y_ra o.1 o.2.1 o.2.2, cI h_A k_A 30 A_f]) A) ([.ref h_Y, .ref h_A, .int a2] : List Value).toArray s 0 0 A) (F0 m 56 ls []) := by
    intro k_22 hk_22 x2 x3 x4 x5 Y_to Y_te Y_re A_f Y_lo Y_ie Y_ra H locs ls hP hD hS hl hF
    unfold f_Y_takeTop_56 at hF
    refine lv_iload_n hx hb d_Y_takeTop_56 rfl (lv_at hl 3 rfl) ?_
    refine lv_bipush (v := (60 : Int32)) hx hb d_Y_takeTop_57 (by decide) ?_
    refine lv_icmp_ge (tgt := 92) hx hb d_Y_takeTop_59 (by decide) (fun c_59 => ?_) (fun c_59 => ?_)
    · replace hF := hif_t c_59 hF
      refine lv_iload hx hb d_Y_takeTop_92 (lv_at hl 5 rfl) ?_
      refine lv_iconst (v := (1 : Int32)) hx hb d_Y_takeTop_94 (by decide) ?_
      refine lv_icmp_ne (tgt := 103) hx hb d_Y_takeTop_95 (by decide) (fun c_95 => ?_) (fun c_95 => ?_)
      · replace hF := hif_f c_95 hF
        refine lv_iinc (v := (x4 + (-1 : Int32))) (lv' := [(4, .int (x4 + (-1 : Int32))), (0, .ref h_Y), (1, .ref h_A), (2, .int x2), (3, .int x3), (5, .int x5)]) hx hb d_Y_takeTop_103 hl (k := 4) rfl rfl (by decide) rfl (fun ls hl => ?_)
        refine lv_goto (tgt := 22) hx hb d_Y_takeTop_106 (by decide) ?_
        exact hk_22 x2 x3 (x4 + (-1 : Int32)) Y_to Y_te Y_re A_f Y_lo Y_ie Y_ra _ _ _ hP hD hS (lv_sub hl [1, 2, 3, 4, 0] rfl) hF
      · replace hF := hif_t c_95 hF
        refine lv_aload_n hx hb d_Y_takeTop_98 rfl (lv_at hl 0 rfl) ?_
        refine lv_iconst (v := (1 : Int32)) hx hb d_Y_takeTop_99 (by decide) ?_
        refine va_put (D := (dC, dI)) (ci := 2) (v := .int (1 : Int32)) (ty := .boolean) (C := "RoundedNumbersModel") (T := F_Y) (N := 11) hx hb hts in_Y t_Y t_Y_ok n_Y hown hK hP hD hS 0 rfl rfl 10 (by decide) (hts _ tw_324) (fun _ h9 => h9) rfl (by decide +kernel) rfl rfl (Nat.le_of_ble_eq_true rfl) d_Y_takeTop_100 (fun H locs hP hD hS => ?_)
        have hP : va_P (dC, dI) classes [cY h_Y h_O h_N h_B h_G h_K Y_lo Y_ie Y_ra Y_to Y_te (1 : Int32), cI h_A k_A 30 A_f] H := hP
        have hD : va_D A [cY h_Y h_O h_N h_B h_G h_K Y_lo Y_ie Y_ra Y_to Y_te (1 : Int32), cI h_A k_A 30 A_f] := hD
        refine lv_iinc (v := (x4 + (-1 : Int32))) (lv' := [(4, .int (x4 + (-1 : Int32))), (0, .ref h_Y), (1, .ref h_A), (2, .int x2), (3, .int x3), (5, .int x5)]) hx hb d_Y_takeTop_103 hl (k := 4) rfl rfl (by decide) rfl (fun ls hl => ?_)
        refine lv_goto (tgt := 22) hx hb d_Y_takeTop_106 (by decide) ?_
        exact hk_22 x2 x3 (x4 + (-1 : Int32)) Y_to Y_te (1 : Int32) A_f Y_lo Y_ie Y_ra _ _ _ hP hD hS (lv_sub hl [1, 2, 3, 4, 0] rfl) hF
    · replace hF := hif_f c_59 hF
      refine lv_aload_n hx hb d_Y_takeTop_62 rfl (lv_at hl 0 rfl) ?_
      refine lv_ldc2 (v := (2 : Int64)) hx hb hown (hts _ tw_372) d_Y_takeTop_63 ?_
      refine lv_aload_n hx hb d_Y_takeTop_66 rfl (lv_at hl 0 rfl) ?_
      refine va_get (D := (dC, dI)) (ci := 2) (v := .long Y_to) (C := "RoundedNumbersModel") (T := F_Y) (N := 11) hx hb hts in_Y hown hK hP 0 rfl rfl 8 (by decide) (hts _ tw_322) (fun _ h9 => h9) rfl d_Y_takeTop_67 ?_
      refine lv_lmul hx hb d_Y_takeTop_70 ?_
      refine lv_iload hx hb d_Y_takeTop_71 (lv_at hl 5 rfl) ?_
      refine lv_i2l (v := x5.toInt64) hx hb d_Y_takeTop_73 rfl ?_
      refine lv_ladd hx hb d_Y_takeTop_74 ?_
      refine va_put (D := (dC, dI)) (ci := 2) (v := .long (((2 : Int64) * Y_to) + x5.toInt64)) (ty := .long) (C := "RoundedNumbersModel") (T := F_Y) (N := 11) hx hb hts in_Y t_Y t_Y_ok n_Y hown hK hP hD hS 0 rfl rfl 8 (by decide) (hts _ tw_322) (fun _ h9 => h9) rfl (by decide +kernel) rfl rfl (Nat.le_of_ble_eq_true rfl) d_Y_takeTop_75 (fun H locs hP hD hS => ?_)
      have hP : va_P (dC, dI) classes [cY h_Y h_O h_N h_B h_G h_K Y_lo Y_ie Y_ra (((2 : Int64) * Y_to) + x5.toInt64) Y_te Y_re, cI h_A k_A 30 A_f] H := hP
      have hD : va_D A [cY h_Y h_O h_N h_B h_G h_K Y_lo Y_ie Y_ra (((2 : Int64) * Y_to) + x5.toInt64) Y_te Y_re, cI h_A k_A 30 A_f] := hD
      refine lv_iinc (v := (x3 + (1 : Int32))) (lv' := [(3, .int (x3 + (1 : Int32))), (0, .ref h_Y), (1, .ref h_A), (2, .int x2), (4, .int x4), (5, .int x5)]) hx hb d_Y_takeTop_78 hl (k := 3) rfl rfl (by decide) rfl (fun ls hl => ?_)
      refine lv_aload_n hx hb d_Y_takeTop_81 rfl (lv_at hl 1 rfl) ?_
      refine lv_iload_n hx hb d_Y_takeTop_82 rfl (lv_at hl 3 rfl) ?_
      refine lv_iload hx hb d_Y_takeTop_83 (lv_at hl 4 rfl) ?_
      refine lv_iadd hx hb d_Y_takeTop_85 ?_
      refine va_put (D := (dC, dI)) (ci := 2) (v := .int (x2 + x4)) (ty := .int) (C := "RoundedNumbersModel") (T := F_Y) (N := 11) hx hb hts in_Y t_Y t_Y_ok n_Y hown hK hP hD hS 0 rfl rfl 9 (by decide) (hts _ tw_323) (fun _ h9 => h9) rfl (by decide +kernel) rfl rfl (Nat.le_of_ble_eq_true rfl) d_Y_takeTop_86 (fun H locs hP hD hS => ?_)
      have hP : va_P (dC, dI) classes [cY h_Y h_O h_N h_B h_G h_K Y_lo Y_ie Y_ra (((2 : Int64) * Y_to) + x5.toInt64) (x2 + x4) Y_re, cI h_A k_A 30 A_f] H := hP
      have hD : va_D A [cY h_Y h_O h_N h_B h_G h_K Y_lo Y_ie Y_ra (((2 : Int64) * Y_to) + x5.toInt64) (x2 + x4) Y_re, cI h_A k_A 30 A_f] := hD
      refine lv_goto (tgt := 103) hx hb d_Y_takeTop_89 (by decide) ?_
      refine lv_iinc (v := (x4 + (-1 : Int32))) (lv' := [(4, .int (x4 + (-1 : Int32))), (3, .int (x3 + (1 : Int32))), (0, .ref h_Y), (1, .ref h_A), (2, .int x2), (5, .int x5)]) hx hb d_Y_takeTop_103 hl (k := 4) rfl rfl (by decide) rfl (fun ls hl => ?_)
      refine lv_goto (tgt := 22) hx hb d_Y_takeTop_106 (by decide) ?_
      exact hk_22 x2 (x3 + (1 : Int32)) (x4 + (-1 : Int32)) (((2 : Int64) * Y_to) + x5.toInt64) (x2 + x4) Y_re A_f Y_lo Y_ie Y_ra _ _ _ hP hD hS (lv_sub hl [2, 3, 4, 1, 0] rfl) hF
  have b_22 : ∀ n_ : Nat, ∀ (x2 : Int32) (x3 : Int32) (x4 : Int32) (Y_to : Int64) (Y_te : Int32) (Y_re : Int32) (A_f : Nat → Int32) (Y_lo : Int32) (Y_ie : Int32) (Y_ra : Int32) (H : Heap) (locs : List Loc) (ls : Array Slot), va_P (dC, dI) classes [cY h_Y h_O h_N h_B h_G h_K Y_lo Y_ie Y_ra Y_to Y_te Y_re, cI h_A k_A 30 A_f] H → va_D A [cY h_Y h_O h_N h_B h_G h_K Y_lo Y_ie Y_ra Y_to Y_te Y_re, cI h_A k_A 30 A_f] → va_S A s.heap H locs → lv_has ls 6 [(0, .ref h_Y), (1, .ref h_A), (2, .int x2), (3, .int x3), (4, .int x4)] → f_Y_takeTop_22 n_ x2 x3 x4 Y_to Y_te Y_re A_f = some o → W p l e (headSpec w_Y_takeTop ({ frames := 0, cells := 0, slots := 0, locals := 0 } : Room)).room s m ([.ref h_Y, .ref h_A, .int a2] : List Value).toArray below meth c H locs 0 0 (MQ below (va_Qv (fun _ : Unit => True) (fun (_ : Unit) (t : State) => va_P (dC, dI) classes [cY h_Y h_O h_N h_B h_G h_K Y_lo Y_ie Y_ra o.1 o.2.1 o.2.2, cI h_A k_A 30 A_f] t.heap ∧ va_K (dC, dI) classes [(k_A, .int)] t ∧ va_D A [cY h_Y h_O h_N h_B h_G h_K Y_lo Y_ie Y_ra o.1 o.2.1 o.2.2, cI h_A k_A 30 A_f]) A) ([.ref h_Y, .ref h_A, .int a2] : List Value).toArray s 0 0 A) (F0 m 22 ls []) := by
    intro n_
    induction n_ with
    | zero =>
      intro x2 x3 x4 Y_to Y_te Y_re A_f Y_lo Y_ie Y_ra H locs ls hP hD hS hl hF
      rw [f_Y_takeTop_22] at hF
      exact absurd hF (by simp)
    | succ n_ ih =>
      obtain ⟨k_22, ek_22⟩ : ∃ k, k = f_Y_takeTop_22 n_ := ⟨_, rfl⟩
      rw [← ek_22] at ih
      have hk_22 := ih
      intro x2 x3 x4 Y_to Y_te Y_re A_f Y_lo Y_ie Y_ra H locs ls hP hD hS hl hF
      rw [f_Y_takeTop_22, ← ek_22] at hF
      refine lv_iload hx hb d_Y_takeTop_22 (lv_at hl 4 rfl) ?_
      refine lv_if_lt (tgt := 109) hx hb d_Y_takeTop_24 (by decide) (fun c_24 => ?_) (fun c_24 => ?_)
      · replace hF := hif_t c_24 hF
        obtain rfl := Option.some.inj hF
        exact W.vret hx hb hr (fun t ht hW => ⟨⟨(), rfl, trivial, by rw [ht]; exact hP, va_K.moved hW.alike hK, hD⟩, hS.F ht⟩) hS.2.2 d_Y_takeTop_109
      · replace hF := hif_f c_24 hF
        refine lv_aload_n hx hb d_Y_takeTop_27 rfl (lv_at hl 1 rfl) ?_
        refine lv_iload hx hb d_Y_takeTop_28 (lv_at hl 4 rfl) ?_
        refine lv_bipush (v := (28 : Int32)) hx hb d_Y_takeTop_30 (by decide) ?_
        refine lv_idiv hx hb d_Y_takeTop_32 (by decide) ?_
        have c_33 : ¬ ((x4 / (28 : Int32)) < 0 ∨ 30 ≤ (x4 / (28 : Int32)).toNatClampNeg) := hif_n hF
        replace hF := hif_f c_33 hF
        refine va_iald hx hb hK hP 1 0 rfl rfl c_33 d_Y_takeTop_33 ?_
        refine lv_iload hx hb d_Y_takeTop_34 (lv_at hl 4 rfl) ?_
        refine lv_bipush (v := (28 : Int32)) hx hb d_Y_takeTop_36 (by decide) ?_
        refine lv_irem hx hb d_Y_takeTop_38 (by decide) ?_
        refine lv_ishr hx hb d_Y_takeTop_39 ?_
        refine lv_iconst (v := (1 : Int32)) hx hb d_Y_takeTop_40 (by decide) ?_
        refine lv_iand hx hb d_Y_takeTop_41 ?_
        refine lv_istore (lv' := [(5, .int (((A_f (x4 / (28 : Int32)).toNatClampNeg) >>> ((x4 - x4 / (28 : Int32) * (28 : Int32)) &&& 31)) &&& (1 : Int32))), (0, .ref h_Y), (1, .ref h_A), (2, .int x2), (3, .int x3), (4, .int x4)]) hx hb d_Y_takeTop_42 hl (by decide) rfl (fun ls hl => ?_)
        refine lv_iload_n hx hb d_Y_takeTop_44 rfl (lv_at hl 4 rfl) ?_
        refine lv_if_ne (tgt := 56) hx hb d_Y_takeTop_45 (by decide) (fun c_45 => ?_) (fun c_45 => ?_)
        · replace hF := hif_f c_45 hF
          exact b_56 k_22 hk_22 x2 x3 x4 (((A_f (x4 / (28 : Int32)).toNatClampNeg) >>> ((x4 - x4 / (28 : Int32) * (28 : Int32)) &&& 31)) &&& (1 : Int32)) Y_to Y_te Y_re A_f Y_lo Y_ie Y_ra _ _ _ hP hD hS (lv_sub hl [1, 2, 3, 4, 5, 0] rfl) hF
        · replace hF := hif_t c_45 hF
          refine lv_iload hx hb d_Y_takeTop_48 (lv_at hl 0 rfl) ?_
          refine lv_if_ne (tgt := 56) hx hb d_Y_takeTop_50 (by decide) (fun c_50 => ?_) (fun c_50 => ?_)
          · replace hF := hif_f c_50 hF
            exact b_56 k_22 hk_22 x2 x3 x4 (((A_f (x4 / (28 : Int32)).toNatClampNeg) >>> ((x4 - x4 / (28 : Int32) * (28 : Int32)) &&& 31)) &&& (1 : Int32)) Y_to Y_te Y_re A_f Y_lo Y_ie Y_ra _ _ _ hP hD hS (lv_sub hl [1, 2, 3, 4, 5, 0] rfl) hF
          · replace hF := hif_t c_50 hF
            refine lv_goto (tgt := 103) hx hb d_Y_takeTop_53 (by decide) ?_
            refine lv_iinc (v := (x4 + (-1 : Int32))) (lv' := [(4, .int (x4 + (-1 : Int32))), (5, .int (((A_f (x4 / (28 : Int32)).toNatClampNeg) >>> ((x4 - x4 / (28 : Int32) * (28 : Int32)) &&& 31)) &&& (1 : Int32))), (0, .ref h_Y), (1, .ref h_A), (2, .int x2), (3, .int x3)]) hx hb d_Y_takeTop_103 hl (k := 5) rfl rfl (by decide) rfl (fun ls hl => ?_)
            refine lv_goto (tgt := 22) hx hb d_Y_takeTop_106 (by decide) ?_
            exact hk_22 x2 x3 (x4 + (-1 : Int32)) Y_to Y_te Y_re A_f Y_lo Y_ie Y_ra _ _ _ hP hD hS (lv_sub hl [2, 3, 4, 5, 0] rfl) hF
  unfold f_Y_takeTop at hF
  refine lv_aload_n hx hb d_Y_takeTop_0 rfl (lv_at hl 0 rfl) ?_
  refine lv_lconst (v := (0 : Int64)) hx hb d_Y_takeTop_1 (by decide) ?_
  refine va_put (D := (dC, dI)) (ci := 2) (v := .long (0 : Int64)) (ty := .long) (C := "RoundedNumbersModel") (T := F_Y) (N := 11) hx hb hts in_Y t_Y t_Y_ok n_Y hown hK hP hD hS 0 rfl rfl 8 (by decide) (hts _ tw_322) (fun _ h9 => h9) rfl (by decide +kernel) rfl rfl (Nat.le_of_ble_eq_true rfl) d_Y_takeTop_2 (fun H locs hP hD hS => ?_)
  have hP : va_P (dC, dI) classes [cY h_Y h_O h_N h_B h_G h_K Y_lo Y_ie Y_ra (0 : Int64) Y_te Y_re, cI h_A k_A 30 A_f] H := hP
  have hD : va_D A [cY h_Y h_O h_N h_B h_G h_K Y_lo Y_ie Y_ra (0 : Int64) Y_te Y_re, cI h_A k_A 30 A_f] := hD
  refine lv_aload_n hx hb d_Y_takeTop_5 rfl (lv_at hl 0 rfl) ?_
  refine lv_iconst (v := (0 : Int32)) hx hb d_Y_takeTop_6 (by decide) ?_
  refine va_put (D := (dC, dI)) (ci := 2) (v := .int (0 : Int32)) (ty := .boolean) (C := "RoundedNumbersModel") (T := F_Y) (N := 11) hx hb hts in_Y t_Y t_Y_ok n_Y hown hK hP hD hS 0 rfl rfl 10 (by decide) (hts _ tw_324) (fun _ h9 => h9) rfl (by decide +kernel) rfl rfl (Nat.le_of_ble_eq_true rfl) d_Y_takeTop_7 (fun H locs hP hD hS => ?_)
  have hP : va_P (dC, dI) classes [cY h_Y h_O h_N h_B h_G h_K Y_lo Y_ie Y_ra (0 : Int64) Y_te (0 : Int32), cI h_A k_A 30 A_f] H := hP
  have hD : va_D A [cY h_Y h_O h_N h_B h_G h_K Y_lo Y_ie Y_ra (0 : Int64) Y_te (0 : Int32), cI h_A k_A 30 A_f] := hD
  refine lv_aload_n hx hb d_Y_takeTop_10 rfl (lv_at hl 0 rfl) ?_
  refine lv_iload_n hx hb d_Y_takeTop_11 rfl (lv_at hl 2 rfl) ?_
  refine va_put (D := (dC, dI)) (ci := 2) (v := .int a2) (ty := .int) (C := "RoundedNumbersModel") (T := F_Y) (N := 11) hx hb hts in_Y t_Y t_Y_ok n_Y hown hK hP hD hS 0 rfl rfl 9 (by decide) (hts _ tw_323) (fun _ h9 => h9) rfl (by decide +kernel) rfl rfl (Nat.le_of_ble_eq_true rfl) d_Y_takeTop_12 (fun H locs hP hD hS => ?_)
  have hP : va_P (dC, dI) classes [cY h_Y h_O h_N h_B h_G h_K Y_lo Y_ie Y_ra (0 : Int64) a2 (0 : Int32), cI h_A k_A 30 A_f] H := hP
  have hD : va_D A [cY h_Y h_O h_N h_B h_G h_K Y_lo Y_ie Y_ra (0 : Int64) a2 (0 : Int32), cI h_A k_A 30 A_f] := hD
  refine lv_iconst (v := (0 : Int32)) hx hb d_Y_takeTop_15 (by decide) ?_
  refine lv_istore_n (lv' := [(3, .int (0 : Int32)), (0, .ref h_Y), (1, .ref h_A), (2, .int a2)]) hx hb d_Y_takeTop_16 rfl hl (by decide) rfl (fun ls hl => ?_)
  refine lv_sipush (v := (839 : Int32)) hx hb d_Y_takeTop_17 (by decide) ?_
  refine lv_istore (lv' := [(4, .int (839 : Int32)), (3, .int (0 : Int32)), (0, .ref h_Y), (1, .ref h_A), (2, .int a2)]) hx hb d_Y_takeTop_20 hl (by decide) rfl (fun ls hl => ?_)
  exact b_22 1000 a2 (0 : Int32) (839 : Int32) (0 : Int64) a2 (0 : Int32) A_f Y_lo Y_ie Y_ra _ _ _ hP hD hS (lv_sub hl [2, 3, 4, 1, 0] rfl) hF
