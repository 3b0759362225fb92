set_option maxHeartbeats 4000000 in
set_option maxRecDepth 100000 in
theorem c_Y_sum (l : Launch) (dC : Nat → ClassId) (dI : Nat → Nat → Nat) (h_Y : Nat) (h_O : Nat) (h_N : Nat) (h_B : Nat) (h_G : Nat) (h_K : Nat) (k_O : ClassId) (k_N : ClassId) (k_B : ClassId) (k_G : ClassId) (k_K : ClassId) (sz : Nat) (Y_lo : Int32) (Y_ie : Int32) (Y_ra : Int32) (Y_to : Int64) (Y_te : Int32) (Y_re : Int32) (O_f : Nat → Int64) (N_f : Nat → Int32) (B_f : Nat → Int32) (G_f : Nat → Int32) (K_f : Nat → Int32) (a1 : Int32) (a2 : Int32) (a3 : Int32) (a4 : Int32) (o : Int32 × Int32 × Int32 × Int32 × Int64 × Int32 × Int32 × (Nat → Int64) × (Nat → Int32) × (Nat → Int32) × (Nat → Int32) × (Nat → Int32)) (hF : f_Y_sum Y_lo Y_ie Y_ra Y_to Y_te Y_re O_f N_f B_f G_f K_f a1 a2 a3 a4 = some o) : Met l y_Y_sum w_Y_sum ({ frames := 4, cells := 0, slots := 0, locals := 104 } : Room) (va_Pc [.ref h_Y, .int a1, .int a2, .int a3, .int a4] (fun U => U.heap.size = sz ∧ va_P (dC, dI) classes [cY h_Y h_O h_N h_B h_G h_K Y_lo Y_ie Y_ra Y_to Y_te Y_re, cL h_O k_O 8 O_f, cI h_N k_N 8 N_f, cI h_B k_B 8 B_f, cI h_G k_G 30 G_f, cI h_K k_K 30 K_f] U.heap ∧ va_K (dC, dI) classes [(k_O, .long), (k_N, .int), (k_B, .boolean), (k_G, .int), (k_K, .int)] U ∧ va_D (fun _ => True) [cY h_Y h_O h_N h_B h_G h_K Y_lo Y_ie Y_ra Y_to Y_te Y_re, cL h_O k_O 8 O_f, cI h_N k_N 8 N_f, cI h_B k_B 8 B_f, cI h_G k_G 30 G_f, cI h_K k_K 30 K_f])) (va_Qi (fun (r : Int32) (_ : Unit) => r = o.1) (fun (_ : Unit) (t : State) => va_P (dC, dI) classes [cY h_Y h_O h_N h_B h_G h_K o.2.1 o.2.2.1 o.2.2.2.1 o.2.2.2.2.1 o.2.2.2.2.2.1 o.2.2.2.2.2.2.1, cL h_O k_O 8 o.2.2.2.2.2.2.2.1, cI h_N k_N 8 o.2.2.2.2.2.2.2.2.1, cI h_B k_B 8 o.2.2.2.2.2.2.2.2.2.1, cI h_G k_G 30 o.2.2.2.2.2.2.2.2.2.2.1, cI h_K k_K 30 o.2.2.2.2.2.2.2.2.2.2.2] t.heap ∧ va_K (dC, dI) classes [(k_O, .long), (k_N, .int), (k_B, .boolean), (k_G, .int), (k_K, .int)] t ∧ va_D (va_A [cY h_Y h_O h_N h_B h_G h_K Y_lo Y_ie Y_ra Y_to Y_te Y_re, cL h_O k_O 8 O_f, cI h_N k_N 8 N_f, cI h_B k_B 8 B_f, cI h_G k_G 30 G_f, cI h_K k_K 30 K_f] sz) [cY h_Y h_O h_N h_B h_G h_K o.2.1 o.2.2.1 o.2.2.2.1 o.2.2.2.2.1 o.2.2.2.2.2.1 o.2.2.2.2.2.2.1, cL h_O k_O 8 o.2.2.2.2.2.2.2.1, cI h_N k_N 8 o.2.2.2.2.2.2.2.2.1, cI h_B k_B 8 o.2.2.2.2.2.2.2.2.2.1, cI h_G k_G 30 o.2.2.2.2.2.2.2.2.2.2.1, cI h_K k_K 30 o.2.2.2.2.2.2.2.2.2.2.2]) (va_A [cY h_Y h_O h_N h_B h_G h_K Y_lo Y_ie Y_ra Y_to Y_te Y_re, cL h_O k_O 8 O_f, cI h_N k_N 8 N_f, cI h_B k_B 8 B_f, cI h_G k_G 30 G_f, cI h_K k_K 30 K_f] sz)) 0 0 (va_A [cY h_Y h_O h_N h_B h_G h_K Y_lo Y_ie Y_ra Y_to Y_te Y_re, cL h_O k_O 8 O_f, cI h_N k_N 8 N_f, cI h_B k_B 8 B_f, cI h_G k_G 30 G_f, cI h_K k_K 30 K_f] sz) := by
  refine Met.ofW (cc := prog_4_method_18_code) (maxL := 7) (ret := (some .int)) (by decide) rfl ?_
  intro p e s m args below meth c s₁ B hml hv
  obtain ⟨rfl, hsz, hP, hK, hD0⟩ := hv
  have hx := B.exec
  have hb := B.bytes
  have hr := B.returns
  have hts0 := atoms_spec (ws := w_Y_sum) B.pre
  have hts : ∀ w ∈ tb, w.before _ s = true := fun w h => hts0 w (List.mem_cons_of_mem _ h)
  clear hts0
  have hown : s.vm.findClass "RoundedNumbersModel" = some m.cls := findClass_of_methodNamed B.named
  have hlocks := B.notSynchronized
  subst hsz
  have hD := hD0.self (sz := s.heap.size)
  generalize hAe : va_A [cY h_Y h_O h_N h_B h_G h_K Y_lo Y_ie Y_ra Y_to Y_te Y_re, cL h_O k_O 8 O_f, cI h_N k_N 8 N_f, cI h_B k_B 8 B_f, cI h_G k_G 30 G_f, cI h_K k_K 30 K_f] s.heap.size = A at hD ⊢
  have hA : ∀ q : Nat, s.heap.size ≤ q → A q := fun q h => by rw [← hAe]; exact Or.inr h
  clear hAe
  have hS : va_S A s.heap s.heap [] := va_S.rf
  have hP : va_P (dC, dI) classes [cY h_Y h_O h_N h_B h_G h_K Y_lo Y_ie Y_ra Y_to Y_te Y_re, cL h_O k_O 8 O_f, cI h_N k_N 8 N_f, cI h_B k_B 8 B_f, cI h_G k_G 30 G_f, cI h_K k_K 30 K_f] s.heap := hP
  have hl := lv_entry ([.ref h_Y, .int a1, .int a2, .int a3, .int a4]) (n := 7) (Nat.le_of_ble_eq_true rfl)
  rw [lg_entry_eq]
  generalize (lg_sl ([.ref h_Y, .int a1, .int a2, .int a3, .int a4]) ++ List.replicate (7 - (lg_sl ([.ref h_Y, .int a1, .int a2, .int a3, .int a4])).length) Slot.unset).toArray = ls at hl ⊢
  have hl : lv_has ls 7 [(0, .ref h_Y), (1, .int a1), (2, .int a2), (3, .int a3), (4, .int a4)] := hl
  have b_116 : ∀ (x1 : Int32) (x4 : Int32) (x5 : Int32) (Y_lo : Int32) (Y_ie : Int32) (Y_ra : Int32) (Y_to : Int64) (Y_te : Int32) (Y_re : Int32) (O_f : Nat → Int64) (N_f : Nat → Int32) (B_f : Nat → Int32) (G_f : Nat → Int32) (K_f : Nat → Int32) (H : Heap) (locs : List Loc) (ls : Array Slot), va_P (dC, dI) classes [cY h_Y h_O h_N h_B h_G h_K Y_lo Y_ie Y_ra Y_to Y_te Y_re, cL h_O k_O 8 O_f, cI h_N k_N 8 N_f, cI h_B k_B 8 B_f, cI h_G k_G 30 G_f, cI h_K k_K 30 K_f] H → va_D A [cY h_Y h_O h_N h_B h_G h_K Y_lo Y_ie Y_ra Y_to Y_te Y_re, cL h_O k_O 8 O_f, cI h_N k_N 8 N_f, cI h_B k_B 8 B_f, cI h_G k_G 30 G_f, cI h_K k_K 30 K_f] → va_S A s.heap H locs → lv_has ls 7 [(0, .ref h_Y), (1, .int x1), (4, .int x4), (5, .int x5)] → f_Y_sum_116  x1 x4 x5 Y_lo Y_ie Y_ra Y_to Y_te Y_re O_f N_f B_f G_f K_f = some o → W p l e (headSpec w_Y_sum ({ frames := 4, cells := 0, slots := 0, locals := 104 } : Room)).room s m ([.ref h_Y, .int a1, .int a2, .int a3, .int a4] : List Value).toArray below meth c H locs 0 0 (MQ below (va_Qi (fun (r : Int32) (_ : Unit) => r = o.1) (fun (_ : Unit) (t : State) => va_P (dC, dI) classes [cY h_Y h_O h_N h_B h_G h_K o.2.1 o.2.2.1 o.2.2.2.1 o.2.2.2.2.1 o.2.2.2.2.2.1 o.2.2.2.2.2.2.1, cL h_O k_O 8 o.2.2.2.2.2.2.2.1, cI h_N k_N 8 o.2.2.2.2.2.2.2.2.1, cI h_B k_B 8 o.2.2.2.2.2.2.2.2.2.1, cI h_G k_G 30 o.2.2.2.2.2.2.2.2.2.2.1, cI h_K k_K 30 o.2.2.2.2.2.2.2.2.2.2.2] t.heap ∧ va_K (dC, dI) classes [(k_O, .long), (k_N, .int), (k_B, .boolean), (k_G, .int), (k_K, .int)] t ∧ va_D A [cY h_Y h_O h_N h_B h_G h_K o.2.1 o.2.2.1 o.2.2.2.1 o.2.2.2.2.1 o.2.2.2.2.2.1 o.2.2.2.2.2.2.1, cL h_O k_O 8 o.2.2.2.2.2.2.2.1, cI h_N k_N 8 o.2.2.2.2.2.2.2.2.1, cI h_B k_B 8 o.2.2.2.2.2.2.2.2.2.1, cI h_G k_G 30 o.2.2.2.2.2.2.2.2.2.2.1, cI h_K k_K 30 o.2.2.2.2.2.2.2.2.2.2.2]) A) ([.ref h_Y, .int a1, .int a2, .int a3, .int a4] : List Value).toArray s 0 0 A) (F0 m 116 ls []) := by
    intro x1 x4 x5 Y_lo Y_ie Y_ra Y_to Y_te Y_re O_f N_f B_f G_f K_f H locs ls hP hD hS hl hF
    unfold f_Y_sum_116 at hF
    refine lv_aload_n hx hb d_Y_sum_116 rfl (lv_at hl 0 rfl) ?_
    refine lv_aload_n hx hb d_Y_sum_117 rfl (lv_at hl 0 rfl) ?_
    refine va_get (D := (dC, dI)) (ci := 2) (v := .ref h_G) (C := "RoundedNumbersModel") (T := F_Y) (N := 11) hx hb hts in_Y hown hK hP 0 rfl rfl 6 (by decide) (hts _ tw_320) (fun _ h9 => h9) rfl d_Y_sum_118 ?_
    refine lv_sipush (v := (-320 : Int32)) hx hb d_Y_sum_121 (by decide) ?_
    obtain ⟨q_124, hC_124, hF⟩ := hbd hF
    have hPc := hP.sub (ws' := [cY h_Y h_O h_N h_B h_G h_K Y_lo Y_ie Y_ra Y_to Y_te Y_re, cI h_G k_G 30 G_f]) [0, 4] rfl
    have hDc := hD.sub (ws' := [cY h_Y h_O h_N h_B h_G h_K Y_lo Y_ie Y_ra Y_to Y_te Y_re, cI h_G k_G 30 G_f]) [0, 4] (by decide) rfl
    have hKc := hK.sub (tys' := [(k_G, .int)]) [3] rfl
    have hFc := va_free (wc := [cY h_Y h_O h_N h_B h_G h_K Y_lo Y_ie Y_ra Y_to Y_te Y_re, cI h_G k_G 30 G_f]) hD hS hA [0, 4] rfl
    refine va_callv (va_runV (As := [.ref h_G, .int (-320 : Int32)]) (rest := []) ⟨hx, hb, hml, hown, hts⟩ (c_Y_takeTop l dC dI h_Y h_O h_N h_B h_G h_K h_G k_G H.size Y_lo Y_ie Y_ra Y_to Y_te Y_re G_f (-320 : Int32) q_124 hC_124) (cwV 2 hts g_Y_93_Y_takeTop rfl rfl rfl (by decide +kernel) ⟨Nat.le_of_ble_eq_true rfl, Nat.le_of_ble_eq_true rfl⟩) ⟨fun a U g mk q => by obtain ⟨q0, q1, qP, qK, qD⟩ := q; exact ⟨q0, q1, qP, va_K.moved (u := U) (U := U.calling g mk a) (Vm.Alike.refl U.vm) qK, qD⟩, va_recv hKc hPc (ci := 2) (q0 := 0) rfl rfl, fun U hU hW => ⟨rfl, by rw [hU], by rw [hU]; exact hPc, va_K.moved hW.alike hKc, hDc.weaken (fun _ _ _ _ => trivial)⟩⟩ rfl rfl hl.1 rfl (lv_room (Nat.le_of_ble_eq_true rfl)) d_Y_sum_124 ⟨Nat.zero_le _, Nat.zero_le _⟩) hS (fun q _ h => hFc q h) hFc (fun u t H1 locs ht hvm hw hB hz1 hk1 hS => ?_)
    obtain ⟨hP1, hK1, hD1⟩ := hB
    rw [ht] at hP1
    obtain ⟨hP, hD⟩ := va_join (wr := [cL h_O k_O 8 O_f, cI h_N k_N 8 N_f, cI h_B k_B 8 B_f, cI h_K k_K 30 K_f]) (w1 := [cY h_Y h_O h_N h_B h_G h_K Y_lo Y_ie Y_ra q_124.1 q_124.2.1 q_124.2.2, cI h_G k_G 30 G_f]) hP hD [0, 4] [1, 2, 3, 5] rfl rfl (by decide) (by decide) hk1 hFc hP1 hD1
    generalize H1 = H at hP hS ⊢
    have hP := hP.sub (ws' := [cY h_Y h_O h_N h_B h_G h_K Y_lo Y_ie Y_ra q_124.1 q_124.2.1 q_124.2.2, cL h_O k_O 8 O_f, cI h_N k_N 8 N_f, cI h_B k_B 8 B_f, cI h_G k_G 30 G_f, cI h_K k_K 30 K_f]) [4, 0, 1, 2, 5, 3] rfl
    have hD := hD.sub (ws' := [cY h_Y h_O h_N h_B h_G h_K Y_lo Y_ie Y_ra q_124.1 q_124.2.1 q_124.2.2, cL h_O k_O 8 O_f, cI h_N k_N 8 N_f, cI h_B k_B 8 B_f, cI h_G k_G 30 G_f, cI h_K k_K 30 K_f]) [4, 0, 1, 2, 5, 3] (by decide) rfl
    refine lv_aload_n hx hb d_Y_sum_127 rfl (lv_at hl 0 rfl) ?_
    refine lv_iload_n hx hb d_Y_sum_128 rfl (lv_at hl 1 rfl) ?_
    refine lv_iload hx hb d_Y_sum_129 (lv_at hl 3 rfl) ?_
    refine lv_iload hx hb d_Y_sum_131 (lv_at hl 2 rfl) ?_
    obtain ⟨q_133, hC_133, hF⟩ := hbd hF
    have hPc := hP.sub (ws' := [cY h_Y h_O h_N h_B h_G h_K Y_lo Y_ie Y_ra q_124.1 q_124.2.1 q_124.2.2, cL h_O k_O 8 O_f, cI h_N k_N 8 N_f, cI h_B k_B 8 B_f]) [0, 1, 2, 3] rfl
    have hDc := hD.sub (ws' := [cY h_Y h_O h_N h_B h_G h_K Y_lo Y_ie Y_ra q_124.1 q_124.2.1 q_124.2.2, cL h_O k_O 8 O_f, cI h_N k_N 8 N_f, cI h_B k_B 8 B_f]) [0, 1, 2, 3] (by decide) rfl
    have hKc := hK.sub (tys' := [(k_O, .long), (k_N, .int), (k_B, .boolean)]) [0, 1, 2] rfl
    have hFc := va_free (wc := [cY h_Y h_O h_N h_B h_G h_K Y_lo Y_ie Y_ra q_124.1 q_124.2.1 q_124.2.2, cL h_O k_O 8 O_f, cI h_N k_N 8 N_f, cI h_B k_B 8 B_f]) hD hS hA [0, 1, 2, 3] rfl
    refine va_calli (va_runV (As := [.int x1, .int x5, .int x4]) (rest := []) ⟨hx, hb, hml, hown, hts⟩ (c_Y_round l dC dI h_Y h_O h_N h_B h_G h_K k_O k_N k_B H.size Y_lo Y_ie Y_ra q_124.1 q_124.2.1 q_124.2.2 O_f N_f B_f x1 x5 x4 q_133 hC_133) (cwV 3 hts g_Y_97_Y_round rfl rfl rfl (by decide +kernel) ⟨Nat.le_of_ble_eq_true rfl, Nat.le_of_ble_eq_true rfl⟩) ⟨fun a U g mk q => by obtain ⟨q0, q1, qP, qK, qD⟩ := q; exact ⟨q0, q1, qP, va_K.moved (u := U) (U := U.calling g mk a) (Vm.Alike.refl U.vm) qK, qD⟩, va_recv hKc hPc (ci := 2) (q0 := 0) rfl rfl, fun U hU hW => ⟨rfl, by rw [hU], by rw [hU]; exact hPc, va_K.moved hW.alike hKc, hDc.weaken (fun _ _ _ _ => trivial)⟩⟩ rfl rfl hl.1 rfl (lv_room (Nat.le_of_ble_eq_true rfl)) d_Y_sum_133 ⟨Nat.zero_le _, Nat.zero_le _⟩) hS (fun q _ h => hFc q h) hFc (fun r u t H1 locs ht hvm hw hB hz1 hk1 hS => ?_)
    obtain ⟨hP1, hK1, hD1⟩ := hB
    replace hw := hw.symm
    subst hw
    rw [ht] at hP1
    obtain ⟨hP, hD⟩ := va_join (wr := [cI h_G k_G 30 G_f, cI h_K k_K 30 K_f]) (w1 := [cY h_Y h_O h_N h_B h_G h_K q_133.2.1 q_133.2.2.1 q_133.2.2.2.1 q_124.1 q_124.2.1 q_124.2.2, cL h_O k_O 8 q_133.2.2.2.2.1, cI h_N k_N 8 q_133.2.2.2.2.2.1, cI h_B k_B 8 q_133.2.2.2.2.2.2]) hP hD [0, 1, 2, 3] [4, 5] rfl rfl (by decide) (by decide) hk1 hFc hP1 hD1
    generalize H1 = H at hP hS ⊢
    have hP := hP.sub (ws' := [cY h_Y h_O h_N h_B h_G h_K q_133.2.1 q_133.2.2.1 q_133.2.2.2.1 q_124.1 q_124.2.1 q_124.2.2, cL h_O k_O 8 q_133.2.2.2.2.1, cI h_N k_N 8 q_133.2.2.2.2.2.1, cI h_B k_B 8 q_133.2.2.2.2.2.2, cI h_G k_G 30 G_f, cI h_K k_K 30 K_f]) [2, 3, 4, 5, 0, 1] rfl
    have hD := hD.sub (ws' := [cY h_Y h_O h_N h_B h_G h_K q_133.2.1 q_133.2.2.1 q_133.2.2.2.1 q_124.1 q_124.2.1 q_124.2.2, cL h_O k_O 8 q_133.2.2.2.2.1, cI h_N k_N 8 q_133.2.2.2.2.2.1, cI h_B k_B 8 q_133.2.2.2.2.2.2, cI h_G k_G 30 G_f, cI h_K k_K 30 K_f]) [2, 3, 4, 5, 0, 1] (by decide) rfl
    obtain rfl := Option.some.inj hF
    exact W.iret (v := q_133.1) hx hb hr (fun t ht hW => ⟨⟨q_133.1, (), rfl, rfl, by rw [ht]; exact hP, va_K.moved hW.alike hK, hD⟩, hS.F ht⟩) hS.2.2 d_Y_sum_136
  have b_86 : ∀ n_ : Nat, ∀ (x1 : Int32) (x3 : Int32) (x4 : Int32) (x6 : Int32) (Y_lo : Int32) (Y_ie : Int32) (Y_ra : Int32) (Y_to : Int64) (Y_te : Int32) (Y_re : Int32) (O_f : Nat → Int64) (N_f : Nat → Int32) (B_f : Nat → Int32) (G_f : Nat → Int32) (K_f : Nat → Int32) (H : Heap) (locs : List Loc) (ls : Array Slot), va_P (dC, dI) classes [cY h_Y h_O h_N h_B h_G h_K Y_lo Y_ie Y_ra Y_to Y_te Y_re, cL h_O k_O 8 O_f, cI h_N k_N 8 N_f, cI h_B k_B 8 B_f, cI h_G k_G 30 G_f, cI h_K k_K 30 K_f] H → va_D A [cY h_Y h_O h_N h_B h_G h_K Y_lo Y_ie Y_ra Y_to Y_te Y_re, cL h_O k_O 8 O_f, cI h_N k_N 8 N_f, cI h_B k_B 8 B_f, cI h_G k_G 30 G_f, cI h_K k_K 30 K_f] → va_S A s.heap H locs → lv_has ls 7 [(0, .ref h_Y), (1, .int x1), (3, .int x3), (4, .int x4), (6, .int x6)] → f_Y_sum_86 n_ x1 x3 x4 x6 Y_lo Y_ie Y_ra Y_to Y_te Y_re O_f N_f B_f G_f K_f = some o → W p l e (headSpec w_Y_sum ({ frames := 4, cells := 0, slots := 0, locals := 104 } : Room)).room s m ([.ref h_Y, .int a1, .int a2, .int a3, .int a4] : List Value).toArray below meth c H locs 0 0 (MQ below (va_Qi (fun (r : Int32) (_ : Unit) => r = o.1) (fun (_ : Unit) (t : State) => va_P (dC, dI) classes [cY h_Y h_O h_N h_B h_G h_K o.2.1 o.2.2.1 o.2.2.2.1 o.2.2.2.2.1 o.2.2.2.2.2.1 o.2.2.2.2.2.2.1, cL h_O k_O 8 o.2.2.2.2.2.2.2.1, cI h_N k_N 8 o.2.2.2.2.2.2.2.2.1, cI h_B k_B 8 o.2.2.2.2.2.2.2.2.2.1, cI h_G k_G 30 o.2.2.2.2.2.2.2.2.2.2.1, cI h_K k_K 30 o.2.2.2.2.2.2.2.2.2.2.2] t.heap ∧ va_K (dC, dI) classes [(k_O, .long), (k_N, .int), (k_B, .boolean), (k_G, .int), (k_K, .int)] t ∧ va_D A [cY h_Y h_O h_N h_B h_G h_K o.2.1 o.2.2.1 o.2.2.2.1 o.2.2.2.2.1 o.2.2.2.2.2.1 o.2.2.2.2.2.2.1, cL h_O k_O 8 o.2.2.2.2.2.2.2.1, cI h_N k_N 8 o.2.2.2.2.2.2.2.2.1, cI h_B k_B 8 o.2.2.2.2.2.2.2.2.2.1, cI h_G k_G 30 o.2.2.2.2.2.2.2.2.2.2.1, cI h_K k_K 30 o.2.2.2.2.2.2.2.2.2.2.2]) A) ([.ref h_Y, .int a1, .int a2, .int a3, .int a4] : List Value).toArray s 0 0 A) (F0 m 86 ls []) := by
    intro n_
    induction n_ with
    | zero =>
      intro x1 x3 x4 x6 Y_lo Y_ie Y_ra Y_to Y_te Y_re O_f N_f B_f G_f K_f H locs ls hP hD hS hl hF
      rw [f_Y_sum_86] at hF
      exact absurd hF (by simp)
    | succ n_ ih =>
      obtain ⟨k_86, ek_86⟩ : ∃ k, k = f_Y_sum_86 n_ := ⟨_, rfl⟩
      rw [← ek_86] at ih
      have hk_86 := ih
      intro x1 x3 x4 x6 Y_lo Y_ie Y_ra Y_to Y_te Y_re O_f N_f B_f G_f K_f H locs ls hP hD hS hl hF
      rw [f_Y_sum_86, ← ek_86] at hF
      refine lv_iload hx hb d_Y_sum_86 (lv_at hl 4 rfl) ?_
      refine lv_bipush (v := (30 : Int32)) hx hb d_Y_sum_88 (by decide) ?_
      refine lv_icmp_ge (tgt := 113) hx hb d_Y_sum_90 (by decide) (fun c_90 => ?_) (fun c_90 => ?_)
      · replace hF := hif_t c_90 hF
        refine lv_iload_n hx hb d_Y_sum_113 rfl (lv_at hl 2 rfl) ?_
        refine lv_istore (lv' := [(5, .int x3), (0, .ref h_Y), (1, .int x1), (3, .int x3), (4, .int x4), (6, .int x6)]) hx hb d_Y_sum_114 hl (by decide) rfl (fun ls hl => ?_)
        exact b_116 x1 x4 x3 Y_lo Y_ie Y_ra Y_to Y_te Y_re O_f N_f B_f G_f K_f _ _ _ hP hD hS (lv_sub hl [1, 2, 4, 0] rfl) hF
      · replace hF := hif_f c_90 hF
        refine lv_aload_n hx hb d_Y_sum_93 rfl (lv_at hl 0 rfl) ?_
        refine va_get (D := (dC, dI)) (ci := 2) (v := .ref h_G) (C := "RoundedNumbersModel") (T := F_Y) (N := 11) hx hb hts in_Y hown hK hP 0 rfl rfl 6 (by decide) (hts _ tw_320) (fun _ h9 => h9) rfl d_Y_sum_94 ?_
        refine lv_iload hx hb d_Y_sum_97 (lv_at hl 4 rfl) ?_
        refine lv_aload_n hx hb d_Y_sum_99 rfl (lv_at hl 0 rfl) ?_
        refine va_get (D := (dC, dI)) (ci := 2) (v := .ref h_K) (C := "RoundedNumbersModel") (T := F_Y) (N := 11) hx hb hts in_Y hown hK hP 0 rfl rfl 7 (by decide) (hts _ tw_321) (fun _ h9 => h9) rfl d_Y_sum_100 ?_
        refine lv_iload hx hb d_Y_sum_103 (lv_at hl 4 rfl) ?_
        have c_105 : ¬ (x6 < 0 ∨ 30 ≤ x6.toNatClampNeg) := hif_n hF
        replace hF := hif_f c_105 hF
        refine va_iald hx hb hK hP 5 4 rfl rfl c_105 d_Y_sum_105 ?_
        have c_106 : ¬ (x6 < 0 ∨ 30 ≤ x6.toNatClampNeg) := hif_n hF
        replace hF := hif_f c_106 hF
        refine va_iast hx hb hK hP hD hS 4 3 rfl rfl c_106 d_Y_sum_106 (fun H locs hP hD hS => ?_)
        have hP : va_P (dC, dI) classes [cY h_Y h_O h_N h_B h_G h_K Y_lo Y_ie Y_ra Y_to Y_te Y_re, cL h_O k_O 8 O_f, cI h_N k_N 8 N_f, cI h_B k_B 8 B_f, cI h_G k_G 30 (upd G_f x6.toNatClampNeg (K_f x6.toNatClampNeg)), cI h_K k_K 30 K_f] H := hP
        have hD : va_D A [cY h_Y h_O h_N h_B h_G h_K Y_lo Y_ie Y_ra Y_to Y_te Y_re, cL h_O k_O 8 O_f, cI h_N k_N 8 N_f, cI h_B k_B 8 B_f, cI h_G k_G 30 (upd G_f x6.toNatClampNeg (K_f x6.toNatClampNeg)), cI h_K k_K 30 K_f] := hD
        refine lv_iinc (v := (x6 + (1 : Int32))) (lv' := [(6, .int (x6 + (1 : Int32))), (0, .ref h_Y), (1, .int x1), (3, .int x3), (4, .int x4)]) hx hb d_Y_sum_107 hl (k := 4) rfl rfl (by decide) rfl (fun ls hl => ?_)
        refine lv_goto (tgt := 86) hx hb d_Y_sum_110 (by decide) ?_
        exact hk_86 x1 x3 x4 (x6 + (1 : Int32)) Y_lo Y_ie Y_ra Y_to Y_te Y_re O_f N_f B_f (upd G_f x6.toNatClampNeg (K_f x6.toNatClampNeg)) K_f _ _ _ hP hD hS (lv_sub hl [1, 2, 3, 4, 0] rfl) hF
  have b_11 : ∀ n_ : Nat, ∀ (x1 : Int32) (x4 : Int32) (x5 : Int32) (x6 : Int32) (Y_lo : Int32) (Y_ie : Int32) (Y_ra : Int32) (Y_to : Int64) (Y_te : Int32) (Y_re : Int32) (O_f : Nat → Int64) (N_f : Nat → Int32) (B_f : Nat → Int32) (G_f : Nat → Int32) (K_f : Nat → Int32) (H : Heap) (locs : List Loc) (ls : Array Slot), va_P (dC, dI) classes [cY h_Y h_O h_N h_B h_G h_K Y_lo Y_ie Y_ra Y_to Y_te Y_re, cL h_O k_O 8 O_f, cI h_N k_N 8 N_f, cI h_B k_B 8 B_f, cI h_G k_G 30 G_f, cI h_K k_K 30 K_f] H → va_D A [cY h_Y h_O h_N h_B h_G h_K Y_lo Y_ie Y_ra Y_to Y_te Y_re, cL h_O k_O 8 O_f, cI h_N k_N 8 N_f, cI h_B k_B 8 B_f, cI h_G k_G 30 G_f, cI h_K k_K 30 K_f] → va_S A s.heap H locs → lv_has ls 7 [(0, .ref h_Y), (1, .int x1), (4, .int x4), (5, .int x5), (6, .int x6)] → f_Y_sum_11 n_ x1 x4 x5 x6 Y_lo Y_ie Y_ra Y_to Y_te Y_re O_f N_f B_f G_f K_f = some o → W p l e (headSpec w_Y_sum ({ frames := 4, cells := 0, slots := 0, locals := 104 } : Room)).room s m ([.ref h_Y, .int a1, .int a2, .int a3, .int a4] : List Value).toArray below meth c H locs 0 0 (MQ below (va_Qi (fun (r : Int32) (_ : Unit) => r = o.1) (fun (_ : Unit) (t : State) => va_P (dC, dI) classes [cY h_Y h_O h_N h_B h_G h_K o.2.1 o.2.2.1 o.2.2.2.1 o.2.2.2.2.1 o.2.2.2.2.2.1 o.2.2.2.2.2.2.1, cL h_O k_O 8 o.2.2.2.2.2.2.2.1, cI h_N k_N 8 o.2.2.2.2.2.2.2.2.1, cI h_B k_B 8 o.2.2.2.2.2.2.2.2.2.1, cI h_G k_G 30 o.2.2.2.2.2.2.2.2.2.2.1, cI h_K k_K 30 o.2.2.2.2.2.2.2.2.2.2.2] t.heap ∧ va_K (dC, dI) classes [(k_O, .long), (k_N, .int), (k_B, .boolean), (k_G, .int), (k_K, .int)] t ∧ va_D A [cY h_Y h_O h_N h_B h_G h_K o.2.1 o.2.2.1 o.2.2.2.1 o.2.2.2.2.1 o.2.2.2.2.2.1 o.2.2.2.2.2.2.1, cL h_O k_O 8 o.2.2.2.2.2.2.2.1, cI h_N k_N 8 o.2.2.2.2.2.2.2.2.1, cI h_B k_B 8 o.2.2.2.2.2.2.2.2.2.1, cI h_G k_G 30 o.2.2.2.2.2.2.2.2.2.2.1, cI h_K k_K 30 o.2.2.2.2.2.2.2.2.2.2.2]) A) ([.ref h_Y, .int a1, .int a2, .int a3, .int a4] : List Value).toArray s 0 0 A) (F0 m 11 ls []) := by
    intro n_
    induction n_ with
    | zero =>
      intro x1 x4 x5 x6 Y_lo Y_ie Y_ra Y_to Y_te Y_re O_f N_f B_f G_f K_f H locs ls hP hD hS hl hF
      rw [f_Y_sum_11] at hF
      exact absurd hF (by simp)
    | succ n_ ih =>
      obtain ⟨k_11, ek_11⟩ : ∃ k, k = f_Y_sum_11 n_ := ⟨_, rfl⟩
      rw [← ek_11] at ih
      have hk_11 := ih
      intro x1 x4 x5 x6 Y_lo Y_ie Y_ra Y_to Y_te Y_re O_f N_f B_f G_f K_f H locs ls hP hD hS hl hF
      rw [f_Y_sum_11, ← ek_11] at hF
      refine lv_iload hx hb d_Y_sum_11 (lv_at hl 4 rfl) ?_
      refine lv_bipush (v := (30 : Int32)) hx hb d_Y_sum_13 (by decide) ?_
      refine lv_icmp_ge (tgt := 41) hx hb d_Y_sum_15 (by decide) (fun c_15 => ?_) (fun c_15 => ?_)
      · replace hF := hif_t c_15 hF
        refine lv_goto (tgt := 116) hx hb d_Y_sum_41 (by decide) ?_
        exact b_116 x1 x4 x5 Y_lo Y_ie Y_ra Y_to Y_te Y_re O_f N_f B_f G_f K_f _ _ _ hP hD hS (lv_sub hl [0, 1, 2, 3] rfl) hF
      · replace hF := hif_f c_15 hF
        refine lv_aload_n hx hb d_Y_sum_18 rfl (lv_at hl 0 rfl) ?_
        refine va_get (D := (dC, dI)) (ci := 2) (v := .ref h_G) (C := "RoundedNumbersModel") (T := F_Y) (N := 11) hx hb hts in_Y hown hK hP 0 rfl rfl 6 (by decide) (hts _ tw_320) (fun _ h9 => h9) rfl d_Y_sum_19 ?_
        refine lv_iload hx hb d_Y_sum_22 (lv_at hl 4 rfl) ?_
        refine lv_aload_n hx hb d_Y_sum_24 rfl (lv_at hl 0 rfl) ?_
        refine va_get (D := (dC, dI)) (ci := 2) (v := .ref h_K) (C := "RoundedNumbersModel") (T := F_Y) (N := 11) hx hb hts in_Y hown hK hP 0 rfl rfl 7 (by decide) (hts _ tw_321) (fun _ h9 => h9) rfl d_Y_sum_25 ?_
        refine lv_iload hx hb d_Y_sum_28 (lv_at hl 4 rfl) ?_
        have c_30 : ¬ (x6 < 0 ∨ 30 ≤ x6.toNatClampNeg) := hif_n hF
        replace hF := hif_f c_30 hF
        refine va_iald hx hb hK hP 5 4 rfl rfl c_30 d_Y_sum_30 ?_
        refine lv_i2l (v := (K_f x6.toNatClampNeg).toInt64) hx hb d_Y_sum_31 rfl ?_
        obtain ⟨q_32, hC_32, hF⟩ := hbd hF
        have hPc := hP.sub (ws' := [cI h_G k_G 30 G_f]) [4] rfl
        have hDc := hD.sub (ws' := [cI h_G k_G 30 G_f]) [4] (by decide) rfl
        have hKc := hK.sub (tys' := [(k_G, .int)]) [3] rfl
        have hFc := va_free (wc := [cI h_G k_G 30 G_f]) hD hS hA [4] rfl
        refine va_callv (va_runS (As := [.ref h_G, .int x6, .long ((K_f x6.toNatClampNeg).toInt64)]) (rest := []) ⟨hx, hb, hml, hown, hts⟩ (c_Y_addAt l dC dI h_G k_G H.size G_f x6 ((K_f x6.toNatClampNeg).toInt64) q_32 hC_32) (cwS 3 hts g_Y_74_Y_addAt rfl rfl rfl (by decide +kernel) ⟨Nat.le_of_ble_eq_true rfl, Nat.le_of_ble_eq_true rfl⟩) ⟨fun a U g mk q => by obtain ⟨q0, q1, qP, qK, qD⟩ := q; exact ⟨q0, q1, qP, va_K.moved (u := U) (U := U.calling g mk a) (Vm.Alike.refl U.vm) qK, qD⟩, fun U hU hW => ⟨rfl, by rw [hU], by rw [hU]; exact hPc, va_K.moved hW.alike hKc, hDc.weaken (fun _ _ _ _ => trivial)⟩⟩ rfl rfl hl.1 rfl (lv_room (Nat.le_of_ble_eq_true rfl)) d_Y_sum_32 ⟨Nat.zero_le _, Nat.zero_le _⟩) hS (fun q _ h => hFc q h) hFc (fun u t H1 locs ht hvm hw hB hz1 hk1 hS => ?_)
        obtain ⟨hP1, hK1, hD1⟩ := hB
        rw [ht] at hP1
        obtain ⟨hP, hD⟩ := va_join (wr := [cY h_Y h_O h_N h_B h_G h_K Y_lo Y_ie Y_ra Y_to Y_te Y_re, cL h_O k_O 8 O_f, cI h_N k_N 8 N_f, cI h_B k_B 8 B_f, cI h_K k_K 30 K_f]) (w1 := [cI h_G k_G 30 q_32]) hP hD [4] [0, 1, 2, 3, 5] rfl rfl (by decide) (by decide) hk1 hFc hP1 hD1
        generalize H1 = H at hP hS ⊢
        have hP := hP.sub (ws' := [cY h_Y h_O h_N h_B h_G h_K Y_lo Y_ie Y_ra Y_to Y_te Y_re, cL h_O k_O 8 O_f, cI h_N k_N 8 N_f, cI h_B k_B 8 B_f, cI h_G k_G 30 q_32, cI h_K k_K 30 K_f]) [0, 1, 2, 3, 5, 4] rfl
        have hD := hD.sub (ws' := [cY h_Y h_O h_N h_B h_G h_K Y_lo Y_ie Y_ra Y_to Y_te Y_re, cL h_O k_O 8 O_f, cI h_N k_N 8 N_f, cI h_B k_B 8 B_f, cI h_G k_G 30 q_32, cI h_K k_K 30 K_f]) [0, 1, 2, 3, 5, 4] (by decide) rfl
        refine lv_iinc (v := (x6 + (1 : Int32))) (lv' := [(6, .int (x6 + (1 : Int32))), (0, .ref h_Y), (1, .int x1), (4, .int x4), (5, .int x5)]) hx hb d_Y_sum_35 hl (k := 4) rfl rfl (by decide) rfl (fun ls hl => ?_)
        refine lv_goto (tgt := 11) hx hb d_Y_sum_38 (by decide) ?_
        exact hk_11 x1 x4 x5 (x6 + (1 : Int32)) Y_lo Y_ie Y_ra Y_to Y_te Y_re O_f N_f B_f q_32 K_f _ _ _ hP hD hS (lv_sub hl [1, 2, 3, 4, 0] rfl) hF
  unfold f_Y_sum at hF
  refine lv_iload_n hx hb d_Y_sum_0 rfl (lv_at hl 2 rfl) ?_
  refine lv_istore (lv' := [(5, .int a2), (0, .ref h_Y), (1, .int a1), (2, .int a2), (3, .int a3), (4, .int a4)]) hx hb d_Y_sum_1 hl (by decide) rfl (fun ls hl => ?_)
  refine lv_iload_n hx hb d_Y_sum_3 rfl (lv_at hl 3 rfl) ?_
  refine lv_iload_n hx hb d_Y_sum_4 rfl (lv_at hl 4 rfl) ?_
  refine lv_icmp_ne (tgt := 44) hx hb d_Y_sum_5 (by decide) (fun c_5 => ?_) (fun c_5 => ?_)
  · replace hF := hif_f c_5 hF
    refine lv_aload_n hx hb d_Y_sum_44 rfl (lv_at hl 1 rfl) ?_
    refine va_get (D := (dC, dI)) (ci := 2) (v := .ref h_G) (C := "RoundedNumbersModel") (T := F_Y) (N := 11) hx hb hts in_Y hown hK hP 0 rfl rfl 6 (by decide) (hts _ tw_320) (fun _ h9 => h9) rfl d_Y_sum_45 ?_
    refine lv_aload_n hx hb d_Y_sum_48 rfl (lv_at hl 1 rfl) ?_
    refine va_get (D := (dC, dI)) (ci := 2) (v := .ref h_K) (C := "RoundedNumbersModel") (T := F_Y) (N := 11) hx hb hts in_Y hown hK hP 0 rfl rfl 7 (by decide) (hts _ tw_321) (fun _ h9 => h9) rfl d_Y_sum_49 ?_
    obtain ⟨q_52, hC_52, hF⟩ := hbd hF
    have hPc := hP.sub (ws' := [cI h_G k_G 30 G_f, cI h_K k_K 30 K_f]) [4, 5] rfl
    have hDc := hD.sub (ws' := [cI h_G k_G 30 G_f, cI h_K k_K 30 K_f]) [4, 5] (by decide) rfl
    have hKc := hK.sub (tys' := [(k_G, .int), (k_K, .int)]) [3, 4] rfl
    have hFc := va_free (wc := [cI h_G k_G 30 G_f, cI h_K k_K 30 K_f]) hD hS hA [4, 5] rfl
    refine va_calli (va_runS (As := [.ref h_G, .ref h_K]) (rest := []) ⟨hx, hb, hml, hown, hts⟩ (c_Y_compareBig l dC dI h_G h_K k_G k_K s.heap.size G_f K_f q_52 hC_52) (cwS 2 hts g_Y_85_Y_compareBig rfl rfl rfl (by decide +kernel) ⟨Nat.le_of_ble_eq_true rfl, Nat.le_of_ble_eq_true rfl⟩) ⟨fun a U g mk q => by obtain ⟨q0, q1, qP, qK, qD⟩ := q; exact ⟨q0, q1, qP, va_K.moved (u := U) (U := U.calling g mk a) (Vm.Alike.refl U.vm) qK, qD⟩, fun U hU hW => ⟨rfl, by rw [hU], by rw [hU]; exact hPc, va_K.moved hW.alike hKc, hDc.weaken (fun _ _ _ _ => trivial)⟩⟩ rfl rfl hl.1 rfl (lv_room (Nat.le_of_ble_eq_true rfl)) d_Y_sum_52 ⟨Nat.zero_le _, Nat.zero_le _⟩) hS (fun q _ h => hFc q h) hFc (fun r u t H1 locs ht hvm hw hB hz1 hk1 hS => ?_)
    obtain ⟨hP1, hK1, hD1⟩ := hB
    replace hw := hw.symm
    subst hw
    rw [ht] at hP1
    obtain ⟨hP, hD⟩ := va_join (wr := [cY h_Y h_O h_N h_B h_G h_K Y_lo Y_ie Y_ra Y_to Y_te Y_re, cL h_O k_O 8 O_f, cI h_N k_N 8 N_f, cI h_B k_B 8 B_f]) (w1 := [cI h_G k_G 30 G_f, cI h_K k_K 30 K_f]) hP hD [4, 5] [0, 1, 2, 3] rfl rfl (by decide) (by decide) hk1 hFc hP1 hD1
    generalize H1 = H at hP hS ⊢
    have hP := hP.sub (ws' := [cY h_Y h_O h_N h_B h_G h_K Y_lo Y_ie Y_ra Y_to Y_te Y_re, cL h_O k_O 8 O_f, cI h_N k_N 8 N_f, cI h_B k_B 8 B_f, cI h_G k_G 30 G_f, cI h_K k_K 30 K_f]) [0, 1, 2, 3, 4, 5] rfl
    have hD := hD.sub (ws' := [cY h_Y h_O h_N h_B h_G h_K Y_lo Y_ie Y_ra Y_to Y_te Y_re, cL h_O k_O 8 O_f, cI h_N k_N 8 N_f, cI h_B k_B 8 B_f, cI h_G k_G 30 G_f, cI h_K k_K 30 K_f]) [0, 1, 2, 3, 4, 5] (by decide) rfl
    refine lv_if_lt (tgt := 72) hx hb d_Y_sum_55 (by decide) (fun c_55 => ?_) (fun c_55 => ?_)
    · replace hF := hif_t c_55 hF
      refine lv_aload_n hx hb d_Y_sum_72 rfl (lv_at hl 1 rfl) ?_
      refine va_get (D := (dC, dI)) (ci := 2) (v := .ref h_K) (C := "RoundedNumbersModel") (T := F_Y) (N := 11) hx hb hts in_Y hown hK hP 0 rfl rfl 7 (by decide) (hts _ tw_321) (fun _ h9 => h9) rfl d_Y_sum_73 ?_
      refine lv_aload_n hx hb d_Y_sum_76 rfl (lv_at hl 1 rfl) ?_
      refine va_get (D := (dC, dI)) (ci := 2) (v := .ref h_G) (C := "RoundedNumbersModel") (T := F_Y) (N := 11) hx hb hts in_Y hown hK hP 0 rfl rfl 6 (by decide) (hts _ tw_320) (fun _ h9 => h9) rfl d_Y_sum_77 ?_
      obtain ⟨q_80, hC_80, hF⟩ := hbd hF
      have hPc := hP.sub (ws' := [cI h_K k_K 30 K_f, cI h_G k_G 30 G_f]) [5, 4] rfl
      have hDc := hD.sub (ws' := [cI h_K k_K 30 K_f, cI h_G k_G 30 G_f]) [5, 4] (by decide) rfl
      have hKc := hK.sub (tys' := [(k_K, .int), (k_G, .int)]) [4, 3] rfl
      have hFc := va_free (wc := [cI h_K k_K 30 K_f, cI h_G k_G 30 G_f]) hD hS hA [5, 4] rfl
      refine va_callv (va_runS (As := [.ref h_K, .ref h_G]) (rest := []) ⟨hx, hb, hml, hown, hts⟩ (c_Y_takeAway l dC dI h_K h_G k_K k_G H.size K_f G_f q_80 hC_80) (cwS 2 hts g_Y_89_Y_takeAway rfl rfl rfl (by decide +kernel) ⟨Nat.le_of_ble_eq_true rfl, Nat.le_of_ble_eq_true rfl⟩) ⟨fun a U g mk q => by obtain ⟨q0, q1, qP, qK, qD⟩ := q; exact ⟨q0, q1, qP, va_K.moved (u := U) (U := U.calling g mk a) (Vm.Alike.refl U.vm) qK, qD⟩, fun U hU hW => ⟨rfl, by rw [hU], by rw [hU]; exact hPc, va_K.moved hW.alike hKc, hDc.weaken (fun _ _ _ _ => trivial)⟩⟩ rfl rfl hl.1 rfl (lv_room (Nat.le_of_ble_eq_true rfl)) d_Y_sum_80 ⟨Nat.zero_le _, Nat.zero_le _⟩) hS (fun q _ h => hFc q h) hFc (fun u t H1 locs ht hvm hw hB hz1 hk1 hS => ?_)
      obtain ⟨hP1, hK1, hD1⟩ := hB
      rw [ht] at hP1
      obtain ⟨hP, hD⟩ := va_join (wr := [cY h_Y h_O h_N h_B h_G h_K Y_lo Y_ie Y_ra Y_to Y_te Y_re, cL h_O k_O 8 O_f, cI h_N k_N 8 N_f, cI h_B k_B 8 B_f]) (w1 := [cI h_K k_K 30 q_80, cI h_G k_G 30 G_f]) hP hD [5, 4] [0, 1, 2, 3] rfl rfl (by decide) (by decide) hk1 hFc hP1 hD1
      generalize H1 = H at hP hS ⊢
      have hP := hP.sub (ws' := [cY h_Y h_O h_N h_B h_G h_K Y_lo Y_ie Y_ra Y_to Y_te Y_re, cL h_O k_O 8 O_f, cI h_N k_N 8 N_f, cI h_B k_B 8 B_f, cI h_G k_G 30 G_f, cI h_K k_K 30 q_80]) [0, 1, 2, 3, 5, 4] rfl
      have hD := hD.sub (ws' := [cY h_Y h_O h_N h_B h_G h_K Y_lo Y_ie Y_ra Y_to Y_te Y_re, cL h_O k_O 8 O_f, cI h_N k_N 8 N_f, cI h_B k_B 8 B_f, cI h_G k_G 30 G_f, cI h_K k_K 30 q_80]) [0, 1, 2, 3, 5, 4] (by decide) rfl
      refine lv_iconst (v := (0 : Int32)) hx hb d_Y_sum_83 (by decide) ?_
      refine lv_istore (lv' := [(6, .int (0 : Int32)), (5, .int a2), (0, .ref h_Y), (1, .int a1), (2, .int a2), (3, .int a3), (4, .int a4)]) hx hb d_Y_sum_84 hl (by decide) rfl (fun ls hl => ?_)
      exact b_86 1000 a1 a3 a4 (0 : Int32) Y_lo Y_ie Y_ra Y_to Y_te Y_re O_f N_f B_f G_f q_80 _ _ _ hP hD hS (lv_sub hl [2, 3, 5, 6, 0] rfl) hF
    · replace hF := hif_f c_55 hF
      refine lv_aload_n hx hb d_Y_sum_58 rfl (lv_at hl 1 rfl) ?_
      refine va_get (D := (dC, dI)) (ci := 2) (v := .ref h_G) (C := "RoundedNumbersModel") (T := F_Y) (N := 11) hx hb hts in_Y hown hK hP 0 rfl rfl 6 (by decide) (hts _ tw_320) (fun _ h9 => h9) rfl d_Y_sum_59 ?_
      refine lv_aload_n hx hb d_Y_sum_62 rfl (lv_at hl 1 rfl) ?_
      refine va_get (D := (dC, dI)) (ci := 2) (v := .ref h_K) (C := "RoundedNumbersModel") (T := F_Y) (N := 11) hx hb hts in_Y hown hK hP 0 rfl rfl 7 (by decide) (hts _ tw_321) (fun _ h9 => h9) rfl d_Y_sum_63 ?_
      obtain ⟨q_66, hC_66, hF⟩ := hbd hF
      have hPc := hP.sub (ws' := [cI h_G k_G 30 G_f, cI h_K k_K 30 K_f]) [4, 5] rfl
      have hDc := hD.sub (ws' := [cI h_G k_G 30 G_f, cI h_K k_K 30 K_f]) [4, 5] (by decide) rfl
      have hKc := hK.sub (tys' := [(k_G, .int), (k_K, .int)]) [3, 4] rfl
      have hFc := va_free (wc := [cI h_G k_G 30 G_f, cI h_K k_K 30 K_f]) hD hS hA [4, 5] rfl
      refine va_callv (va_runS (As := [.ref h_G, .ref h_K]) (rest := []) ⟨hx, hb, hml, hown, hts⟩ (c_Y_takeAway l dC dI h_G h_K k_G k_K H.size G_f K_f q_66 hC_66) (cwS 2 hts g_Y_89_Y_takeAway rfl rfl rfl (by decide +kernel) ⟨Nat.le_of_ble_eq_true rfl, Nat.le_of_ble_eq_true rfl⟩) ⟨fun a U g mk q => by obtain ⟨q0, q1, qP, qK, qD⟩ := q; exact ⟨q0, q1, qP, va_K.moved (u := U) (U := U.calling g mk a) (Vm.Alike.refl U.vm) qK, qD⟩, fun U hU hW => ⟨rfl, by rw [hU], by rw [hU]; exact hPc, va_K.moved hW.alike hKc, hDc.weaken (fun _ _ _ _ => trivial)⟩⟩ rfl rfl hl.1 rfl (lv_room (Nat.le_of_ble_eq_true rfl)) d_Y_sum_66 ⟨Nat.zero_le _, Nat.zero_le _⟩) hS (fun q _ h => hFc q h) hFc (fun u t H1 locs ht hvm hw hB hz1 hk1 hS => ?_)
      obtain ⟨hP1, hK1, hD1⟩ := hB
      rw [ht] at hP1
      obtain ⟨hP, hD⟩ := va_join (wr := [cY h_Y h_O h_N h_B h_G h_K Y_lo Y_ie Y_ra Y_to Y_te Y_re, cL h_O k_O 8 O_f, cI h_N k_N 8 N_f, cI h_B k_B 8 B_f]) (w1 := [cI h_G k_G 30 q_66, cI h_K k_K 30 K_f]) hP hD [4, 5] [0, 1, 2, 3] rfl rfl (by decide) (by decide) hk1 hFc hP1 hD1
      generalize H1 = H at hP hS ⊢
      have hP := hP.sub (ws' := [cY h_Y h_O h_N h_B h_G h_K Y_lo Y_ie Y_ra Y_to Y_te Y_re, cL h_O k_O 8 O_f, cI h_N k_N 8 N_f, cI h_B k_B 8 B_f, cI h_G k_G 30 q_66, cI h_K k_K 30 K_f]) [0, 1, 2, 3, 4, 5] rfl
      have hD := hD.sub (ws' := [cY h_Y h_O h_N h_B h_G h_K Y_lo Y_ie Y_ra Y_to Y_te Y_re, cL h_O k_O 8 O_f, cI h_N k_N 8 N_f, cI h_B k_B 8 B_f, cI h_G k_G 30 q_66, cI h_K k_K 30 K_f]) [0, 1, 2, 3, 4, 5] (by decide) rfl
      refine lv_goto (tgt := 116) hx hb d_Y_sum_69 (by decide) ?_
      exact b_116 a1 a4 a2 Y_lo Y_ie Y_ra Y_to Y_te Y_re O_f N_f B_f q_66 K_f _ _ _ hP hD hS (lv_sub hl [1, 2, 5, 0] rfl) hF
  · replace hF := hif_t c_5 hF
    refine lv_iconst (v := (0 : Int32)) hx hb d_Y_sum_8 (by decide) ?_
    refine lv_istore (lv' := [(6, .int (0 : Int32)), (5, .int a2), (0, .ref h_Y), (1, .int a1), (2, .int a2), (3, .int a3), (4, .int a4)]) hx hb d_Y_sum_9 hl (by decide) rfl (fun ls hl => ?_)
    exact b_11 1000 a1 a4 a2 (0 : Int32) Y_lo Y_ie Y_ra Y_to Y_te Y_re O_f N_f B_f G_f K_f _ _ _ hP hD hS (lv_sub hl [2, 3, 6, 1, 0] rfl) hF
set_option maxHeartbeats 4000000 in
set_option maxRecDepth 100000 in
theorem c_Y_set (l : Launch) (dC : Nat → ClassId) (dI : Nat → Nat → Nat) (h_Y : Nat) (h_O : Nat) (h_N : Nat) (h_B : Nat) (h_G : Nat) (h_K : Nat) (k_O : ClassId) (k_N : ClassId) (k_B : ClassId) (sz : Nat) (Y_lo : Int32) (Y_ie : Int32) (Y_ra : Int32) (Y_to : Int64) (Y_te : Int32) (Y_re : Int32) (O_f : Nat → Int64) (N_f : Nat → Int32) (B_f : Nat → Int32) (a1 : Int32) (a2 : Int64) (a3 : Int32) (o : Int32 × Int32 × (Nat → Int64) × (Nat → Int32) × (Nat → Int32)) (hF : f_Y_set Y_ra O_f N_f B_f a1 a2 a3 = some o) : Met l y_Y_set w_Y_set ({ frames := 2, cells := 0, slots := 0, locals := 47 } : Room) (va_Pc [.ref h_Y, .int a1, .long a2, .int a3] (fun U => U.heap.size = sz ∧ va_P (dC, dI) classes [cY h_Y h_O h_N h_B h_G h_K Y_lo Y_ie Y_ra Y_to Y_te Y_re, cL h_O k_O 8 O_f, cI h_N k_N 8 N_f, cI h_B k_B 8 B_f] U.heap ∧ va_K (dC, dI) classes [(k_O, .long), (k_N, .int), (k_B, .boolean)] U ∧ va_D (fun _ => True) [cY h_Y h_O h_N h_B h_G h_K Y_lo Y_ie Y_ra Y_to Y_te Y_re, cL h_O k_O 8 O_f, cI h_N k_N 8 N_f, cI h_B k_B 8 B_f])) (va_Qi (fun (r : Int32) (_ : Unit) => r = o.1) (fun (_ : Unit) (t : State) => va_P (dC, dI) classes [cY h_Y h_O h_N h_B h_G h_K Y_lo Y_ie o.2.1 Y_to Y_te Y_re, cL h_O k_O 8 o.2.2.1, cI h_N k_N 8 o.2.2.2.1, cI h_B k_B 8 o.2.2.2.2] t.heap ∧ va_K (dC, dI) classes [(k_O, .long), (k_N, .int), (k_B, .boolean)] t ∧ va_D (va_A [cY h_Y h_O h_N h_B h_G h_K Y_lo Y_ie Y_ra Y_to Y_te Y_re, cL h_O k_O 8 O_f, cI h_N k_N 8 N_f, cI h_B k_B 8 B_f] sz) [cY h_Y h_O h_N h_B h_G h_K Y_lo Y_ie o.2.1 Y_to Y_te Y_re, cL h_O k_O 8 o.2.2.1, cI h_N k_N 8 o.2.2.2.1, cI h_B k_B 8 o.2.2.2.2]) (va_A [cY h_Y h_O h_N h_B h_G h_K Y_lo Y_ie Y_ra Y_to Y_te Y_re, cL h_O k_O 8 O_f, cI h_N k_N 8 N_f, cI h_B k_B 8 B_f] sz)) 0 0 (va_A [cY h_Y h_O h_N h_B h_G h_K Y_lo Y_ie Y_ra Y_to Y_te Y_re, cL h_O k_O 8 O_f, cI h_N k_N 8 N_f, cI h_B k_B 8 B_f] sz) := by
  refine Met.ofW (cc := prog_4_method_19_code) (maxL := 7) (ret := (some .int)) (by decide) rfl ?_
  intro p e s m args below meth c s₁ B hml hv
  obtain ⟨rfl, hsz, hP, hK, hD0⟩ := hv
  have hx := B.exec
  have hb := B.bytes
  have hr := B.returns
  have hts0 := atoms_spec (ws := w_Y_set) B.pre
  have hts : ∀ w ∈ tb, w.before _ s = true := fun w h => hts0 w (List.mem_cons_of_mem _ h)
  clear hts0
  have hown : s.vm.findClass "RoundedNumbersModel" = some m.cls := findClass_of_methodNamed B.named
  have hlocks := B.notSynchronized
  subst hsz
  have hD := hD0.self (sz := s.heap.size)
  generalize hAe : va_A [cY h_Y h_O h_N h_B h_G h_K Y_lo Y_ie Y_ra Y_to Y_te Y_re, cL h_O k_O 8 O_f, cI h_N k_N 8 N_f, cI h_B k_B 8 B_f] s.heap.size = A at hD ⊢
  have hA : ∀ q : Nat, s.heap.size ≤ q → A q := fun q h => by rw [← hAe]; exact Or.inr h
  clear hAe
  have hS : va_S A s.heap s.heap [] := va_S.rf
  have hP : va_P (dC, dI) classes [cY h_Y h_O h_N h_B h_G h_K Y_lo Y_ie Y_ra Y_to Y_te Y_re, cL h_O k_O 8 O_f, cI h_N k_N 8 N_f, cI h_B k_B 8 B_f] s.heap := hP
  have hl := lv_entry ([.ref h_Y, .int a1, .long a2, .int a3]) (n := 7) (Nat.le_of_ble_eq_true rfl)
  rw [lg_entry_eq]
  generalize (lg_sl ([.ref h_Y, .int a1, .long a2, .int a3]) ++ List.replicate (7 - (lg_sl ([.ref h_Y, .int a1, .long a2, .int a3])).length) Slot.unset).toArray = ls at hl ⊢
  have hl : lv_has ls 7 [(0, .ref h_Y), (1, .int a1), (2, .long a2), (4, .int a3)] := hl
  have b_89 : ∀ (x4 : Int32) (x5 : Int64) (y0 : Int32) (y1 : Int32) (Y_ra : Int32) (O_f : Nat → Int64) (N_f : Nat → Int32) (B_f : Nat → Int32) (Y_lo : Int32) (Y_ie : Int32) (Y_to : Int64) (Y_te : Int32) (Y_re : Int32) (H : Heap) (locs : List Loc) (ls : Array Slot), va_P (dC, dI) classes [cY h_Y h_O h_N h_B h_G h_K Y_lo Y_ie Y_ra Y_to Y_te Y_re, cL h_O k_O 8 O_f, cI h_N k_N 8 N_f, cI h_B k_B 8 B_f] H → va_D A [cY h_Y h_O h_N h_B h_G h_K Y_lo Y_ie Y_ra Y_to Y_te Y_re, cL h_O k_O 8 O_f, cI h_N k_N 8 N_f, cI h_B k_B 8 B_f] → va_S A s.heap H locs → lv_has ls 7 [(4, .int x4), (5, .long x5)] → f_Y_set_89  x4 x5 y0 y1 Y_ra O_f N_f B_f = some o → W p l e (headSpec w_Y_set ({ frames := 2, cells := 0, slots := 0, locals := 47 } : Room)).room s m ([.ref h_Y, .int a1, .long a2, .int a3] : List Value).toArray below meth c H locs 0 0 (MQ below (va_Qi (fun (r : Int32) (_ : Unit) => r = o.1) (fun (_ : Unit) (t : State) => va_P (dC, dI) classes [cY h_Y h_O h_N h_B h_G h_K Y_lo Y_ie o.2.1 Y_to Y_te Y_re, cL h_O k_O 8 o.2.2.1, cI h_N k_N 8 o.2.2.2.1, cI h_B k_B 8 o.2.2.2.2] t.heap ∧ va_K (dC, dI) classes [(k_O, .long), (k_N, .int), (k_B, .boolean)] t ∧ va_D A [cY h_Y h_O h_N h_B h_G h_K Y_lo Y_ie o.2.1 Y_to Y_te Y_re, cL h_O k_O 8 o.2.2.1, cI h_N k_N 8 o.2.2.2.1, cI h_B k_B 8 o.2.2.2.2]) A) ([.ref h_Y, .int a1, .long a2, .int a3] : List Value).toArray s 0 0 A) (F0 m 89 ls [.int y0, .int y1, .ref h_Y]) := by
    intro x4 x5 y0 y1 Y_ra O_f N_f B_f Y_lo Y_ie Y_to Y_te Y_re H locs ls hP hD hS hl hF
    unfold f_Y_set_89 at hF
    refine lv_lload hx hb d_Y_set_89 (lv_at hl 1 rfl) ?_
    refine lv_iload hx hb d_Y_set_91 (lv_at hl 0 rfl) ?_
    obtain ⟨q_93, hC_93, hF⟩ := hbd hF
    have hPc := hP.sub (ws' := [cY h_Y h_O h_N h_B h_G h_K Y_lo Y_ie Y_ra Y_to Y_te Y_re, cL h_O k_O 8 O_f, cI h_N k_N 8 N_f, cI h_B k_B 8 B_f]) [0, 1, 2, 3] rfl
    have hDc := hD.sub (ws' := [cY h_Y h_O h_N h_B h_G h_K Y_lo Y_ie Y_ra Y_to Y_te Y_re, cL h_O k_O 8 O_f, cI h_N k_N 8 N_f, cI h_B k_B 8 B_f]) [0, 1, 2, 3] (by decide) rfl
    have hKc := hK.sub (tys' := [(k_O, .long), (k_N, .int), (k_B, .boolean)]) [0, 1, 2] rfl
    have hFc := va_free (wc := [cY h_Y h_O h_N h_B h_G h_K Y_lo Y_ie Y_ra Y_to Y_te Y_re, cL h_O k_O 8 O_f, cI h_N k_N 8 N_f, cI h_B k_B 8 B_f]) hD hS hA [0, 1, 2, 3] rfl
    refine va_callv (va_runV (As := [.int y1, .int y0, .long x5, .int x4]) (rest := []) ⟨hx, hb, hml, hown, hts⟩ (c_Y_store l dC dI h_Y h_O h_N h_B h_G h_K k_O k_N k_B H.size Y_lo Y_ie Y_ra Y_to Y_te Y_re O_f N_f B_f y1 y0 x5 x4 q_93 hC_93) (cwV 4 hts g_Y_47_Y_store rfl rfl rfl (by decide +kernel) ⟨Nat.le_of_ble_eq_true rfl, Nat.le_of_ble_eq_true rfl⟩) ⟨fun a U g mk q => by obtain ⟨q0, q1, qP, qK, qD⟩ := q; exact ⟨q0, q1, qP, va_K.moved (u := U) (U := U.calling g mk a) (Vm.Alike.refl U.vm) qK, qD⟩, va_recv hKc hPc (ci := 2) (q0 := 0) rfl rfl, fun U hU hW => ⟨rfl, by rw [hU], by rw [hU]; exact hPc, va_K.moved hW.alike hKc, hDc.weaken (fun _ _ _ _ => trivial)⟩⟩ rfl rfl hl.1 rfl (lv_room (Nat.le_of_ble_eq_true rfl)) d_Y_set_93 ⟨Nat.zero_le _, Nat.zero_le _⟩) hS (fun q _ h => hFc q h) hFc (fun u t H1 locs ht hvm hw hB hz1 hk1 hS => ?_)
    obtain ⟨hP1, hK1, hD1⟩ := hB
    rw [ht] at hP1
    obtain ⟨hP, hD⟩ := va_join (wr := []) (w1 := [cY h_Y h_O h_N h_B h_G h_K Y_lo Y_ie Y_ra Y_to Y_te Y_re, cL h_O k_O 8 q_93.1, cI h_N k_N 8 q_93.2.1, cI h_B k_B 8 q_93.2.2]) hP hD [0, 1, 2, 3] [] rfl rfl (by decide) (by decide) hk1 hFc hP1 hD1
    generalize H1 = H at hP hS ⊢
    have hP := hP.sub (ws' := [cY h_Y h_O h_N h_B h_G h_K Y_lo Y_ie Y_ra Y_to Y_te Y_re, cL h_O k_O 8 q_93.1, cI h_N k_N 8 q_93.2.1, cI h_B k_B 8 q_93.2.2]) [0, 1, 2, 3] rfl
    have hD := hD.sub (ws' := [cY h_Y h_O h_N h_B h_G h_K Y_lo Y_ie Y_ra Y_to Y_te Y_re, cL h_O k_O 8 q_93.1, cI h_N k_N 8 q_93.2.1, cI h_B k_B 8 q_93.2.2]) [0, 1, 2, 3] (by decide) rfl
    refine lv_iconst (v := (0 : Int32)) hx hb d_Y_set_96 (by decide) ?_
    obtain rfl := Option.some.inj hF
    exact W.iret (v := (0 : Int32)) hx hb hr (fun t ht hW => ⟨⟨(0 : Int32), (), rfl, rfl, by rw [ht]; exact hP, va_K.moved hW.alike hK, hD⟩, hS.F ht⟩) hS.2.2 d_Y_set_97
  have b_76 : ∀ (x1 : Int32) (x2 : Int64) (x4 : Int32) (x5 : Int64) (Y_ra : Int32) (O_f : Nat → Int64) (N_f : Nat → Int32) (B_f : Nat → Int32) (Y_lo : Int32) (Y_ie : Int32) (Y_to : Int64) (Y_te : Int32) (Y_re : Int32) (H : Heap) (locs : List Loc) (ls : Array Slot), va_P (dC, dI) classes [cY h_Y h_O h_N h_B h_G h_K Y_lo Y_ie Y_ra Y_to Y_te Y_re, cL h_O k_O 8 O_f, cI h_N k_N 8 N_f, cI h_B k_B 8 B_f] H → va_D A [cY h_Y h_O h_N h_B h_G h_K Y_lo Y_ie Y_ra Y_to Y_te Y_re, cL h_O k_O 8 O_f, cI h_N k_N 8 N_f, cI h_B k_B 8 B_f] → va_S A s.heap H locs → lv_has ls 7 [(0, .ref h_Y), (1, .int x1), (2, .long x2), (4, .int x4), (5, .long x5)] → f_Y_set_76  x1 x2 x4 x5 Y_ra O_f N_f B_f = some o → W p l e (headSpec w_Y_set ({ frames := 2, cells := 0, slots := 0, locals := 47 } : Room)).room s m ([.ref h_Y, .int a1, .long a2, .int a3] : List Value).toArray below meth c H locs 0 0 (MQ below (va_Qi (fun (r : Int32) (_ : Unit) => r = o.1) (fun (_ : Unit) (t : State) => va_P (dC, dI) classes [cY h_Y h_O h_N h_B h_G h_K Y_lo Y_ie o.2.1 Y_to Y_te Y_re, cL h_O k_O 8 o.2.2.1, cI h_N k_N 8 o.2.2.2.1, cI h_B k_B 8 o.2.2.2.2] t.heap ∧ va_K (dC, dI) classes [(k_O, .long), (k_N, .int), (k_B, .boolean)] t ∧ va_D A [cY h_Y h_O h_N h_B h_G h_K Y_lo Y_ie o.2.1 Y_to Y_te Y_re, cL h_O k_O 8 o.2.2.1, cI h_N k_N 8 o.2.2.2.1, cI h_B k_B 8 o.2.2.2.2]) A) ([.ref h_Y, .int a1, .long a2, .int a3] : List Value).toArray s 0 0 A) (F0 m 76 ls []) := by
    intro x1 x2 x4 x5 Y_ra O_f N_f B_f Y_lo Y_ie Y_to Y_te Y_re H locs ls hP hD hS hl hF
    unfold f_Y_set_76 at hF
    refine lv_aload_n hx hb d_Y_set_76 rfl (lv_at hl 0 rfl) ?_
    refine lv_iload_n hx hb d_Y_set_77 rfl (lv_at hl 1 rfl) ?_
    refine lv_lload_n hx hb d_Y_set_78 rfl (lv_at hl 2 rfl) ?_
    refine lv_lconst (v := (0 : Int64)) hx hb d_Y_set_79 (by decide) ?_
    refine W.lcmp hx hb d_Y_set_80 ?_
    refine lv_if_ge (tgt := 88) hx hb d_Y_set_81 (by decide) (fun c_81 => ?_) (fun c_81 => ?_)
    · replace hF := hif_t c_81 hF
      refine lv_iconst (v := (0 : Int32)) hx hb d_Y_set_88 (by decide) ?_
      exact b_89 x4 x5 (0 : Int32) x1 Y_ra O_f N_f B_f Y_lo Y_ie Y_to Y_te Y_re _ _ _ hP hD hS (lv_sub hl [3, 4] rfl) hF
    · replace hF := hif_f c_81 hF
      refine lv_iconst (v := (1 : Int32)) hx hb d_Y_set_84 (by decide) ?_
      refine lv_goto (tgt := 89) hx hb d_Y_set_85 (by decide) ?_
      exact b_89 x4 x5 (1 : Int32) x1 Y_ra O_f N_f B_f Y_lo Y_ie Y_to Y_te Y_re _ _ _ hP hD hS (lv_sub hl [3, 4] rfl) hF
  have b_53 : ∀ (x1 : Int32) (x2 : Int64) (x4 : Int32) (y0 : Int64) (Y_ra : Int32) (O_f : Nat → Int64) (N_f : Nat → Int32) (B_f : Nat → Int32) (Y_lo : Int32) (Y_ie : Int32) (Y_to : Int64) (Y_te : Int32) (Y_re : Int32) (H : Heap) (locs : List Loc) (ls : Array Slot), va_P (dC, dI) classes [cY h_Y h_O h_N h_B h_G h_K Y_lo Y_ie Y_ra Y_to Y_te Y_re, cL h_O k_O 8 O_f, cI h_N k_N 8 N_f, cI h_B k_B 8 B_f] H → va_D A [cY h_Y h_O h_N h_B h_G h_K Y_lo Y_ie Y_ra Y_to Y_te Y_re, cL h_O k_O 8 O_f, cI h_N k_N 8 N_f, cI h_B k_B 8 B_f] → va_S A s.heap H locs → lv_has ls 7 [(0, .ref h_Y), (1, .int x1), (2, .long x2), (4, .int x4)] → f_Y_set_53  x1 x2 x4 y0 Y_ra O_f N_f B_f = some o → W p l e (headSpec w_Y_set ({ frames := 2, cells := 0, slots := 0, locals := 47 } : Room)).room s m ([.ref h_Y, .int a1, .long a2, .int a3] : List Value).toArray below meth c H locs 0 0 (MQ below (va_Qi (fun (r : Int32) (_ : Unit) => r = o.1) (fun (_ : Unit) (t : State) => va_P (dC, dI) classes [cY h_Y h_O h_N h_B h_G h_K Y_lo Y_ie o.2.1 Y_to Y_te Y_re, cL h_O k_O 8 o.2.2.1, cI h_N k_N 8 o.2.2.2.1, cI h_B k_B 8 o.2.2.2.2] t.heap ∧ va_K (dC, dI) classes [(k_O, .long), (k_N, .int), (k_B, .boolean)] t ∧ va_D A [cY h_Y h_O h_N h_B h_G h_K Y_lo Y_ie o.2.1 Y_to Y_te Y_re, cL h_O k_O 8 o.2.2.1, cI h_N k_N 8 o.2.2.2.1, cI h_B k_B 8 o.2.2.2.2]) A) ([.ref h_Y, .int a1, .long a2, .int a3] : List Value).toArray s 0 0 A) (F0 m 53 ls [.long y0]) := by
    intro x1 x2 x4 y0 Y_ra O_f N_f B_f Y_lo Y_ie Y_to Y_te Y_re H locs ls hP hD hS hl hF
    unfold f_Y_set_53 at hF
    refine lv_lstore (lv' := [(5, .long y0), (0, .ref h_Y), (1, .int x1), (2, .long x2), (4, .int x4)]) hx hb d_Y_set_53 hl (by decide) rfl (fun ls hl => ?_)
    refine lv_lload_n hx hb d_Y_set_55 rfl (lv_at hl 3 rfl) ?_
    refine lv_lconst (v := (0 : Int64)) hx hb d_Y_set_56 (by decide) ?_
    refine W.lcmp hx hb d_Y_set_57 ?_
    refine lv_if_eq (tgt := 76) hx hb d_Y_set_58 (by decide) (fun c_58 => ?_) (fun c_58 => ?_)
    · replace hF := hif_t c_58 hF
      exact b_76 x1 x2 x4 y0 Y_ra O_f N_f B_f Y_lo Y_ie Y_to Y_te Y_re _ _ _ hP hD hS (lv_sub hl [1, 2, 3, 4, 0] rfl) hF
    · replace hF := hif_f c_58 hF
      refine lv_lload hx hb d_Y_set_61 (lv_at hl 0 rfl) ?_
      refine lv_iload hx hb d_Y_set_63 (lv_at hl 4 rfl) ?_
      obtain ⟨q_65, hC_65, hF⟩ := hbd hF
      have hPc := hP.sub (ws' := []) [] rfl
      have hDc := hD.sub (ws' := []) [] (by decide) rfl
      have hKc := hK.sub (tys' := []) [] rfl
      have hFc := va_free (wc := []) hD hS hA [] rfl
      refine va_calli (va_runS (As := [.long y0, .int x4]) (rest := []) ⟨hx, hb, hml, hown, hts⟩ (c_Y_inRange l dC dI H.size y0 x4 q_65 hC_65) (cwS 2 hts g_Y_39_Y_inRange rfl rfl rfl (by decide +kernel) ⟨Nat.le_of_ble_eq_true rfl, Nat.le_of_ble_eq_true rfl⟩) ⟨fun a U g mk q => by obtain ⟨q0, q1, qP, qK, qD⟩ := q; exact ⟨q0, q1, qP, va_K.moved (u := U) (U := U.calling g mk a) (Vm.Alike.refl U.vm) qK, qD⟩, fun U hU hW => ⟨rfl, by rw [hU], by rw [hU]; exact hPc, va_K.moved hW.alike hKc, hDc.weaken (fun _ _ _ _ => trivial)⟩⟩ rfl rfl hl.1 rfl (lv_room (Nat.le_of_ble_eq_true rfl)) d_Y_set_65 ⟨Nat.zero_le _, Nat.zero_le _⟩) hS (fun q _ h => hFc q h) hFc (fun r u t H1 locs ht hvm hw hB hz1 hk1 hS => ?_)
      obtain ⟨hP1, hK1, hD1⟩ := hB
      replace hw := hw.symm
      subst hw
      rw [ht] at hP1
      obtain ⟨hP, hD⟩ := va_join (wr := [cY h_Y h_O h_N h_B h_G h_K Y_lo Y_ie Y_ra Y_to Y_te Y_re, cL h_O k_O 8 O_f, cI h_N k_N 8 N_f, cI h_B k_B 8 B_f]) (w1 := []) hP hD [] [0, 1, 2, 3] rfl rfl (by decide) (by decide) hk1 hFc hP1 hD1
      generalize H1 = H at hP hS ⊢
      have hP := hP.sub (ws' := [cY h_Y h_O h_N h_B h_G h_K Y_lo Y_ie Y_ra Y_to Y_te Y_re, cL h_O k_O 8 O_f, cI h_N k_N 8 N_f, cI h_B k_B 8 B_f]) [0, 1, 2, 3] rfl
      have hD := hD.sub (ws' := [cY h_Y h_O h_N h_B h_G h_K Y_lo Y_ie Y_ra Y_to Y_te Y_re, cL h_O k_O 8 O_f, cI h_N k_N 8 N_f, cI h_B k_B 8 B_f]) [0, 1, 2, 3] (by decide) rfl
      refine lv_if_ne (tgt := 76) hx hb d_Y_set_68 (by decide) (fun c_68 => ?_) (fun c_68 => ?_)
      · replace hF := hif_f c_68 hF
        exact b_76 x1 x2 x4 y0 Y_ra O_f N_f B_f Y_lo Y_ie Y_to Y_te Y_re _ _ _ hP hD hS (lv_sub hl [1, 2, 3, 4, 0] rfl) hF
      · replace hF := hif_t c_68 hF
        refine lv_aload_n hx hb d_Y_set_71 rfl (lv_at hl 1 rfl) ?_
        obtain ⟨q_72, hC_72, hF⟩ := hbd hF
        have hPc := hP.sub (ws' := [cY h_Y h_O h_N h_B h_G h_K Y_lo Y_ie Y_ra Y_to Y_te Y_re]) [0] rfl
        have hDc := hD.sub (ws' := [cY h_Y h_O h_N h_B h_G h_K Y_lo Y_ie Y_ra Y_to Y_te Y_re]) [0] (by decide) rfl
        have hKc := hK.sub (tys' := []) [] rfl
        have hFc := va_free (wc := [cY h_Y h_O h_N h_B h_G h_K Y_lo Y_ie Y_ra Y_to Y_te Y_re]) hD hS hA [0] rfl
        refine va_calli (va_runV (As := []) (rest := []) ⟨hx, hb, hml, hown, hts⟩ (c_Y_range l dC dI h_Y h_O h_N h_B h_G h_K H.size Y_lo Y_ie Y_ra Y_to Y_te Y_re q_72 hC_72) (cwV 0 hts g_Y_43_Y_range rfl rfl rfl (by decide +kernel) ⟨Nat.le_of_ble_eq_true rfl, Nat.le_of_ble_eq_true rfl⟩) ⟨fun a U g mk q => by obtain ⟨q0, q1, qP, qK, qD⟩ := q; exact ⟨q0, q1, qP, va_K.moved (u := U) (U := U.calling g mk a) (Vm.Alike.refl U.vm) qK, qD⟩, va_recv hKc hPc (ci := 2) (q0 := 0) rfl rfl, fun U hU hW => ⟨rfl, by rw [hU], by rw [hU]; exact hPc, va_K.moved hW.alike hKc, hDc.weaken (fun _ _ _ _ => trivial)⟩⟩ rfl rfl hl.1 rfl (lv_room (Nat.le_of_ble_eq_true rfl)) d_Y_set_72 ⟨Nat.zero_le _, Nat.zero_le _⟩) hS (fun q _ h => hFc q h) hFc (fun r u t H1 locs ht hvm hw hB hz1 hk1 hS => ?_)
        obtain ⟨hP1, hK1, hD1⟩ := hB
        replace hw := hw.symm
        subst hw
        rw [ht] at hP1
        obtain ⟨hP, hD⟩ := va_join (wr := [cL h_O k_O 8 O_f, cI h_N k_N 8 N_f, cI h_B k_B 8 B_f]) (w1 := [cY h_Y h_O h_N h_B h_G h_K Y_lo Y_ie q_72.2 Y_to Y_te Y_re]) hP hD [0] [1, 2, 3] rfl rfl (by decide) (by decide) hk1 hFc hP1 hD1
        generalize H1 = H at hP hS ⊢
        have hP := hP.sub (ws' := [cY h_Y h_O h_N h_B h_G h_K Y_lo Y_ie q_72.2 Y_to Y_te Y_re, cL h_O k_O 8 O_f, cI h_N k_N 8 N_f, cI h_B k_B 8 B_f]) [3, 0, 1, 2] rfl
        have hD := hD.sub (ws' := [cY h_Y h_O h_N h_B h_G h_K Y_lo Y_ie q_72.2 Y_to Y_te Y_re, cL h_O k_O 8 O_f, cI h_N k_N 8 N_f, cI h_B k_B 8 B_f]) [3, 0, 1, 2] (by decide) rfl
        obtain rfl := Option.some.inj hF
        exact W.iret (v := q_72.1) hx hb hr (fun t ht hW => ⟨⟨q_72.1, (), rfl, rfl, by rw [ht]; exact hP, va_K.moved hW.alike hK, hD⟩, hS.F ht⟩) hS.2.2 d_Y_set_75
  unfold f_Y_set at hF
  refine lv_iload_n hx hb d_Y_set_0 rfl (lv_at hl 1 rfl) ?_
  obtain ⟨q_1, hC_1, hF⟩ := hbd hF
  have hPc := hP.sub (ws' := []) [] rfl
  have hDc := hD.sub (ws' := []) [] (by decide) rfl
  have hKc := hK.sub (tys' := []) [] rfl
  have hFc := va_free (wc := []) hD hS hA [] rfl
  refine va_calli (va_runS (As := [.int a1]) (rest := []) ⟨hx, hb, hml, hown, hts⟩ (c_Y_out l dC dI s.heap.size a1 q_1 hC_1) (cwS 1 hts g_Y_101_Y_out rfl rfl rfl (by decide +kernel) ⟨Nat.le_of_ble_eq_true rfl, Nat.le_of_ble_eq_true rfl⟩) ⟨fun a U g mk q => by obtain ⟨q0, q1, qP, qK, qD⟩ := q; exact ⟨q0, q1, qP, va_K.moved (u := U) (U := U.calling g mk a) (Vm.Alike.refl U.vm) qK, qD⟩, fun U hU hW => ⟨rfl, by rw [hU], by rw [hU]; exact hPc, va_K.moved hW.alike hKc, hDc.weaken (fun _ _ _ _ => trivial)⟩⟩ rfl rfl hl.1 rfl (lv_room (Nat.le_of_ble_eq_true rfl)) d_Y_set_1 ⟨Nat.zero_le _, Nat.zero_le _⟩) hS (fun q _ h => hFc q h) hFc (fun r u t H1 locs ht hvm hw hB hz1 hk1 hS => ?_)
  obtain ⟨hP1, hK1, hD1⟩ := hB
  replace hw := hw.symm
  subst hw
  rw [ht] at hP1
  obtain ⟨hP, hD⟩ := va_join (wr := [cY h_Y h_O h_N h_B h_G h_K Y_lo Y_ie Y_ra Y_to Y_te Y_re, cL h_O k_O 8 O_f, cI h_N k_N 8 N_f, cI h_B k_B 8 B_f]) (w1 := []) hP hD [] [0, 1, 2, 3] rfl rfl (by decide) (by decide) hk1 hFc hP1 hD1
  generalize H1 = H at hP hS ⊢
  have hP := hP.sub (ws' := [cY h_Y h_O h_N h_B h_G h_K Y_lo Y_ie Y_ra Y_to Y_te Y_re, cL h_O k_O 8 O_f, cI h_N k_N 8 N_f, cI h_B k_B 8 B_f]) [0, 1, 2, 3] rfl
  have hD := hD.sub (ws' := [cY h_Y h_O h_N h_B h_G h_K Y_lo Y_ie Y_ra Y_to Y_te Y_re, cL h_O k_O 8 O_f, cI h_N k_N 8 N_f, cI h_B k_B 8 B_f]) [0, 1, 2, 3] (by decide) rfl
  refine lv_if_ne (tgt := 39) hx hb d_Y_set_4 (by decide) (fun c_4 => ?_) (fun c_4 => ?_)
  · replace hF := hif_f c_4 hF
    refine lv_iconst (v := (-1 : Int32)) hx hb d_Y_set_39 (by decide) ?_
    obtain rfl := Option.some.inj hF
    exact W.iret (v := (-1 : Int32)) hx hb hr (fun t ht hW => ⟨⟨(-1 : Int32), (), rfl, rfl, by rw [ht]; exact hP, va_K.moved hW.alike hK, hD⟩, hS.F ht⟩) hS.2.2 d_Y_set_40
  · replace hF := hif_t c_4 hF
    refine lv_lload_n hx hb d_Y_set_7 rfl (lv_at hl 2 rfl) ?_
    refine lv_ldc2 (v := (-9007199254740991 : Int64)) hx hb hown (hts _ tw_356) d_Y_set_8 ?_
    refine W.lcmp hx hb d_Y_set_11 ?_
    refine lv_if_lt (tgt := 39) hx hb d_Y_set_12 (by decide) (fun c_12 => ?_) (fun c_12 => ?_)
    · replace hF := hif_t c_12 hF
      refine lv_iconst (v := (-1 : Int32)) hx hb d_Y_set_39 (by decide) ?_
      obtain rfl := Option.some.inj hF
      exact W.iret (v := (-1 : Int32)) hx hb hr (fun t ht hW => ⟨⟨(-1 : Int32), (), rfl, rfl, by rw [ht]; exact hP, va_K.moved hW.alike hK, hD⟩, hS.F ht⟩) hS.2.2 d_Y_set_40
    · replace hF := hif_f c_12 hF
      refine lv_lload_n hx hb d_Y_set_15 rfl (lv_at hl 2 rfl) ?_
      refine lv_ldc2 (v := (9007199254740991 : Int64)) hx hb hown (hts _ tw_357) d_Y_set_16 ?_
      refine W.lcmp hx hb d_Y_set_19 ?_
      refine lv_if_gt (tgt := 39) hx hb d_Y_set_20 (by decide) (fun c_20 => ?_) (fun c_20 => ?_)
      · replace hF := hif_t c_20 hF
        refine lv_iconst (v := (-1 : Int32)) hx hb d_Y_set_39 (by decide) ?_
        obtain rfl := Option.some.inj hF
        exact W.iret (v := (-1 : Int32)) hx hb hr (fun t ht hW => ⟨⟨(-1 : Int32), (), rfl, rfl, by rw [ht]; exact hP, va_K.moved hW.alike hK, hD⟩, hS.F ht⟩) hS.2.2 d_Y_set_40
      · replace hF := hif_f c_20 hF
        refine lv_iload hx hb d_Y_set_23 (lv_at hl 3 rfl) ?_
        refine lv_sipush (v := (-250 : Int32)) hx hb d_Y_set_25 (by decide) ?_
        refine lv_icmp_lt (tgt := 39) hx hb d_Y_set_28 (by decide) (fun c_28 => ?_) (fun c_28 => ?_)
        · replace hF := hif_t c_28 hF
          refine lv_iconst (v := (-1 : Int32)) hx hb d_Y_set_39 (by decide) ?_
          obtain rfl := Option.some.inj hF
          exact W.iret (v := (-1 : Int32)) hx hb hr (fun t ht hW => ⟨⟨(-1 : Int32), (), rfl, rfl, by rw [ht]; exact hP, va_K.moved hW.alike hK, hD⟩, hS.F ht⟩) hS.2.2 d_Y_set_40
        · replace hF := hif_f c_28 hF
          refine lv_iload hx hb d_Y_set_31 (lv_at hl 3 rfl) ?_
          refine lv_sipush (v := (250 : Int32)) hx hb d_Y_set_33 (by decide) ?_
          refine lv_icmp_le (tgt := 41) hx hb d_Y_set_36 (by decide) (fun c_36 => ?_) (fun c_36 => ?_)
          · replace hF := hif_t c_36 hF
            refine lv_lload_n hx hb d_Y_set_41 rfl (lv_at hl 2 rfl) ?_
            refine lv_lconst (v := (0 : Int64)) hx hb d_Y_set_42 (by decide) ?_
            refine W.lcmp hx hb d_Y_set_43 ?_
            refine lv_if_ge (tgt := 52) hx hb d_Y_set_44 (by decide) (fun c_44 => ?_) (fun c_44 => ?_)
            · replace hF := hif_t c_44 hF
              refine lv_lload_n hx hb d_Y_set_52 rfl (lv_at hl 2 rfl) ?_
              exact b_53 a1 a2 a3 a2 Y_ra O_f N_f B_f Y_lo Y_ie Y_to Y_te Y_re _ _ _ hP hD hS (lv_sub hl [0, 1, 2, 3] rfl) hF
            · replace hF := hif_f c_44 hF
              refine lv_lload_n hx hb d_Y_set_47 rfl (lv_at hl 2 rfl) ?_
              refine lv_lneg hx hb d_Y_set_48 ?_
              refine lv_goto (tgt := 53) hx hb d_Y_set_49 (by decide) ?_
              exact b_53 a1 a2 a3 (-a2) Y_ra O_f N_f B_f Y_lo Y_ie Y_to Y_te Y_re _ _ _ hP hD hS (lv_sub hl [0, 1, 2, 3] rfl) hF
          · replace hF := hif_f c_36 hF
            refine lv_iconst (v := (-1 : Int32)) hx hb d_Y_set_39 (by decide) ?_
            obtain rfl := Option.some.inj hF
            exact W.iret (v := (-1 : Int32)) hx hb hr (fun t ht hW => ⟨⟨(-1 : Int32), (), rfl, rfl, by rw [ht]; exact hP, va_K.moved hW.alike hK, hD⟩, hS.F ht⟩) hS.2.2 d_Y_set_40
set_option maxHeartbeats 4000000 in
set_option maxRecDepth 100000 in
theorem c_Y_refused (l : Launch) (dC : Nat → ClassId) (dI : Nat → Nat → Nat) (h_Y : Nat) (h_O : Nat) (h_N : Nat) (h_B : Nat) (h_G : Nat) (h_K : Nat) (k_O : ClassId) (sz : Nat) (Y_lo : Int32) (Y_ie : Int32) (Y_ra : Int32) (Y_to : Int64) (Y_te : Int32) (Y_re : Int32) (O_f : Nat → Int64) (a1 : Int32) (a2 : Int32) (a3 : Int32) (a4 : Int32) (o : Int32) (hF : f_Y_refused O_f a1 a2 a3 a4 = some o) : Met l y_Y_refused w_Y_refused ({ frames := 1, cells := 0, slots := 0, locals := 21 } : Room) (va_Pc [.ref h_Y, .int a1, .int a2, .int a3, .int a4] (fun U => U.heap.size = sz ∧ va_P (dC, dI) classes [cY h_Y h_O h_N h_B h_G h_K Y_lo Y_ie Y_ra Y_to Y_te Y_re, cL h_O k_O 8 O_f] U.heap ∧ va_K (dC, dI) classes [(k_O, .long)] U ∧ va_D (fun _ => True) [cY h_Y h_O h_N h_B h_G h_K Y_lo Y_ie Y_ra Y_to Y_te Y_re, cL h_O k_O 8 O_f])) (va_Qi (fun (r : Int32) (_ : Unit) => r = o) (fun (_ : Unit) (t : State) => va_P (dC, dI) classes [cY h_Y h_O h_N h_B h_G h_K Y_lo Y_ie Y_ra Y_to Y_te Y_re, cL h_O k_O 8 O_f] t.heap ∧ va_K (dC, dI) classes [(k_O, .long)] t ∧ va_D (va_A [cY h_Y h_O h_N h_B h_G h_K Y_lo Y_ie Y_ra Y_to Y_te Y_re, cL h_O k_O 8 O_f] sz) [cY h_Y h_O h_N h_B h_G h_K Y_lo Y_ie Y_ra Y_to Y_te Y_re, cL h_O k_O 8 O_f]) (va_A [cY h_Y h_O h_N h_B h_G h_K Y_lo Y_ie Y_ra Y_to Y_te Y_re, cL h_O k_O 8 O_f] sz)) 0 0 (va_A [cY h_Y h_O h_N h_B h_G h_K Y_lo Y_ie Y_ra Y_to Y_te Y_re, cL h_O k_O 8 O_f] sz) := by
  refine Met.ofW (cc := prog_4_method_20_code) (maxL := 5) (ret := (some .boolean)) (by decide) rfl ?_
  intro p e s m args below meth c s₁ B hml hv
  obtain ⟨rfl, hsz, hP, hK, hD0⟩ := hv
  have hx := B.exec
  have hb := B.bytes
  have hr := B.returns
  have hts0 := atoms_spec (ws := w_Y_refused) B.pre
  have hts : ∀ w ∈ tb, w.before _ s = true := fun w h => hts0 w (List.mem_cons_of_mem _ h)
  clear hts0
  have hown : s.vm.findClass "RoundedNumbersModel" = some m.cls := findClass_of_methodNamed B.named
  have hlocks := B.notSynchronized
  subst hsz
  have hD := hD0.self (sz := s.heap.size)
  generalize hAe : va_A [cY h_Y h_O h_N h_B h_G h_K Y_lo Y_ie Y_ra Y_to Y_te Y_re, cL h_O k_O 8 O_f] s.heap.size = A at hD ⊢
  have hA : ∀ q : Nat, s.heap.size ≤ q → A q := fun q h => by rw [← hAe]; exact Or.inr h
  clear hAe
  have hS : va_S A s.heap s.heap [] := va_S.rf
  have hP : va_P (dC, dI) classes [cY h_Y h_O h_N h_B h_G h_K Y_lo Y_ie Y_ra Y_to Y_te Y_re, cL h_O k_O 8 O_f] s.heap := hP
  have hl := lv_entry ([.ref h_Y, .int a1, .int a2, .int a3, .int a4]) (n := 5) (Nat.le_of_ble_eq_true rfl)
  rw [lg_entry_eq]
  generalize (lg_sl ([.ref h_Y, .int a1, .int a2, .int a3, .int a4]) ++ List.replicate (5 - (lg_sl ([.ref h_Y, .int a1, .int a2, .int a3, .int a4])).length) Slot.unset).toArray = ls at hl ⊢
  have hl : lv_has ls 5 [(0, .ref h_Y), (1, .int a1), (2, .int a2), (3, .int a3), (4, .int a4)] := hl
  unfold f_Y_refused at hF
  refine lv_iload_n hx hb d_Y_refused_0 rfl (lv_at hl 1 rfl) ?_
  obtain ⟨q_1, hC_1, hF⟩ := hbd hF
  have hPc := hP.sub (ws' := []) [] rfl
  have hDc := hD.sub (ws' := []) [] (by decide) rfl
  have hKc := hK.sub (tys' := []) [] rfl
  have hFc := va_free (wc := []) hD hS hA [] rfl
  refine va_calli (va_runS (As := [.int a1]) (rest := []) ⟨hx, hb, hml, hown, hts⟩ (c_Y_out l dC dI s.heap.size a1 q_1 hC_1) (cwS 1 hts g_Y_101_Y_out rfl rfl rfl (by decide +kernel) ⟨Nat.le_of_ble_eq_true rfl, Nat.le_of_ble_eq_true rfl⟩) ⟨fun a U g mk q => by obtain ⟨q0, q1, qP, qK, qD⟩ := q; exact ⟨q0, q1, qP, va_K.moved (u := U) (U := U.calling g mk a) (Vm.Alike.refl U.vm) qK, qD⟩, fun U hU hW => ⟨rfl, by rw [hU], by rw [hU]; exact hPc, va_K.moved hW.alike hKc, hDc.weaken (fun _ _ _ _ => trivial)⟩⟩ rfl rfl hl.1 rfl (lv_room (Nat.le_of_ble_eq_true rfl)) d_Y_refused_1 ⟨Nat.zero_le _, Nat.zero_le _⟩) hS (fun q _ h => hFc q h) hFc (fun r u t H1 locs ht hvm hw hB hz1 hk1 hS => ?_)
  obtain ⟨hP1, hK1, hD1⟩ := hB
  replace hw := hw.symm
  subst hw
  rw [ht] at hP1
  obtain ⟨hP, hD⟩ := va_join (wr := [cY h_Y h_O h_N h_B h_G h_K Y_lo Y_ie Y_ra Y_to Y_te Y_re, cL h_O k_O 8 O_f]) (w1 := []) hP hD [] [0, 1] rfl rfl (by decide) (by decide) hk1 hFc hP1 hD1
  generalize H1 = H at hP hS ⊢
  have hP := hP.sub (ws' := [cY h_Y h_O h_N h_B h_G h_K Y_lo Y_ie Y_ra Y_to Y_te Y_re, cL h_O k_O 8 O_f]) [0, 1] rfl
  have hD := hD.sub (ws' := [cY h_Y h_O h_N h_B h_G h_K Y_lo Y_ie Y_ra Y_to Y_te Y_re, cL h_O k_O 8 O_f]) [0, 1] (by decide) rfl
  refine lv_if_ne (tgt := 42) hx hb d_Y_refused_4 (by decide) (fun c_4 => ?_) (fun c_4 => ?_)
  · replace hF := hif_f c_4 hF
    refine lv_iconst (v := (1 : Int32)) hx hb d_Y_refused_42 (by decide) ?_
    refine lv_goto (tgt := 47) hx hb d_Y_refused_43 (by decide) ?_
    obtain rfl := Option.some.inj hF
    exact W.zret (v := (1 : Int32)) (ty := .boolean) hx hb hr rfl (fun t ht hW => ⟨⟨(1 : Int32), (), rfl, rfl, by rw [ht]; exact hP, va_K.moved hW.alike hK, hD⟩, hS.F ht⟩) hS.2.2 d_Y_refused_47
  · replace hF := hif_t c_4 hF
    refine lv_iload_n hx hb d_Y_refused_7 rfl (lv_at hl 2 rfl) ?_
    obtain ⟨q_8, hC_8, hF⟩ := hbd hF
    have hPc := hP.sub (ws' := []) [] rfl
    have hDc := hD.sub (ws' := []) [] (by decide) rfl
    have hKc := hK.sub (tys' := []) [] rfl
    have hFc := va_free (wc := []) hD hS hA [] rfl
    refine va_calli (va_runS (As := [.int a2]) (rest := []) ⟨hx, hb, hml, hown, hts⟩ (c_Y_out l dC dI H.size a2 q_8 hC_8) (cwS 1 hts g_Y_101_Y_out rfl rfl rfl (by decide +kernel) ⟨Nat.le_of_ble_eq_true rfl, Nat.le_of_ble_eq_true rfl⟩) ⟨fun a U g mk q => by obtain ⟨q0, q1, qP, qK, qD⟩ := q; exact ⟨q0, q1, qP, va_K.moved (u := U) (U := U.calling g mk a) (Vm.Alike.refl U.vm) qK, qD⟩, fun U hU hW => ⟨rfl, by rw [hU], by rw [hU]; exact hPc, va_K.moved hW.alike hKc, hDc.weaken (fun _ _ _ _ => trivial)⟩⟩ rfl rfl hl.1 rfl (lv_room (Nat.le_of_ble_eq_true rfl)) d_Y_refused_8 ⟨Nat.zero_le _, Nat.zero_le _⟩) hS (fun q _ h => hFc q h) hFc (fun r u t H1 locs ht hvm hw hB hz1 hk1 hS => ?_)
    obtain ⟨hP1, hK1, hD1⟩ := hB
    replace hw := hw.symm
    subst hw
    rw [ht] at hP1
    obtain ⟨hP, hD⟩ := va_join (wr := [cY h_Y h_O h_N h_B h_G h_K Y_lo Y_ie Y_ra Y_to Y_te Y_re, cL h_O k_O 8 O_f]) (w1 := []) hP hD [] [0, 1] rfl rfl (by decide) (by decide) hk1 hFc hP1 hD1
    generalize H1 = H at hP hS ⊢
    have hP := hP.sub (ws' := [cY h_Y h_O h_N h_B h_G h_K Y_lo Y_ie Y_ra Y_to Y_te Y_re, cL h_O k_O 8 O_f]) [0, 1] rfl
    have hD := hD.sub (ws' := [cY h_Y h_O h_N h_B h_G h_K Y_lo Y_ie Y_ra Y_to Y_te Y_re, cL h_O k_O 8 O_f]) [0, 1] (by decide) rfl
    refine lv_if_ne (tgt := 42) hx hb d_Y_refused_11 (by decide) (fun c_11 => ?_) (fun c_11 => ?_)
    · replace hF := hif_f c_11 hF
      refine lv_iconst (v := (1 : Int32)) hx hb d_Y_refused_42 (by decide) ?_
      refine lv_goto (tgt := 47) hx hb d_Y_refused_43 (by decide) ?_
      obtain rfl := Option.some.inj hF
      exact W.zret (v := (1 : Int32)) (ty := .boolean) hx hb hr rfl (fun t ht hW => ⟨⟨(1 : Int32), (), rfl, rfl, by rw [ht]; exact hP, va_K.moved hW.alike hK, hD⟩, hS.F ht⟩) hS.2.2 d_Y_refused_47
    · replace hF := hif_t c_11 hF
      refine lv_iload_n hx hb d_Y_refused_14 rfl (lv_at hl 3 rfl) ?_
      obtain ⟨q_15, hC_15, hF⟩ := hbd hF
      have hPc := hP.sub (ws' := []) [] rfl
      have hDc := hD.sub (ws' := []) [] (by decide) rfl
      have hKc := hK.sub (tys' := []) [] rfl
      have hFc := va_free (wc := []) hD hS hA [] rfl
      refine va_calli (va_runS (As := [.int a3]) (rest := []) ⟨hx, hb, hml, hown, hts⟩ (c_Y_out l dC dI H.size a3 q_15 hC_15) (cwS 1 hts g_Y_101_Y_out rfl rfl rfl (by decide +kernel) ⟨Nat.le_of_ble_eq_true rfl, Nat.le_of_ble_eq_true rfl⟩) ⟨fun a U g mk q => by obtain ⟨q0, q1, qP, qK, qD⟩ := q; exact ⟨q0, q1, qP, va_K.moved (u := U) (U := U.calling g mk a) (Vm.Alike.refl U.vm) qK, qD⟩, fun U hU hW => ⟨rfl, by rw [hU], by rw [hU]; exact hPc, va_K.moved hW.alike hKc, hDc.weaken (fun _ _ _ _ => trivial)⟩⟩ rfl rfl hl.1 rfl (lv_room (Nat.le_of_ble_eq_true rfl)) d_Y_refused_15 ⟨Nat.zero_le _, Nat.zero_le _⟩) hS (fun q _ h => hFc q h) hFc (fun r u t H1 locs ht hvm hw hB hz1 hk1 hS => ?_)
      obtain ⟨hP1, hK1, hD1⟩ := hB
      replace hw := hw.symm
      subst hw
      rw [ht] at hP1
      obtain ⟨hP, hD⟩ := va_join (wr := [cY h_Y h_O h_N h_B h_G h_K Y_lo Y_ie Y_ra Y_to Y_te Y_re, cL h_O k_O 8 O_f]) (w1 := []) hP hD [] [0, 1] rfl rfl (by decide) (by decide) hk1 hFc hP1 hD1
      generalize H1 = H at hP hS ⊢
      have hP := hP.sub (ws' := [cY h_Y h_O h_N h_B h_G h_K Y_lo Y_ie Y_ra Y_to Y_te Y_re, cL h_O k_O 8 O_f]) [0, 1] rfl
      have hD := hD.sub (ws' := [cY h_Y h_O h_N h_B h_G h_K Y_lo Y_ie Y_ra Y_to Y_te Y_re, cL h_O k_O 8 O_f]) [0, 1] (by decide) rfl
      refine lv_if_ne (tgt := 42) hx hb d_Y_refused_18 (by decide) (fun c_18 => ?_) (fun c_18 => ?_)
      · replace hF := hif_f c_18 hF
        refine lv_iconst (v := (1 : Int32)) hx hb d_Y_refused_42 (by decide) ?_
        refine lv_goto (tgt := 47) hx hb d_Y_refused_43 (by decide) ?_
        obtain rfl := Option.some.inj hF
        exact W.zret (v := (1 : Int32)) (ty := .boolean) hx hb hr rfl (fun t ht hW => ⟨⟨(1 : Int32), (), rfl, rfl, by rw [ht]; exact hP, va_K.moved hW.alike hK, hD⟩, hS.F ht⟩) hS.2.2 d_Y_refused_47
      · replace hF := hif_t c_18 hF
        refine lv_iload hx hb d_Y_refused_21 (lv_at hl 4 rfl) ?_
        refine lv_if_eq (tgt := 46) hx hb d_Y_refused_23 (by decide) (fun c_23 => ?_) (fun c_23 => ?_)
        · replace hF := hif_t c_23 hF
          refine lv_iconst (v := (0 : Int32)) hx hb d_Y_refused_46 (by decide) ?_
          obtain rfl := Option.some.inj hF
          exact W.zret (v := (0 : Int32)) (ty := .boolean) hx hb hr rfl (fun t ht hW => ⟨⟨(0 : Int32), (), rfl, rfl, by rw [ht]; exact hP, va_K.moved hW.alike hK, hD⟩, hS.F ht⟩) hS.2.2 d_Y_refused_47
        · replace hF := hif_f c_23 hF
          refine lv_aload_n hx hb d_Y_refused_26 rfl (lv_at hl 0 rfl) ?_
          refine lv_iload_n hx hb d_Y_refused_27 rfl (lv_at hl 2 rfl) ?_
          obtain ⟨q_28, hC_28, hF⟩ := hbd hF
          have hPc := hP.sub (ws' := [cY h_Y h_O h_N h_B h_G h_K Y_lo Y_ie Y_ra Y_to Y_te Y_re, cL h_O k_O 8 O_f]) [0, 1] rfl
          have hDc := hD.sub (ws' := [cY h_Y h_O h_N h_B h_G h_K Y_lo Y_ie Y_ra Y_to Y_te Y_re, cL h_O k_O 8 O_f]) [0, 1] (by decide) rfl
          have hKc := hK.sub (tys' := [(k_O, .long)]) [0] rfl
          have hFc := va_free (wc := [cY h_Y h_O h_N h_B h_G h_K Y_lo Y_ie Y_ra Y_to Y_te Y_re, cL h_O k_O 8 O_f]) hD hS hA [0, 1] rfl
          refine va_calli (va_runV (As := [.int a2]) (rest := []) ⟨hx, hb, hml, hown, hts⟩ (c_Y_narrow l dC dI h_Y h_O h_N h_B h_G h_K k_O H.size Y_lo Y_ie Y_ra Y_to Y_te Y_re O_f a2 q_28 hC_28) (cwV 1 hts g_Y_109_Y_narrow rfl rfl rfl (by decide +kernel) ⟨Nat.le_of_ble_eq_true rfl, Nat.le_of_ble_eq_true rfl⟩) ⟨fun a U g mk q => by obtain ⟨q0, q1, qP, qK, qD⟩ := q; exact ⟨q0, q1, qP, va_K.moved (u := U) (U := U.calling g mk a) (Vm.Alike.refl U.vm) qK, qD⟩, va_recv hKc hPc (ci := 2) (q0 := 0) rfl rfl, fun U hU hW => ⟨rfl, by rw [hU], by rw [hU]; exact hPc, va_K.moved hW.alike hKc, hDc.weaken (fun _ _ _ _ => trivial)⟩⟩ rfl rfl hl.1 rfl (lv_room (Nat.le_of_ble_eq_true rfl)) d_Y_refused_28 ⟨Nat.zero_le _, Nat.zero_le _⟩) hS (fun q _ h => hFc q h) hFc (fun r u t H1 locs ht hvm hw hB hz1 hk1 hS => ?_)
          obtain ⟨hP1, hK1, hD1⟩ := hB
          replace hw := hw.symm
          subst hw
          rw [ht] at hP1
          obtain ⟨hP, hD⟩ := va_join (wr := []) (w1 := [cY h_Y h_O h_N h_B h_G h_K Y_lo Y_ie Y_ra Y_to Y_te Y_re, cL h_O k_O 8 O_f]) hP hD [0, 1] [] rfl rfl (by decide) (by decide) hk1 hFc hP1 hD1
          generalize H1 = H at hP hS ⊢
          have hP := hP.sub (ws' := [cY h_Y h_O h_N h_B h_G h_K Y_lo Y_ie Y_ra Y_to Y_te Y_re, cL h_O k_O 8 O_f]) [0, 1] rfl
          have hD := hD.sub (ws' := [cY h_Y h_O h_N h_B h_G h_K Y_lo Y_ie Y_ra Y_to Y_te Y_re, cL h_O k_O 8 O_f]) [0, 1] (by decide) rfl
          refine lv_if_eq (tgt := 42) hx hb d_Y_refused_31 (by decide) (fun c_31 => ?_) (fun c_31 => ?_)
          · replace hF := hif_t c_31 hF
            refine lv_iconst (v := (1 : Int32)) hx hb d_Y_refused_42 (by decide) ?_
            refine lv_goto (tgt := 47) hx hb d_Y_refused_43 (by decide) ?_
            obtain rfl := Option.some.inj hF
            exact W.zret (v := (1 : Int32)) (ty := .boolean) hx hb hr rfl (fun t ht hW => ⟨⟨(1 : Int32), (), rfl, rfl, by rw [ht]; exact hP, va_K.moved hW.alike hK, hD⟩, hS.F ht⟩) hS.2.2 d_Y_refused_47
          · replace hF := hif_f c_31 hF
            refine lv_aload_n hx hb d_Y_refused_34 rfl (lv_at hl 0 rfl) ?_
            refine lv_iload_n hx hb d_Y_refused_35 rfl (lv_at hl 3 rfl) ?_
            obtain ⟨q_36, hC_36, hF⟩ := hbd hF
            have hPc := hP.sub (ws' := [cY h_Y h_O h_N h_B h_G h_K Y_lo Y_ie Y_ra Y_to Y_te Y_re, cL h_O k_O 8 O_f]) [0, 1] rfl
            have hDc := hD.sub (ws' := [cY h_Y h_O h_N h_B h_G h_K Y_lo Y_ie Y_ra Y_to Y_te Y_re, cL h_O k_O 8 O_f]) [0, 1] (by decide) rfl
            have hKc := hK.sub (tys' := [(k_O, .long)]) [0] rfl
            have hFc := va_free (wc := [cY h_Y h_O h_N h_B h_G h_K Y_lo Y_ie Y_ra Y_to Y_te Y_re, cL h_O k_O 8 O_f]) hD hS hA [0, 1] rfl
            refine va_calli (va_runV (As := [.int a3]) (rest := []) ⟨hx, hb, hml, hown, hts⟩ (c_Y_narrow l dC dI h_Y h_O h_N h_B h_G h_K k_O H.size Y_lo Y_ie Y_ra Y_to Y_te Y_re O_f a3 q_36 hC_36) (cwV 1 hts g_Y_109_Y_narrow rfl rfl rfl (by decide +kernel) ⟨Nat.le_of_ble_eq_true rfl, Nat.le_of_ble_eq_true rfl⟩) ⟨fun a U g mk q => by obtain ⟨q0, q1, qP, qK, qD⟩ := q; exact ⟨q0, q1, qP, va_K.moved (u := U) (U := U.calling g mk a) (Vm.Alike.refl U.vm) qK, qD⟩, va_recv hKc hPc (ci := 2) (q0 := 0) rfl rfl, fun U hU hW => ⟨rfl, by rw [hU], by rw [hU]; exact hPc, va_K.moved hW.alike hKc, hDc.weaken (fun _ _ _ _ => trivial)⟩⟩ rfl rfl hl.1 rfl (lv_room (Nat.le_of_ble_eq_true rfl)) d_Y_refused_36 ⟨Nat.zero_le _, Nat.zero_le _⟩) hS (fun q _ h => hFc q h) hFc (fun r u t H1 locs ht hvm hw hB hz1 hk1 hS => ?_)
            obtain ⟨hP1, hK1, hD1⟩ := hB
            replace hw := hw.symm
            subst hw
            rw [ht] at hP1
            obtain ⟨hP, hD⟩ := va_join (wr := []) (w1 := [cY h_Y h_O h_N h_B h_G h_K Y_lo Y_ie Y_ra Y_to Y_te Y_re, cL h_O k_O 8 O_f]) hP hD [0, 1] [] rfl rfl (by decide) (by decide) hk1 hFc hP1 hD1
            generalize H1 = H at hP hS ⊢
            have hP := hP.sub (ws' := [cY h_Y h_O h_N h_B h_G h_K Y_lo Y_ie Y_ra Y_to Y_te Y_re, cL h_O k_O 8 O_f]) [0, 1] rfl
            have hD := hD.sub (ws' := [cY h_Y h_O h_N h_B h_G h_K Y_lo Y_ie Y_ra Y_to Y_te Y_re, cL h_O k_O 8 O_f]) [0, 1] (by decide) rfl
            refine lv_if_ne (tgt := 46) hx hb d_Y_refused_39 (by decide) (fun c_39 => ?_) (fun c_39 => ?_)
            · replace hF := hif_f c_39 hF
              refine lv_iconst (v := (0 : Int32)) hx hb d_Y_refused_46 (by decide) ?_
              obtain rfl := Option.some.inj hF
              exact W.zret (v := (0 : Int32)) (ty := .boolean) hx hb hr rfl (fun t ht hW => ⟨⟨(0 : Int32), (), rfl, rfl, by rw [ht]; exact hP, va_K.moved hW.alike hK, hD⟩, hS.F ht⟩) hS.2.2 d_Y_refused_47
            · replace hF := hif_t c_39 hF
              refine lv_iconst (v := (1 : Int32)) hx hb d_Y_refused_42 (by decide) ?_
              refine lv_goto (tgt := 47) hx hb d_Y_refused_43 (by decide) ?_
              obtain rfl := Option.some.inj hF
              exact W.zret (v := (1 : Int32)) (ty := .boolean) hx hb hr rfl (fun t ht hW => ⟨⟨(1 : Int32), (), rfl, rfl, by rw [ht]; exact hP, va_K.moved hW.alike hK, hD⟩, hS.F ht⟩) hS.2.2 d_Y_refused_47
set_option maxHeartbeats 4000000 in
set_option maxRecDepth 100000 in
theorem c_Y_addition (l : Launch) (dC : Nat → ClassId) (dI : Nat → Nat → Nat) (h_Y : Nat) (h_O : Nat) (h_N : Nat) (h_B : Nat) (h_G : Nat) (h_K : Nat) (k_O : ClassId) (k_N : ClassId) (k_B : ClassId) (k_G : ClassId) (k_K : ClassId) (sz : Nat) (Y_lo : Int32) (Y_ie : Int32) (Y_ra : Int32) (Y_to : Int64) (Y_te : Int32) (Y_re : Int32) (O_f : Nat → Int64) (N_f : Nat → Int32) (B_f : Nat → Int32) (G_f : Nat → Int32) (K_f : Nat → Int32) (a1 : Int32) (a2 : Int32) (a3 : Int32) (a4 : Int32) (a5 : Int32) (o : Int32 × Int32 × Int32 × Int32 × Int64 × Int32 × Int32 × (Nat → Int64) × (Nat → Int32) × (Nat → Int32) × (Nat → Int32) × (Nat → Int32)) (hF : f_Y_addition Y_lo Y_ie Y_ra Y_to Y_te Y_re O_f N_f B_f G_f K_f a1 a2 a3 a4 a5 = some o) : Met l y_Y_addition w_Y_addition ({ frames := 5, cells := 0, slots := 0, locals := 130 } : Room) (va_Pc [.ref h_Y, .int a1, .int a2, .int a3, .int a4, .int a5] (fun U => U.heap.size = sz ∧ va_P (dC, dI) classes [cY h_Y h_O h_N h_B h_G h_K Y_lo Y_ie Y_ra Y_to Y_te Y_re, cL h_O k_O 8 O_f, cI h_N k_N 8 N_f, cI h_B k_B 8 B_f, cI h_G k_G 30 G_f, cI h_K k_K 30 K_f] U.heap ∧ va_K (dC, dI) classes [(k_O, .long), (k_N, .int), (k_B, .boolean), (k_G, .int), (k_K, .int)] U ∧ va_D (fun _ => True) [cY h_Y h_O h_N h_B h_G h_K Y_lo Y_ie Y_ra Y_to Y_te Y_re, cL h_O k_O 8 O_f, cI h_N k_N 8 N_f, cI h_B k_B 8 B_f, cI h_G k_G 30 G_f, cI h_K k_K 30 K_f])) (va_Qi (fun (r : Int32) (_ : Unit) => r = o.1) (fun (_ : Unit) (t : State) => va_P (dC, dI) classes [cY h_Y h_O h_N h_B h_G h_K o.2.1 o.2.2.1 o.2.2.2.1 o.2.2.2.2.1 o.2.2.2.2.2.1 o.2.2.2.2.2.2.1, cL h_O k_O 8 o.2.2.2.2.2.2.2.1, cI h_N k_N 8 o.2.2.2.2.2.2.2.2.1, cI h_B k_B 8 o.2.2.2.2.2.2.2.2.2.1, cI h_G k_G 30 o.2.2.2.2.2.2.2.2.2.2.1, cI h_K k_K 30 o.2.2.2.2.2.2.2.2.2.2.2] t.heap ∧ va_K (dC, dI) classes [(k_O, .long), (k_N, .int), (k_B, .boolean), (k_G, .int), (k_K, .int)] t ∧ va_D (va_A [cY h_Y h_O h_N h_B h_G h_K Y_lo Y_ie Y_ra Y_to Y_te Y_re, cL h_O k_O 8 O_f, cI h_N k_N 8 N_f, cI h_B k_B 8 B_f, cI h_G k_G 30 G_f, cI h_K k_K 30 K_f] sz) [cY h_Y h_O h_N h_B h_G h_K o.2.1 o.2.2.1 o.2.2.2.1 o.2.2.2.2.1 o.2.2.2.2.2.1 o.2.2.2.2.2.2.1, cL h_O k_O 8 o.2.2.2.2.2.2.2.1, cI h_N k_N 8 o.2.2.2.2.2.2.2.2.1, cI h_B k_B 8 o.2.2.2.2.2.2.2.2.2.1, cI h_G k_G 30 o.2.2.2.2.2.2.2.2.2.2.1, cI h_K k_K 30 o.2.2.2.2.2.2.2.2.2.2.2]) (va_A [cY h_Y h_O h_N h_B h_G h_K Y_lo Y_ie Y_ra Y_to Y_te Y_re, cL h_O k_O 8 O_f, cI h_N k_N 8 N_f, cI h_B k_B 8 B_f, cI h_G k_G 30 G_f, cI h_K k_K 30 K_f] sz)) 0 0 (va_A [cY h_Y h_O h_N h_B h_G h_K Y_lo Y_ie Y_ra Y_to Y_te Y_re, cL h_O k_O 8 O_f, cI h_N k_N 8 N_f, cI h_B k_B 8 B_f, cI h_G k_G 30 G_f, cI h_K k_K 30 K_f] sz) := by
  refine Met.ofW (cc := prog_4_method_21_code) (maxL := 6) (ret := (some .int)) (by decide) rfl ?_
  intro p e s m args below meth c s₁ B hml hv
  obtain ⟨rfl, hsz, hP, hK, hD0⟩ := hv
  have hx := B.exec
  have hb := B.bytes
  have hr := B.returns
  have hts0 := atoms_spec (ws := w_Y_addition) B.pre
  have hts : ∀ w ∈ tb, w.before _ s = true := fun w h => hts0 w (List.mem_cons_of_mem _ h)
  clear hts0
  have hown : s.vm.findClass "RoundedNumbersModel" = some m.cls := findClass_of_methodNamed B.named
  have hlocks := B.notSynchronized
  subst hsz
  have hD := hD0.self (sz := s.heap.size)
  generalize hAe : va_A [cY h_Y h_O h_N h_B h_G h_K Y_lo Y_ie Y_ra Y_to Y_te Y_re, cL h_O k_O 8 O_f, cI h_N k_N 8 N_f, cI h_B k_B 8 B_f, cI h_G k_G 30 G_f, cI h_K k_K 30 K_f] s.heap.size = A at hD ⊢
  have hA : ∀ q : Nat, s.heap.size ≤ q → A q := fun q h => by rw [← hAe]; exact Or.inr h
  clear hAe
  have hS : va_S A s.heap s.heap [] := va_S.rf
  have hP : va_P (dC, dI) classes [cY h_Y h_O h_N h_B h_G h_K Y_lo Y_ie Y_ra Y_to Y_te Y_re, cL h_O k_O 8 O_f, cI h_N k_N 8 N_f, cI h_B k_B 8 B_f, cI h_G k_G 30 G_f, cI h_K k_K 30 K_f] s.heap := hP
  have hl := lv_entry ([.ref h_Y, .int a1, .int a2, .int a3, .int a4, .int a5]) (n := 6) (Nat.le_of_ble_eq_true rfl)
  rw [lg_entry_eq]
  generalize (lg_sl ([.ref h_Y, .int a1, .int a2, .int a3, .int a4, .int a5]) ++ List.replicate (6 - (lg_sl ([.ref h_Y, .int a1, .int a2, .int a3, .int a4, .int a5])).length) Slot.unset).toArray = ls at hl ⊢
  have hl : lv_has ls 6 [(0, .ref h_Y), (1, .int a1), (2, .int a2), (3, .int a3), (4, .int a4), (5, .int a5)] := hl
  have b_98 : ∀ (x4 : Int32) (y0 : Int32) (y1 : Int32) (y2 : Int32) (Y_lo : Int32) (Y_ie : Int32) (Y_ra : Int32) (Y_to : Int64) (Y_te : Int32) (Y_re : Int32) (O_f : Nat → Int64) (N_f : Nat → Int32) (B_f : Nat → Int32) (G_f : Nat → Int32) (K_f : Nat → Int32) (H : Heap) (locs : List Loc) (ls : Array Slot), va_P (dC, dI) classes [cY h_Y h_O h_N h_B h_G h_K Y_lo Y_ie Y_ra Y_to Y_te Y_re, cL h_O k_O 8 O_f, cI h_N k_N 8 N_f, cI h_B k_B 8 B_f, cI h_G k_G 30 G_f, cI h_K k_K 30 K_f] H → va_D A [cY h_Y h_O h_N h_B h_G h_K Y_lo Y_ie Y_ra Y_to Y_te Y_re, cL h_O k_O 8 O_f, cI h_N k_N 8 N_f, cI h_B k_B 8 B_f, cI h_G k_G 30 G_f, cI h_K k_K 30 K_f] → va_S A s.heap H locs → lv_has ls 6 [(4, .int x4)] → f_Y_addition_98  x4 y0 y1 y2 Y_lo Y_ie Y_ra Y_to Y_te Y_re O_f N_f B_f G_f K_f = some o → W p l e (headSpec w_Y_addition ({ frames := 5, cells := 0, slots := 0, locals := 130 } : Room)).room s m ([.ref h_Y, .int a1, .int a2, .int a3, .int a4, .int a5] : List Value).toArray below meth c H locs 0 0 (MQ below (va_Qi (fun (r : Int32) (_ : Unit) => r = o.1) (fun (_ : Unit) (t : State) => va_P (dC, dI) classes [cY h_Y h_O h_N h_B h_G h_K o.2.1 o.2.2.1 o.2.2.2.1 o.2.2.2.2.1 o.2.2.2.2.2.1 o.2.2.2.2.2.2.1, cL h_O k_O 8 o.2.2.2.2.2.2.2.1, cI h_N k_N 8 o.2.2.2.2.2.2.2.2.1, cI h_B k_B 8 o.2.2.2.2.2.2.2.2.2.1, cI h_G k_G 30 o.2.2.2.2.2.2.2.2.2.2.1, cI h_K k_K 30 o.2.2.2.2.2.2.2.2.2.2.2] t.heap ∧ va_K (dC, dI) classes [(k_O, .long), (k_N, .int), (k_B, .boolean), (k_G, .int), (k_K, .int)] t ∧ va_D A [cY h_Y h_O h_N h_B h_G h_K o.2.1 o.2.2.1 o.2.2.2.1 o.2.2.2.2.1 o.2.2.2.2.2.1 o.2.2.2.2.2.2.1, cL h_O k_O 8 o.2.2.2.2.2.2.2.1, cI h_N k_N 8 o.2.2.2.2.2.2.2.2.1, cI h_B k_B 8 o.2.2.2.2.2.2.2.2.2.1, cI h_G k_G 30 o.2.2.2.2.2.2.2.2.2.2.1, cI h_K k_K 30 o.2.2.2.2.2.2.2.2.2.2.2]) A) ([.ref h_Y, .int a1, .int a2, .int a3, .int a4, .int a5] : List Value).toArray s 0 0 A) (F0 m 98 ls [.int y0, .int y1, .int y2, .ref h_Y]) := by
    intro x4 y0 y1 y2 Y_lo Y_ie Y_ra Y_to Y_te Y_re O_f N_f B_f G_f K_f H locs ls hP hD hS hl hF
    unfold f_Y_addition_98 at hF
    refine lv_iload hx hb d_Y_addition_98 (lv_at hl 0 rfl) ?_
    obtain ⟨q_100, hC_100, hF⟩ := hbd hF
    have hPc := hP.sub (ws' := []) [] rfl
    have hDc := hD.sub (ws' := []) [] (by decide) rfl
    have hKc := hK.sub (tys' := []) [] rfl
    have hFc := va_free (wc := []) hD hS hA [] rfl
    refine va_calli (va_runS (As := [.int x4]) (rest := [.int y0, .int y1, .int y2, .ref h_Y]) ⟨hx, hb, hml, hown, hts⟩ (c_Y_size l dC dI H.size x4 q_100 hC_100) (cwS 1 hts g_Y_120_Y_size rfl rfl rfl (by decide +kernel) ⟨Nat.le_of_ble_eq_true rfl, Nat.le_of_ble_eq_true rfl⟩) ⟨fun a U g mk q => by obtain ⟨q0, q1, qP, qK, qD⟩ := q; exact ⟨q0, q1, qP, va_K.moved (u := U) (U := U.calling g mk a) (Vm.Alike.refl U.vm) qK, qD⟩, fun U hU hW => ⟨rfl, by rw [hU], by rw [hU]; exact hPc, va_K.moved hW.alike hKc, hDc.weaken (fun _ _ _ _ => trivial)⟩⟩ rfl rfl hl.1 rfl (lv_room (Nat.le_of_ble_eq_true rfl)) d_Y_addition_100 ⟨Nat.zero_le _, Nat.zero_le _⟩) hS (fun q _ h => hFc q h) hFc (fun r u t H1 locs ht hvm hw hB hz1 hk1 hS => ?_)
    obtain ⟨hP1, hK1, hD1⟩ := hB
    replace hw := hw.symm
    subst hw
    rw [ht] at hP1
    obtain ⟨hP, hD⟩ := va_join (wr := [cY h_Y h_O h_N h_B h_G h_K Y_lo Y_ie Y_ra Y_to Y_te Y_re, cL h_O k_O 8 O_f, cI h_N k_N 8 N_f, cI h_B k_B 8 B_f, cI h_G k_G 30 G_f, cI h_K k_K 30 K_f]) (w1 := []) hP hD [] [0, 1, 2, 3, 4, 5] rfl rfl (by decide) (by decide) hk1 hFc hP1 hD1
    generalize H1 = H at hP hS ⊢
    have hP := hP.sub (ws' := [cY h_Y h_O h_N h_B h_G h_K Y_lo Y_ie Y_ra Y_to Y_te Y_re, cL h_O k_O 8 O_f, cI h_N k_N 8 N_f, cI h_B k_B 8 B_f, cI h_G k_G 30 G_f, cI h_K k_K 30 K_f]) [0, 1, 2, 3, 4, 5] rfl
    have hD := hD.sub (ws' := [cY h_Y h_O h_N h_B h_G h_K Y_lo Y_ie Y_ra Y_to Y_te Y_re, cL h_O k_O 8 O_f, cI h_N k_N 8 N_f, cI h_B k_B 8 B_f, cI h_G k_G 30 G_f, cI h_K k_K 30 K_f]) [0, 1, 2, 3, 4, 5] (by decide) rfl
    obtain ⟨q_103, hC_103, hF⟩ := hbd hF
    have hPc := hP.sub (ws' := [cY h_Y h_O h_N h_B h_G h_K Y_lo Y_ie Y_ra Y_to Y_te Y_re, cL h_O k_O 8 O_f, cI h_N k_N 8 N_f, cI h_B k_B 8 B_f, cI h_G k_G 30 G_f, cI h_K k_K 30 K_f]) [0, 1, 2, 3, 4, 5] rfl
    have hDc := hD.sub (ws' := [cY h_Y h_O h_N h_B h_G h_K Y_lo Y_ie Y_ra Y_to Y_te Y_re, cL h_O k_O 8 O_f, cI h_N k_N 8 N_f, cI h_B k_B 8 B_f, cI h_G k_G 30 G_f, cI h_K k_K 30 K_f]) [0, 1, 2, 3, 4, 5] (by decide) rfl
    have hKc := hK.sub (tys' := [(k_O, .long), (k_N, .int), (k_B, .boolean), (k_G, .int), (k_K, .int)]) [0, 1, 2, 3, 4] rfl
    have hFc := va_free (wc := [cY h_Y h_O h_N h_B h_G h_K Y_lo Y_ie Y_ra Y_to Y_te Y_re, cL h_O k_O 8 O_f, cI h_N k_N 8 N_f, cI h_B k_B 8 B_f, cI h_G k_G 30 G_f, cI h_K k_K 30 K_f]) hD hS hA [0, 1, 2, 3, 4, 5] rfl
    refine va_calli (va_runV (As := [.int y2, .int y1, .int y0, .int q_100]) (rest := []) ⟨hx, hb, hml, hown, hts⟩ (c_Y_sum l dC dI h_Y h_O h_N h_B h_G h_K k_O k_N k_B k_G k_K H.size Y_lo Y_ie Y_ra Y_to Y_te Y_re O_f N_f B_f G_f K_f y2 y1 y0 q_100 q_103 hC_103) (cwV 4 hts g_Y_124_Y_sum rfl rfl rfl (by decide +kernel) ⟨Nat.le_of_ble_eq_true rfl, Nat.le_of_ble_eq_true rfl⟩) ⟨fun a U g mk q => by obtain ⟨q0, q1, qP, qK, qD⟩ := q; exact ⟨q0, q1, qP, va_K.moved (u := U) (U := U.calling g mk a) (Vm.Alike.refl U.vm) qK, qD⟩, va_recv hKc hPc (ci := 2) (q0 := 0) rfl rfl, fun U hU hW => ⟨rfl, by rw [hU], by rw [hU]; exact hPc, va_K.moved hW.alike hKc, hDc.weaken (fun _ _ _ _ => trivial)⟩⟩ rfl rfl hl.1 rfl (lv_room (Nat.le_of_ble_eq_true rfl)) d_Y_addition_103 ⟨Nat.zero_le _, Nat.zero_le _⟩) hS (fun q _ h => hFc q h) hFc (fun r u t H1 locs ht hvm hw hB hz1 hk1 hS => ?_)
    obtain ⟨hP1, hK1, hD1⟩ := hB
    replace hw := hw.symm
    subst hw
    rw [ht] at hP1
    obtain ⟨hP, hD⟩ := va_join (wr := []) (w1 := [cY h_Y h_O h_N h_B h_G h_K q_103.2.1 q_103.2.2.1 q_103.2.2.2.1 q_103.2.2.2.2.1 q_103.2.2.2.2.2.1 q_103.2.2.2.2.2.2.1, cL h_O k_O 8 q_103.2.2.2.2.2.2.2.1, cI h_N k_N 8 q_103.2.2.2.2.2.2.2.2.1, cI h_B k_B 8 q_103.2.2.2.2.2.2.2.2.2.1, cI h_G k_G 30 q_103.2.2.2.2.2.2.2.2.2.2.1, cI h_K k_K 30 q_103.2.2.2.2.2.2.2.2.2.2.2]) hP hD [0, 1, 2, 3, 4, 5] [] rfl rfl (by decide) (by decide) hk1 hFc hP1 hD1
    generalize H1 = H at hP hS ⊢
    have hP := hP.sub (ws' := [cY h_Y h_O h_N h_B h_G h_K q_103.2.1 q_103.2.2.1 q_103.2.2.2.1 q_103.2.2.2.2.1 q_103.2.2.2.2.2.1 q_103.2.2.2.2.2.2.1, cL h_O k_O 8 q_103.2.2.2.2.2.2.2.1, cI h_N k_N 8 q_103.2.2.2.2.2.2.2.2.1, cI h_B k_B 8 q_103.2.2.2.2.2.2.2.2.2.1, cI h_G k_G 30 q_103.2.2.2.2.2.2.2.2.2.2.1, cI h_K k_K 30 q_103.2.2.2.2.2.2.2.2.2.2.2]) [0, 1, 2, 3, 4, 5] rfl
    have hD := hD.sub (ws' := [cY h_Y h_O h_N h_B h_G h_K q_103.2.1 q_103.2.2.1 q_103.2.2.2.1 q_103.2.2.2.2.1 q_103.2.2.2.2.2.1 q_103.2.2.2.2.2.2.1, cL h_O k_O 8 q_103.2.2.2.2.2.2.2.1, cI h_N k_N 8 q_103.2.2.2.2.2.2.2.2.1, cI h_B k_B 8 q_103.2.2.2.2.2.2.2.2.2.1, cI h_G k_G 30 q_103.2.2.2.2.2.2.2.2.2.2.1, cI h_K k_K 30 q_103.2.2.2.2.2.2.2.2.2.2.2]) [0, 1, 2, 3, 4, 5] (by decide) rfl
    obtain rfl := Option.some.inj hF
    exact W.iret (v := q_103.1) hx hb hr (fun t ht hW => ⟨⟨q_103.1, (), rfl, rfl, by rw [ht]; exact hP, va_K.moved hW.alike hK, hD⟩, hS.F ht⟩) hS.2.2 d_Y_addition_106
  unfold f_Y_addition at hF
  refine lv_aload_n hx hb d_Y_addition_0 rfl (lv_at hl 0 rfl) ?_
  refine lv_iload_n hx hb d_Y_addition_1 rfl (lv_at hl 1 rfl) ?_
  refine lv_iload_n hx hb d_Y_addition_2 rfl (lv_at hl 2 rfl) ?_
  refine lv_iload_n hx hb d_Y_addition_3 rfl (lv_at hl 3 rfl) ?_
  refine lv_iload hx hb d_Y_addition_4 (lv_at hl 4 rfl) ?_
  obtain ⟨q_6, hC_6, hF⟩ := hbd hF
  have hPc := hP.sub (ws' := [cY h_Y h_O h_N h_B h_G h_K Y_lo Y_ie Y_ra Y_to Y_te Y_re, cL h_O k_O 8 O_f]) [0, 1] rfl
  have hDc := hD.sub (ws' := [cY h_Y h_O h_N h_B h_G h_K Y_lo Y_ie Y_ra Y_to Y_te Y_re, cL h_O k_O 8 O_f]) [0, 1] (by decide) rfl
  have hKc := hK.sub (tys' := [(k_O, .long)]) [0] rfl
  have hFc := va_free (wc := [cY h_Y h_O h_N h_B h_G h_K Y_lo Y_ie Y_ra Y_to Y_te Y_re, cL h_O k_O 8 O_f]) hD hS hA [0, 1] rfl
  refine va_calli (va_runV (As := [.int a1, .int a2, .int a3, .int a4]) (rest := []) ⟨hx, hb, hml, hown, hts⟩ (c_Y_refused l dC dI h_Y h_O h_N h_B h_G h_K k_O s.heap.size Y_lo Y_ie Y_ra Y_to Y_te Y_re O_f a1 a2 a3 a4 q_6 hC_6) (cwV 4 hts g_Y_112_Y_refused rfl rfl rfl (by decide +kernel) ⟨Nat.le_of_ble_eq_true rfl, Nat.le_of_ble_eq_true rfl⟩) ⟨fun a U g mk q => by obtain ⟨q0, q1, qP, qK, qD⟩ := q; exact ⟨q0, q1, qP, va_K.moved (u := U) (U := U.calling g mk a) (Vm.Alike.refl U.vm) qK, qD⟩, va_recv hKc hPc (ci := 2) (q0 := 0) rfl rfl, fun U hU hW => ⟨rfl, by rw [hU], by rw [hU]; exact hPc, va_K.moved hW.alike hKc, hDc.weaken (fun _ _ _ _ => trivial)⟩⟩ rfl rfl hl.1 rfl (lv_room (Nat.le_of_ble_eq_true rfl)) d_Y_addition_6 ⟨Nat.zero_le _, Nat.zero_le _⟩) hS (fun q _ h => hFc q h) hFc (fun r u t H1 locs ht hvm hw hB hz1 hk1 hS => ?_)
  obtain ⟨hP1, hK1, hD1⟩ := hB
  replace hw := hw.symm
  subst hw
  rw [ht] at hP1
  obtain ⟨hP, hD⟩ := va_join (wr := [cI h_N k_N 8 N_f, cI h_B k_B 8 B_f, cI h_G k_G 30 G_f, cI h_K k_K 30 K_f]) (w1 := [cY h_Y h_O h_N h_B h_G h_K Y_lo Y_ie Y_ra Y_to Y_te Y_re, cL h_O k_O 8 O_f]) hP hD [0, 1] [2, 3, 4, 5] rfl rfl (by decide) (by decide) hk1 hFc hP1 hD1
  generalize H1 = H at hP hS ⊢
  have hP := hP.sub (ws' := [cY h_Y h_O h_N h_B h_G h_K Y_lo Y_ie Y_ra Y_to Y_te Y_re, cL h_O k_O 8 O_f, cI h_N k_N 8 N_f, cI h_B k_B 8 B_f, cI h_G k_G 30 G_f, cI h_K k_K 30 K_f]) [4, 5, 0, 1, 2, 3] rfl
  have hD := hD.sub (ws' := [cY h_Y h_O h_N h_B h_G h_K Y_lo Y_ie Y_ra Y_to Y_te Y_re, cL h_O k_O 8 O_f, cI h_N k_N 8 N_f, cI h_B k_B 8 B_f, cI h_G k_G 30 G_f, cI h_K k_K 30 K_f]) [4, 5, 0, 1, 2, 3] (by decide) rfl
  refine lv_if_eq (tgt := 14) hx hb d_Y_addition_9 (by decide) (fun c_9 => ?_) (fun c_9 => ?_)
  · replace hF := hif_t c_9 hF
    refine lv_aload_n hx hb d_Y_addition_14 rfl (lv_at hl 0 rfl) ?_
    refine va_get (D := (dC, dI)) (ci := 2) (v := .ref h_G) (C := "RoundedNumbersModel") (T := F_Y) (N := 11) hx hb hts in_Y hown hK hP 0 rfl rfl 6 (by decide) (hts _ tw_320) (fun _ h9 => h9) rfl d_Y_addition_15 ?_
    obtain ⟨q_18, hC_18, hF⟩ := hbd hF
    have hPc := hP.sub (ws' := [cI h_G k_G 30 G_f]) [4] rfl
    have hDc := hD.sub (ws' := [cI h_G k_G 30 G_f]) [4] (by decide) rfl
    have hKc := hK.sub (tys' := [(k_G, .int)]) [3] rfl
    have hFc := va_free (wc := [cI h_G k_G 30 G_f]) hD hS hA [4] rfl
    refine va_callv (va_runS (As := [.ref h_G]) (rest := []) ⟨hx, hb, hml, hown, hts⟩ (c_Y_clear l dC dI h_G k_G H.size G_f q_18 hC_18) (cwS 1 hts g_Y_116_Y_clear rfl rfl rfl (by decide +kernel) ⟨Nat.le_of_ble_eq_true rfl, Nat.le_of_ble_eq_true rfl⟩) ⟨fun a U g mk q => by obtain ⟨q0, q1, qP, qK, qD⟩ := q; exact ⟨q0, q1, qP, va_K.moved (u := U) (U := U.calling g mk a) (Vm.Alike.refl U.vm) qK, qD⟩, fun U hU hW => ⟨rfl, by rw [hU], by rw [hU]; exact hPc, va_K.moved hW.alike hKc, hDc.weaken (fun _ _ _ _ => trivial)⟩⟩ rfl rfl hl.1 rfl (lv_room (Nat.le_of_ble_eq_true rfl)) d_Y_addition_18 ⟨Nat.zero_le _, Nat.zero_le _⟩) hS (fun q _ h => hFc q h) hFc (fun u t H1 locs ht hvm hw hB hz1 hk1 hS => ?_)
    obtain ⟨hP1, hK1, hD1⟩ := hB
    rw [ht] at hP1
    obtain ⟨hP, hD⟩ := va_join (wr := [cY h_Y h_O h_N h_B h_G h_K Y_lo Y_ie Y_ra Y_to Y_te Y_re, cL h_O k_O 8 O_f, cI h_N k_N 8 N_f, cI h_B k_B 8 B_f, cI h_K k_K 30 K_f]) (w1 := [cI h_G k_G 30 q_18]) hP hD [4] [0, 1, 2, 3, 5] rfl rfl (by decide) (by decide) hk1 hFc hP1 hD1
    generalize H1 = H at hP hS ⊢
    have hP := hP.sub (ws' := [cY h_Y h_O h_N h_B h_G h_K Y_lo Y_ie Y_ra Y_to Y_te Y_re, cL h_O k_O 8 O_f, cI h_N k_N 8 N_f, cI h_B k_B 8 B_f, cI h_G k_G 30 q_18, cI h_K k_K 30 K_f]) [0, 1, 2, 3, 5, 4] rfl
    have hD := hD.sub (ws' := [cY h_Y h_O h_N h_B h_G h_K Y_lo Y_ie Y_ra Y_to Y_te Y_re, cL h_O k_O 8 O_f, cI h_N k_N 8 N_f, cI h_B k_B 8 B_f, cI h_G k_G 30 q_18, cI h_K k_K 30 K_f]) [0, 1, 2, 3, 5, 4] (by decide) rfl
    refine lv_aload_n hx hb d_Y_addition_21 rfl (lv_at hl 0 rfl) ?_
    refine va_get (D := (dC, dI)) (ci := 2) (v := .ref h_K) (C := "RoundedNumbersModel") (T := F_Y) (N := 11) hx hb hts in_Y hown hK hP 0 rfl rfl 7 (by decide) (hts _ tw_321) (fun _ h9 => h9) rfl d_Y_addition_22 ?_
    obtain ⟨q_25, hC_25, hF⟩ := hbd hF
    have hPc := hP.sub (ws' := [cI h_K k_K 30 K_f]) [5] rfl
    have hDc := hD.sub (ws' := [cI h_K k_K 30 K_f]) [5] (by decide) rfl
    have hKc := hK.sub (tys' := [(k_K, .int)]) [4] rfl
    have hFc := va_free (wc := [cI h_K k_K 30 K_f]) hD hS hA [5] rfl
    refine va_callv (va_runS (As := [.ref h_K]) (rest := []) ⟨hx, hb, hml, hown, hts⟩ (c_Y_clear l dC dI h_K k_K H.size K_f q_25 hC_25) (cwS 1 hts g_Y_116_Y_clear rfl rfl rfl (by decide +kernel) ⟨Nat.le_of_ble_eq_true rfl, Nat.le_of_ble_eq_true rfl⟩) ⟨fun a U g mk q => by obtain ⟨q0, q1, qP, qK, qD⟩ := q; exact ⟨q0, q1, qP, va_K.moved (u := U) (U := U.calling g mk a) (Vm.Alike.refl U.vm) qK, qD⟩, fun U hU hW => ⟨rfl, by rw [hU], by rw [hU]; exact hPc, va_K.moved hW.alike hKc, hDc.weaken (fun _ _ _ _ => trivial)⟩⟩ rfl rfl hl.1 rfl (lv_room (Nat.le_of_ble_eq_true rfl)) d_Y_addition_25 ⟨Nat.zero_le _, Nat.zero_le _⟩) hS (fun q _ h => hFc q h) hFc (fun u t H1 locs ht hvm hw hB hz1 hk1 hS => ?_)
    obtain ⟨hP1, hK1, hD1⟩ := hB
    rw [ht] at hP1
    obtain ⟨hP, hD⟩ := va_join (wr := [cY h_Y h_O h_N h_B h_G h_K Y_lo Y_ie Y_ra Y_to Y_te Y_re, cL h_O k_O 8 O_f, cI h_N k_N 8 N_f, cI h_B k_B 8 B_f, cI h_G k_G 30 q_18]) (w1 := [cI h_K k_K 30 q_25]) hP hD [5] [0, 1, 2, 3, 4] rfl rfl (by decide) (by decide) hk1 hFc hP1 hD1
    generalize H1 = H at hP hS ⊢
    have hP := hP.sub (ws' := [cY h_Y h_O h_N h_B h_G h_K Y_lo Y_ie Y_ra Y_to Y_te Y_re, cL h_O k_O 8 O_f, cI h_N k_N 8 N_f, cI h_B k_B 8 B_f, cI h_G k_G 30 q_18, cI h_K k_K 30 q_25]) [0, 1, 2, 3, 4, 5] rfl
    have hD := hD.sub (ws' := [cY h_Y h_O h_N h_B h_G h_K Y_lo Y_ie Y_ra Y_to Y_te Y_re, cL h_O k_O 8 O_f, cI h_N k_N 8 N_f, cI h_B k_B 8 B_f, cI h_G k_G 30 q_18, cI h_K k_K 30 q_25]) [0, 1, 2, 3, 4, 5] (by decide) rfl
    refine lv_aload_n hx hb d_Y_addition_28 rfl (lv_at hl 0 rfl) ?_
    refine va_get (D := (dC, dI)) (ci := 2) (v := .ref h_G) (C := "RoundedNumbersModel") (T := F_Y) (N := 11) hx hb hts in_Y hown hK hP 0 rfl rfl 6 (by decide) (hts _ tw_320) (fun _ h9 => h9) rfl d_Y_addition_29 ?_
    refine lv_aload_n hx hb d_Y_addition_32 rfl (lv_at hl 0 rfl) ?_
    refine va_get (D := (dC, dI)) (ci := 2) (v := .ref h_O) (C := "RoundedNumbersModel") (T := F_Y) (N := 11) hx hb hts in_Y hown hK hP 0 rfl rfl 0 (by decide) (hts _ tw_314) (fun _ h9 => h9) rfl d_Y_addition_33 ?_
    refine lv_iload_n hx hb d_Y_addition_36 rfl (lv_at hl 2 rfl) ?_
    have c_37 : ¬ (a2 < 0 ∨ 8 ≤ a2.toNatClampNeg) := hif_n hF
    replace hF := hif_f c_37 hF
    refine va_lald hx hb hK hP 1 0 rfl rfl c_37 d_Y_addition_37 ?_
    refine lv_aload_n hx hb d_Y_addition_38 rfl (lv_at hl 0 rfl) ?_
    refine va_get (D := (dC, dI)) (ci := 2) (v := .ref h_N) (C := "RoundedNumbersModel") (T := F_Y) (N := 11) hx hb hts in_Y hown hK hP 0 rfl rfl 1 (by decide) (hts _ tw_315) (fun _ h9 => h9) rfl d_Y_addition_39 ?_
    refine lv_iload_n hx hb d_Y_addition_42 rfl (lv_at hl 2 rfl) ?_
    have c_43 : ¬ (a2 < 0 ∨ 8 ≤ a2.toNatClampNeg) := hif_n hF
    replace hF := hif_f c_43 hF
    refine va_iald hx hb hK hP 2 1 rfl rfl c_43 d_Y_addition_43 ?_
    refine lv_sipush (v := (320 : Int32)) hx hb d_Y_addition_44 (by decide) ?_
    refine lv_iadd hx hb d_Y_addition_47 ?_
    obtain ⟨q_48, hC_48, hF⟩ := hbd hF
    have hPc := hP.sub (ws' := [cI h_G k_G 30 q_18]) [4] rfl
    have hDc := hD.sub (ws' := [cI h_G k_G 30 q_18]) [4] (by decide) rfl
    have hKc := hK.sub (tys' := [(k_G, .int)]) [3] rfl
    have hFc := va_free (wc := [cI h_G k_G 30 q_18]) hD hS hA [4] rfl
    refine va_callv (va_runS (As := [.ref h_G, .long (O_f a2.toNatClampNeg), .int ((N_f a2.toNatClampNeg) + (320 : Int32))]) (rest := []) ⟨hx, hb, hml, hown, hts⟩ (c_Y_addShifted l dC dI h_G k_G H.size q_18 (O_f a2.toNatClampNeg) ((N_f a2.toNatClampNeg) + (320 : Int32)) q_48 hC_48) (cwS 3 hts g_Y_80_Y_addShifted rfl rfl rfl (by decide +kernel) ⟨Nat.le_of_ble_eq_true rfl, Nat.le_of_ble_eq_true rfl⟩) ⟨fun a U g mk q => by obtain ⟨q0, q1, qP, qK, qD⟩ := q; exact ⟨q0, q1, qP, va_K.moved (u := U) (U := U.calling g mk a) (Vm.Alike.refl U.vm) qK, qD⟩, fun U hU hW => ⟨rfl, by rw [hU], by rw [hU]; exact hPc, va_K.moved hW.alike hKc, hDc.weaken (fun _ _ _ _ => trivial)⟩⟩ rfl rfl hl.1 rfl (lv_room (Nat.le_of_ble_eq_true rfl)) d_Y_addition_48 ⟨Nat.zero_le _, Nat.zero_le _⟩) hS (fun q _ h => hFc q h) hFc (fun u t H1 locs ht hvm hw hB hz1 hk1 hS => ?_)
    obtain ⟨hP1, hK1, hD1⟩ := hB
    rw [ht] at hP1
    obtain ⟨hP, hD⟩ := va_join (wr := [cY h_Y h_O h_N h_B h_G h_K Y_lo Y_ie Y_ra Y_to Y_te Y_re, cL h_O k_O 8 O_f, cI h_N k_N 8 N_f, cI h_B k_B 8 B_f, cI h_K k_K 30 q_25]) (w1 := [cI h_G k_G 30 q_48]) hP hD [4] [0, 1, 2, 3, 5] rfl rfl (by decide) (by decide) hk1 hFc hP1 hD1
    generalize H1 = H at hP hS ⊢
    have hP := hP.sub (ws' := [cY h_Y h_O h_N h_B h_G h_K Y_lo Y_ie Y_ra Y_to Y_te Y_re, cL h_O k_O 8 O_f, cI h_N k_N 8 N_f, cI h_B k_B 8 B_f, cI h_G k_G 30 q_48, cI h_K k_K 30 q_25]) [0, 1, 2, 3, 5, 4] rfl
    have hD := hD.sub (ws' := [cY h_Y h_O h_N h_B h_G h_K Y_lo Y_ie Y_ra Y_to Y_te Y_re, cL h_O k_O 8 O_f, cI h_N k_N 8 N_f, cI h_B k_B 8 B_f, cI h_G k_G 30 q_48, cI h_K k_K 30 q_25]) [0, 1, 2, 3, 5, 4] (by decide) rfl
    refine lv_aload_n hx hb d_Y_addition_51 rfl (lv_at hl 0 rfl) ?_
    refine va_get (D := (dC, dI)) (ci := 2) (v := .ref h_K) (C := "RoundedNumbersModel") (T := F_Y) (N := 11) hx hb hts in_Y hown hK hP 0 rfl rfl 7 (by decide) (hts _ tw_321) (fun _ h9 => h9) rfl d_Y_addition_52 ?_
    refine lv_aload_n hx hb d_Y_addition_55 rfl (lv_at hl 0 rfl) ?_
    refine va_get (D := (dC, dI)) (ci := 2) (v := .ref h_O) (C := "RoundedNumbersModel") (T := F_Y) (N := 11) hx hb hts in_Y hown hK hP 0 rfl rfl 0 (by decide) (hts _ tw_314) (fun _ h9 => h9) rfl d_Y_addition_56 ?_
    refine lv_iload_n hx hb d_Y_addition_59 rfl (lv_at hl 3 rfl) ?_
    have c_60 : ¬ (a3 < 0 ∨ 8 ≤ a3.toNatClampNeg) := hif_n hF
    replace hF := hif_f c_60 hF
    refine va_lald hx hb hK hP 1 0 rfl rfl c_60 d_Y_addition_60 ?_
    refine lv_aload_n hx hb d_Y_addition_61 rfl (lv_at hl 0 rfl) ?_
    refine va_get (D := (dC, dI)) (ci := 2) (v := .ref h_N) (C := "RoundedNumbersModel") (T := F_Y) (N := 11) hx hb hts in_Y hown hK hP 0 rfl rfl 1 (by decide) (hts _ tw_315) (fun _ h9 => h9) rfl d_Y_addition_62 ?_
    refine lv_iload_n hx hb d_Y_addition_65 rfl (lv_at hl 3 rfl) ?_
    have c_66 : ¬ (a3 < 0 ∨ 8 ≤ a3.toNatClampNeg) := hif_n hF
    replace hF := hif_f c_66 hF
    refine va_iald hx hb hK hP 2 1 rfl rfl c_66 d_Y_addition_66 ?_
    refine lv_sipush (v := (320 : Int32)) hx hb d_Y_addition_67 (by decide) ?_
    refine lv_iadd hx hb d_Y_addition_70 ?_
    obtain ⟨q_71, hC_71, hF⟩ := hbd hF
    have hPc := hP.sub (ws' := [cI h_K k_K 30 q_25]) [5] rfl
    have hDc := hD.sub (ws' := [cI h_K k_K 30 q_25]) [5] (by decide) rfl
    have hKc := hK.sub (tys' := [(k_K, .int)]) [4] rfl
    have hFc := va_free (wc := [cI h_K k_K 30 q_25]) hD hS hA [5] rfl
    refine va_callv (va_runS (As := [.ref h_K, .long (O_f a3.toNatClampNeg), .int ((N_f a3.toNatClampNeg) + (320 : Int32))]) (rest := []) ⟨hx, hb, hml, hown, hts⟩ (c_Y_addShifted l dC dI h_K k_K H.size q_25 (O_f a3.toNatClampNeg) ((N_f a3.toNatClampNeg) + (320 : Int32)) q_71 hC_71) (cwS 3 hts g_Y_80_Y_addShifted rfl rfl rfl (by decide +kernel) ⟨Nat.le_of_ble_eq_true rfl, Nat.le_of_ble_eq_true rfl⟩) ⟨fun a U g mk q => by obtain ⟨q0, q1, qP, qK, qD⟩ := q; exact ⟨q0, q1, qP, va_K.moved (u := U) (U := U.calling g mk a) (Vm.Alike.refl U.vm) qK, qD⟩, fun U hU hW => ⟨rfl, by rw [hU], by rw [hU]; exact hPc, va_K.moved hW.alike hKc, hDc.weaken (fun _ _ _ _ => trivial)⟩⟩ rfl rfl hl.1 rfl (lv_room (Nat.le_of_ble_eq_true rfl)) d_Y_addition_71 ⟨Nat.zero_le _, Nat.zero_le _⟩) hS (fun q _ h => hFc q h) hFc (fun u t H1 locs ht hvm hw hB hz1 hk1 hS => ?_)
    obtain ⟨hP1, hK1, hD1⟩ := hB
    rw [ht] at hP1
    obtain ⟨hP, hD⟩ := va_join (wr := [cY h_Y h_O h_N h_B h_G h_K Y_lo Y_ie Y_ra Y_to Y_te Y_re, cL h_O k_O 8 O_f, cI h_N k_N 8 N_f, cI h_B k_B 8 B_f, cI h_G k_G 30 q_48]) (w1 := [cI h_K k_K 30 q_71]) hP hD [5] [0, 1, 2, 3, 4] rfl rfl (by decide) (by decide) hk1 hFc hP1 hD1
    generalize H1 = H at hP hS ⊢
    have hP := hP.sub (ws' := [cY h_Y h_O h_N h_B h_G h_K Y_lo Y_ie Y_ra Y_to Y_te Y_re, cL h_O k_O 8 O_f, cI h_N k_N 8 N_f, cI h_B k_B 8 B_f, cI h_G k_G 30 q_48, cI h_K k_K 30 q_71]) [0, 1, 2, 3, 4, 5] rfl
    have hD := hD.sub (ws' := [cY h_Y h_O h_N h_B h_G h_K Y_lo Y_ie Y_ra Y_to Y_te Y_re, cL h_O k_O 8 O_f, cI h_N k_N 8 N_f, cI h_B k_B 8 B_f, cI h_G k_G 30 q_48, cI h_K k_K 30 q_71]) [0, 1, 2, 3, 4, 5] (by decide) rfl
    refine lv_aload_n hx hb d_Y_addition_74 rfl (lv_at hl 0 rfl) ?_
    refine lv_iload_n hx hb d_Y_addition_75 rfl (lv_at hl 1 rfl) ?_
    refine lv_aload_n hx hb d_Y_addition_76 rfl (lv_at hl 0 rfl) ?_
    refine va_get (D := (dC, dI)) (ci := 2) (v := .ref h_B) (C := "RoundedNumbersModel") (T := F_Y) (N := 11) hx hb hts in_Y hown hK hP 0 rfl rfl 2 (by decide) (hts _ tw_316) (fun _ h9 => h9) rfl d_Y_addition_77 ?_
    refine lv_iload_n hx hb d_Y_addition_80 rfl (lv_at hl 2 rfl) ?_
    have c_81 : ¬ (a2 < 0 ∨ 8 ≤ a2.toNatClampNeg) := hif_n hF
    replace hF := hif_f c_81 hF
    refine va_zald hx hb hK hP 3 2 rfl rfl c_81 d_Y_addition_81 ?_
    refine lv_aload_n hx hb d_Y_addition_82 rfl (lv_at hl 0 rfl) ?_
    refine va_get (D := (dC, dI)) (ci := 2) (v := .ref h_B) (C := "RoundedNumbersModel") (T := F_Y) (N := 11) hx hb hts in_Y hown hK hP 0 rfl rfl 2 (by decide) (hts _ tw_316) (fun _ h9 => h9) rfl d_Y_addition_83 ?_
    refine lv_iload_n hx hb d_Y_addition_86 rfl (lv_at hl 3 rfl) ?_
    have c_87 : ¬ (a3 < 0 ∨ 8 ≤ a3.toNatClampNeg) := hif_n hF
    replace hF := hif_f c_87 hF
    refine va_zald hx hb hK hP 3 2 rfl rfl c_87 d_Y_addition_87 ?_
    refine lv_iload hx hb d_Y_addition_88 (lv_at hl 5 rfl) ?_
    refine lv_icmp_eq (tgt := 97) hx hb d_Y_addition_90 (by decide) (fun c_90 => ?_) (fun c_90 => ?_)
    · replace hF := hif_t c_90 hF
      refine lv_iconst (v := (0 : Int32)) hx hb d_Y_addition_97 (by decide) ?_
      exact b_98 a4 (0 : Int32) (B_f a2.toNatClampNeg) a1 Y_lo Y_ie Y_ra Y_to Y_te Y_re O_f N_f B_f q_48 q_71 _ _ _ hP hD hS (lv_sub hl [4] rfl) hF
    · replace hF := hif_f c_90 hF
      refine lv_iconst (v := (1 : Int32)) hx hb d_Y_addition_93 (by decide) ?_
      refine lv_goto (tgt := 98) hx hb d_Y_addition_94 (by decide) ?_
      exact b_98 a4 (1 : Int32) (B_f a2.toNatClampNeg) a1 Y_lo Y_ie Y_ra Y_to Y_te Y_re O_f N_f B_f q_48 q_71 _ _ _ hP hD hS (lv_sub hl [4] rfl) hF
  · replace hF := hif_f c_9 hF
    refine lv_iconst (v := (-1 : Int32)) hx hb d_Y_addition_12 (by decide) ?_
    obtain rfl := Option.some.inj hF
    exact W.iret (v := (-1 : Int32)) hx hb hr (fun t ht hW => ⟨⟨(-1 : Int32), (), rfl, rfl, by rw [ht]; exact hP, va_K.moved hW.alike hK, hD⟩, hS.F ht⟩) hS.2.2 d_Y_addition_13
set_option maxHeartbeats 4000000 in
set_option maxRecDepth 100000 in
theorem c_Y_add (l : Launch) (dC : Nat → ClassId) (dI : Nat → Nat → Nat) (h_Y : Nat) (h_O : Nat) (h_N : Nat) (h_B : Nat) (h_G : Nat) (h_K : Nat) (k_O : ClassId) (k_N : ClassId) (k_B : ClassId) (k_G : ClassId) (k_K : ClassId) (sz : Nat) (Y_lo : Int32) (Y_ie : Int32) (Y_ra : Int32) (Y_to : Int64) (Y_te : Int32) (Y_re : Int32) (O_f : Nat → Int64) (N_f : Nat → Int32) (B_f : Nat → Int32) (G_f : Nat → Int32) (K_f : Nat → Int32) (a1 : Int32) (a2 : Int32) (a3 : Int32) (a4 : Int32) (o : Int32 × Int32 × Int32 × Int32 × Int64 × Int32 × Int32 × (Nat → Int64) × (Nat → Int32) × (Nat → Int32) × (Nat → Int32) × (Nat → Int32)) (hF : f_Y_add Y_lo Y_ie Y_ra Y_to Y_te Y_re O_f N_f B_f G_f K_f a1 a2 a3 a4 = some o) : Met l y_Y_add w_Y_add ({ frames := 6, cells := 0, slots := 0, locals := 155 } : Room) (va_Pc [.ref h_Y, .int a1, .int a2, .int a3, .int a4] (fun U => U.heap.size = sz ∧ va_P (dC, dI) classes [cY h_Y h_O h_N h_B h_G h_K Y_lo Y_ie Y_ra Y_to Y_te Y_re, cL h_O k_O 8 O_f, cI h_N k_N 8 N_f, cI h_B k_B 8 B_f, cI h_G k_G 30 G_f, cI h_K k_K 30 K_f] U.heap ∧ va_K (dC, dI) classes [(k_O, .long), (k_N, .int), (k_B, .boolean), (k_G, .int), (k_K, .int)] U ∧ va_D (fun _ => True) [cY h_Y h_O h_N h_B h_G h_K Y_lo Y_ie Y_ra Y_to Y_te Y_re, cL h_O k_O 8 O_f, cI h_N k_N 8 N_f, cI h_B k_B 8 B_f, cI h_G k_G 30 G_f, cI h_K k_K 30 K_f])) (va_Qi (fun (r : Int32) (_ : Unit) => r = o.1) (fun (_ : Unit) (t : State) => va_P (dC, dI) classes [cY h_Y h_O h_N h_B h_G h_K o.2.1 o.2.2.1 o.2.2.2.1 o.2.2.2.2.1 o.2.2.2.2.2.1 o.2.2.2.2.2.2.1, cL h_O k_O 8 o.2.2.2.2.2.2.2.1, cI h_N k_N 8 o.2.2.2.2.2.2.2.2.1, cI h_B k_B 8 o.2.2.2.2.2.2.2.2.2.1, cI h_G k_G 30 o.2.2.2.2.2.2.2.2.2.2.1, cI h_K k_K 30 o.2.2.2.2.2.2.2.2.2.2.2] t.heap ∧ va_K (dC, dI) classes [(k_O, .long), (k_N, .int), (k_B, .boolean), (k_G, .int), (k_K, .int)] t ∧ va_D (va_A [cY h_Y h_O h_N h_B h_G h_K Y_lo Y_ie Y_ra Y_to Y_te Y_re, cL h_O k_O 8 O_f, cI h_N k_N 8 N_f, cI h_B k_B 8 B_f, cI h_G k_G 30 G_f, cI h_K k_K 30 K_f] sz) [cY h_Y h_O h_N h_B h_G h_K o.2.1 o.2.2.1 o.2.2.2.1 o.2.2.2.2.1 o.2.2.2.2.2.1 o.2.2.2.2.2.2.1, cL h_O k_O 8 o.2.2.2.2.2.2.2.1, cI h_N k_N 8 o.2.2.2.2.2.2.2.2.1, cI h_B k_B 8 o.2.2.2.2.2.2.2.2.2.1, cI h_G k_G 30 o.2.2.2.2.2.2.2.2.2.2.1, cI h_K k_K 30 o.2.2.2.2.2.2.2.2.2.2.2]) (va_A [cY h_Y h_O h_N h_B h_G h_K Y_lo Y_ie Y_ra Y_to Y_te Y_re, cL h_O k_O 8 O_f, cI h_N k_N 8 N_f, cI h_B k_B 8 B_f, cI h_G k_G 30 G_f, cI h_K k_K 30 K_f] sz)) 0 0 (va_A [cY h_Y h_O h_N h_B h_G h_K Y_lo Y_ie Y_ra Y_to Y_te Y_re, cL h_O k_O 8 O_f, cI h_N k_N 8 N_f, cI h_B k_B 8 B_f, cI h_G k_G 30 G_f, cI h_K k_K 30 K_f] sz) := by
  refine Met.ofW (cc := prog_4_method_22_code) (maxL := 5) (ret := (some .int)) (by decide) rfl ?_
  intro p e s m args below meth c s₁ B hml hv
  obtain ⟨rfl, hsz, hP, hK, hD0⟩ := hv
  have hx := B.exec
  have hb := B.bytes
  have hr := B.returns
  have hts0 := atoms_spec (ws := w_Y_add) B.pre
  have hts : ∀ w ∈ tb, w.before _ s = true := fun w h => hts0 w (List.mem_cons_of_mem _ h)
  clear hts0
  have hown : s.vm.findClass "RoundedNumbersModel" = some m.cls := findClass_of_methodNamed B.named
  have hlocks := B.notSynchronized
  subst hsz
  have hD := hD0.self (sz := s.heap.size)
  generalize hAe : va_A [cY h_Y h_O h_N h_B h_G h_K Y_lo Y_ie Y_ra Y_to Y_te Y_re, cL h_O k_O 8 O_f, cI h_N k_N 8 N_f, cI h_B k_B 8 B_f, cI h_G k_G 30 G_f, cI h_K k_K 30 K_f] s.heap.size = A at hD ⊢
  have hA : ∀ q : Nat, s.heap.size ≤ q → A q := fun q h => by rw [← hAe]; exact Or.inr h
  clear hAe
  have hS : va_S A s.heap s.heap [] := va_S.rf
  have hP : va_P (dC, dI) classes [cY h_Y h_O h_N h_B h_G h_K Y_lo Y_ie Y_ra Y_to Y_te Y_re, cL h_O k_O 8 O_f, cI h_N k_N 8 N_f, cI h_B k_B 8 B_f, cI h_G k_G 30 G_f, cI h_K k_K 30 K_f] s.heap := hP
  have hl := lv_entry ([.ref h_Y, .int a1, .int a2, .int a3, .int a4]) (n := 5) (Nat.le_of_ble_eq_true rfl)
  rw [lg_entry_eq]
  generalize (lg_sl ([.ref h_Y, .int a1, .int a2, .int a3, .int a4]) ++ List.replicate (5 - (lg_sl ([.ref h_Y, .int a1, .int a2, .int a3, .int a4])).length) Slot.unset).toArray = ls at hl ⊢
  have hl : lv_has ls 5 [(0, .ref h_Y), (1, .int a1), (2, .int a2), (3, .int a3), (4, .int a4)] := hl
  unfold f_Y_add at hF
  refine lv_aload_n hx hb d_Y_add_0 rfl (lv_at hl 0 rfl) ?_
  refine lv_iload_n hx hb d_Y_add_1 rfl (lv_at hl 1 rfl) ?_
  refine lv_iload_n hx hb d_Y_add_2 rfl (lv_at hl 2 rfl) ?_
  refine lv_iload_n hx hb d_Y_add_3 rfl (lv_at hl 3 rfl) ?_
  refine lv_iload hx hb d_Y_add_4 (lv_at hl 4 rfl) ?_
  refine lv_iconst (v := (0 : Int32)) hx hb d_Y_add_6 (by decide) ?_
  obtain ⟨q_7, hC_7, hF⟩ := hbd hF
  have hPc := hP.sub (ws' := [cY h_Y h_O h_N h_B h_G h_K Y_lo Y_ie Y_ra Y_to Y_te Y_re, cL h_O k_O 8 O_f, cI h_N k_N 8 N_f, cI h_B k_B 8 B_f, cI h_G k_G 30 G_f, cI h_K k_K 30 K_f]) [0, 1, 2, 3, 4, 5] rfl
  have hDc := hD.sub (ws' := [cY h_Y h_O h_N h_B h_G h_K Y_lo Y_ie Y_ra Y_to Y_te Y_re, cL h_O k_O 8 O_f, cI h_N k_N 8 N_f, cI h_B k_B 8 B_f, cI h_G k_G 30 G_f, cI h_K k_K 30 K_f]) [0, 1, 2, 3, 4, 5] (by decide) rfl
  have hKc := hK.sub (tys' := [(k_O, .long), (k_N, .int), (k_B, .boolean), (k_G, .int), (k_K, .int)]) [0, 1, 2, 3, 4] rfl
  have hFc := va_free (wc := [cY h_Y h_O h_N h_B h_G h_K Y_lo Y_ie Y_ra Y_to Y_te Y_re, cL h_O k_O 8 O_f, cI h_N k_N 8 N_f, cI h_B k_B 8 B_f, cI h_G k_G 30 G_f, cI h_K k_K 30 K_f]) hD hS hA [0, 1, 2, 3, 4, 5] rfl
  refine va_calli (va_runV (As := [.int a1, .int a2, .int a3, .int a4, .int (0 : Int32)]) (rest := []) ⟨hx, hb, hml, hown, hts⟩ (c_Y_addition l dC dI h_Y h_O h_N h_B h_G h_K k_O k_N k_B k_G k_K s.heap.size Y_lo Y_ie Y_ra Y_to Y_te Y_re O_f N_f B_f G_f K_f a1 a2 a3 a4 (0 : Int32) q_7 hC_7) (cwV 5 hts g_Y_128_Y_addition rfl rfl rfl (by decide +kernel) ⟨Nat.le_of_ble_eq_true rfl, Nat.le_of_ble_eq_true rfl⟩) ⟨fun a U g mk q => by obtain ⟨q0, q1, qP, qK, qD⟩ := q; exact ⟨q0, q1, qP, va_K.moved (u := U) (U := U.calling g mk a) (Vm.Alike.refl U.vm) qK, qD⟩, va_recv hKc hPc (ci := 2) (q0 := 0) rfl rfl, fun U hU hW => ⟨rfl, by rw [hU], by rw [hU]; exact hPc, va_K.moved hW.alike hKc, hDc.weaken (fun _ _ _ _ => trivial)⟩⟩ rfl rfl hl.1 rfl (lv_room (Nat.le_of_ble_eq_true rfl)) d_Y_add_7 ⟨Nat.zero_le _, Nat.zero_le _⟩) hS (fun q _ h => hFc q h) hFc (fun r u t H1 locs ht hvm hw hB hz1 hk1 hS => ?_)
  obtain ⟨hP1, hK1, hD1⟩ := hB
  replace hw := hw.symm
  subst hw
  rw [ht] at hP1
  obtain ⟨hP, hD⟩ := va_join (wr := []) (w1 := [cY h_Y h_O h_N h_B h_G h_K q_7.2.1 q_7.2.2.1 q_7.2.2.2.1 q_7.2.2.2.2.1 q_7.2.2.2.2.2.1 q_7.2.2.2.2.2.2.1, cL h_O k_O 8 q_7.2.2.2.2.2.2.2.1, cI h_N k_N 8 q_7.2.2.2.2.2.2.2.2.1, cI h_B k_B 8 q_7.2.2.2.2.2.2.2.2.2.1, cI h_G k_G 30 q_7.2.2.2.2.2.2.2.2.2.2.1, cI h_K k_K 30 q_7.2.2.2.2.2.2.2.2.2.2.2]) hP hD [0, 1, 2, 3, 4, 5] [] rfl rfl (by decide) (by decide) hk1 hFc hP1 hD1
  generalize H1 = H at hP hS ⊢
  have hP := hP.sub (ws' := [cY h_Y h_O h_N h_B h_G h_K q_7.2.1 q_7.2.2.1 q_7.2.2.2.1 q_7.2.2.2.2.1 q_7.2.2.2.2.2.1 q_7.2.2.2.2.2.2.1, cL h_O k_O 8 q_7.2.2.2.2.2.2.2.1, cI h_N k_N 8 q_7.2.2.2.2.2.2.2.2.1, cI h_B k_B 8 q_7.2.2.2.2.2.2.2.2.2.1, cI h_G k_G 30 q_7.2.2.2.2.2.2.2.2.2.2.1, cI h_K k_K 30 q_7.2.2.2.2.2.2.2.2.2.2.2]) [0, 1, 2, 3, 4, 5] rfl
  have hD := hD.sub (ws' := [cY h_Y h_O h_N h_B h_G h_K q_7.2.1 q_7.2.2.1 q_7.2.2.2.1 q_7.2.2.2.2.1 q_7.2.2.2.2.2.1 q_7.2.2.2.2.2.2.1, cL h_O k_O 8 q_7.2.2.2.2.2.2.2.1, cI h_N k_N 8 q_7.2.2.2.2.2.2.2.2.1, cI h_B k_B 8 q_7.2.2.2.2.2.2.2.2.2.1, cI h_G k_G 30 q_7.2.2.2.2.2.2.2.2.2.2.1, cI h_K k_K 30 q_7.2.2.2.2.2.2.2.2.2.2.2]) [0, 1, 2, 3, 4, 5] (by decide) rfl
  obtain rfl := Option.some.inj hF
  exact W.iret (v := q_7.1) hx hb hr (fun t ht hW => ⟨⟨q_7.1, (), rfl, rfl, by rw [ht]; exact hP, va_K.moved hW.alike hK, hD⟩, hS.F ht⟩) hS.2.2 d_Y_add_10
set_option maxHeartbeats 4000000 in
set_option maxRecDepth 100000 in
theorem c_Y_subtract (l : Launch) (dC : Nat → ClassId) (dI : Nat → Nat → Nat) (h_Y : Nat) (h_O : Nat) (h_N : Nat) (h_B : Nat) (h_G : Nat) (h_K : Nat) (k_O : ClassId) (k_N : ClassId) (k_B : ClassId) (k_G : ClassId) (k_K : ClassId) (sz : Nat) (Y_lo : Int32) (Y_ie : Int32) (Y_ra : Int32) (Y_to : Int64) (Y_te : Int32) (Y_re : Int32) (O_f : Nat → Int64) (N_f : Nat → Int32) (B_f : Nat → Int32) (G_f : Nat → Int32) (K_f : Nat → Int32) (a1 : Int32) (a2 : Int32) (a3 : Int32) (a4 : Int32) (o : Int32 × Int32 × Int32 × Int32 × Int64 × Int32 × Int32 × (Nat → Int64) × (Nat → Int32) × (Nat → Int32) × (Nat → Int32) × (Nat → Int32)) (hF : f_Y_subtract Y_lo Y_ie Y_ra Y_to Y_te Y_re O_f N_f B_f G_f K_f a1 a2 a3 a4 = some o) : Met l y_Y_subtract w_Y_subtract ({ frames := 6, cells := 0, slots := 0, locals := 155 } : Room) (va_Pc [.ref h_Y, .int a1, .int a2, .int a3, .int a4] (fun U => U.heap.size = sz ∧ va_P (dC, dI) classes [cY h_Y h_O h_N h_B h_G h_K Y_lo Y_ie Y_ra Y_to Y_te Y_re, cL h_O k_O 8 O_f, cI h_N k_N 8 N_f, cI h_B k_B 8 B_f, cI h_G k_G 30 G_f, cI h_K k_K 30 K_f] U.heap ∧ va_K (dC, dI) classes [(k_O, .long), (k_N, .int), (k_B, .boolean), (k_G, .int), (k_K, .int)] U ∧ va_D (fun _ => True) [cY h_Y h_O h_N h_B h_G h_K Y_lo Y_ie Y_ra Y_to Y_te Y_re, cL h_O k_O 8 O_f, cI h_N k_N 8 N_f, cI h_B k_B 8 B_f, cI h_G k_G 30 G_f, cI h_K k_K 30 K_f])) (va_Qi (fun (r : Int32) (_ : Unit) => r = o.1) (fun (_ : Unit) (t : State) => va_P (dC, dI) classes [cY h_Y h_O h_N h_B h_G h_K o.2.1 o.2.2.1 o.2.2.2.1 o.2.2.2.2.1 o.2.2.2.2.2.1 o.2.2.2.2.2.2.1, cL h_O k_O 8 o.2.2.2.2.2.2.2.1, cI h_N k_N 8 o.2.2.2.2.2.2.2.2.1, cI h_B k_B 8 o.2.2.2.2.2.2.2.2.2.1, cI h_G k_G 30 o.2.2.2.2.2.2.2.2.2.2.1, cI h_K k_K 30 o.2.2.2.2.2.2.2.2.2.2.2] t.heap ∧ va_K (dC, dI) classes [(k_O, .long), (k_N, .int), (k_B, .boolean), (k_G, .int), (k_K, .int)] t ∧ va_D (va_A [cY h_Y h_O h_N h_B h_G h_K Y_lo Y_ie Y_ra Y_to Y_te Y_re, cL h_O k_O 8 O_f, cI h_N k_N 8 N_f, cI h_B k_B 8 B_f, cI h_G k_G 30 G_f, cI h_K k_K 30 K_f] sz) [cY h_Y h_O h_N h_B h_G h_K o.2.1 o.2.2.1 o.2.2.2.1 o.2.2.2.2.1 o.2.2.2.2.2.1 o.2.2.2.2.2.2.1, cL h_O k_O 8 o.2.2.2.2.2.2.2.1, cI h_N k_N 8 o.2.2.2.2.2.2.2.2.1, cI h_B k_B 8 o.2.2.2.2.2.2.2.2.2.1, cI h_G k_G 30 o.2.2.2.2.2.2.2.2.2.2.1, cI h_K k_K 30 o.2.2.2.2.2.2.2.2.2.2.2]) (va_A [cY h_Y h_O h_N h_B h_G h_K Y_lo Y_ie Y_ra Y_to Y_te Y_re, cL h_O k_O 8 O_f, cI h_N k_N 8 N_f, cI h_B k_B 8 B_f, cI h_G k_G 30 G_f, cI h_K k_K 30 K_f] sz)) 0 0 (va_A [cY h_Y h_O h_N h_B h_G h_K Y_lo Y_ie Y_ra Y_to Y_te Y_re, cL h_O k_O 8 O_f, cI h_N k_N 8 N_f, cI h_B k_B 8 B_f, cI h_G k_G 30 G_f, cI h_K k_K 30 K_f] sz) := by
  refine Met.ofW (cc := prog_4_method_23_code) (maxL := 5) (ret := (some .int)) (by decide) rfl ?_
  intro p e s m args below meth c s₁ B hml hv
  obtain ⟨rfl, hsz, hP, hK, hD0⟩ := hv
  have hx := B.exec
  have hb := B.bytes
  have hr := B.returns
  have hts0 := atoms_spec (ws := w_Y_subtract) B.pre
  have hts : ∀ w ∈ tb, w.before _ s = true := fun w h => hts0 w (List.mem_cons_of_mem _ h)
  clear hts0
  have hown : s.vm.findClass "RoundedNumbersModel" = some m.cls := findClass_of_methodNamed B.named
  have hlocks := B.notSynchronized
  subst hsz
  have hD := hD0.self (sz := s.heap.size)
  generalize hAe : va_A [cY h_Y h_O h_N h_B h_G h_K Y_lo Y_ie Y_ra Y_to Y_te Y_re, cL h_O k_O 8 O_f, cI h_N k_N 8 N_f, cI h_B k_B 8 B_f, cI h_G k_G 30 G_f, cI h_K k_K 30 K_f] s.heap.size = A at hD ⊢
  have hA : ∀ q : Nat, s.heap.size ≤ q → A q := fun q h => by rw [← hAe]; exact Or.inr h
  clear hAe
  have hS : va_S A s.heap s.heap [] := va_S.rf
  have hP : va_P (dC, dI) classes [cY h_Y h_O h_N h_B h_G h_K Y_lo Y_ie Y_ra Y_to Y_te Y_re, cL h_O k_O 8 O_f, cI h_N k_N 8 N_f, cI h_B k_B 8 B_f, cI h_G k_G 30 G_f, cI h_K k_K 30 K_f] s.heap := hP
  have hl := lv_entry ([.ref h_Y, .int a1, .int a2, .int a3, .int a4]) (n := 5) (Nat.le_of_ble_eq_true rfl)
  rw [lg_entry_eq]
  generalize (lg_sl ([.ref h_Y, .int a1, .int a2, .int a3, .int a4]) ++ List.replicate (5 - (lg_sl ([.ref h_Y, .int a1, .int a2, .int a3, .int a4])).length) Slot.unset).toArray = ls at hl ⊢
  have hl : lv_has ls 5 [(0, .ref h_Y), (1, .int a1), (2, .int a2), (3, .int a3), (4, .int a4)] := hl
  unfold f_Y_subtract at hF
  refine lv_aload_n hx hb d_Y_subtract_0 rfl (lv_at hl 0 rfl) ?_
  refine lv_iload_n hx hb d_Y_subtract_1 rfl (lv_at hl 1 rfl) ?_
  refine lv_iload_n hx hb d_Y_subtract_2 rfl (lv_at hl 2 rfl) ?_
  refine lv_iload_n hx hb d_Y_subtract_3 rfl (lv_at hl 3 rfl) ?_
  refine lv_iload hx hb d_Y_subtract_4 (lv_at hl 4 rfl) ?_
  refine lv_iconst (v := (1 : Int32)) hx hb d_Y_subtract_6 (by decide) ?_
  obtain ⟨q_7, hC_7, hF⟩ := hbd hF
  have hPc := hP.sub (ws' := [cY h_Y h_O h_N h_B h_G h_K Y_lo Y_ie Y_ra Y_to Y_te Y_re, cL h_O k_O 8 O_f, cI h_N k_N 8 N_f, cI h_B k_B 8 B_f, cI h_G k_G 30 G_f, cI h_K k_K 30 K_f]) [0, 1, 2, 3, 4, 5] rfl
  have hDc := hD.sub (ws' := [cY h_Y h_O h_N h_B h_G h_K Y_lo Y_ie Y_ra Y_to Y_te Y_re, cL h_O k_O 8 O_f, cI h_N k_N 8 N_f, cI h_B k_B 8 B_f, cI h_G k_G 30 G_f, cI h_K k_K 30 K_f]) [0, 1, 2, 3, 4, 5] (by decide) rfl
  have hKc := hK.sub (tys' := [(k_O, .long), (k_N, .int), (k_B, .boolean), (k_G, .int), (k_K, .int)]) [0, 1, 2, 3, 4] rfl
  have hFc := va_free (wc := [cY h_Y h_O h_N h_B h_G h_K Y_lo Y_ie Y_ra Y_to Y_te Y_re, cL h_O k_O 8 O_f, cI h_N k_N 8 N_f, cI h_B k_B 8 B_f, cI h_G k_G 30 G_f, cI h_K k_K 30 K_f]) hD hS hA [0, 1, 2, 3, 4, 5] rfl
  refine va_calli (va_runV (As := [.int a1, .int a2, .int a3, .int a4, .int (1 : Int32)]) (rest := []) ⟨hx, hb, hml, hown, hts⟩ (c_Y_addition l dC dI h_Y h_O h_N h_B h_G h_K k_O k_N k_B k_G k_K s.heap.size Y_lo Y_ie Y_ra Y_to Y_te Y_re O_f N_f B_f G_f K_f a1 a2 a3 a4 (1 : Int32) q_7 hC_7) (cwV 5 hts g_Y_128_Y_addition rfl rfl rfl (by decide +kernel) ⟨Nat.le_of_ble_eq_true rfl, Nat.le_of_ble_eq_true rfl⟩) ⟨fun a U g mk q => by obtain ⟨q0, q1, qP, qK, qD⟩ := q; exact ⟨q0, q1, qP, va_K.moved (u := U) (U := U.calling g mk a) (Vm.Alike.refl U.vm) qK, qD⟩, va_recv hKc hPc (ci := 2) (q0 := 0) rfl rfl, fun U hU hW => ⟨rfl, by rw [hU], by rw [hU]; exact hPc, va_K.moved hW.alike hKc, hDc.weaken (fun _ _ _ _ => trivial)⟩⟩ rfl rfl hl.1 rfl (lv_room (Nat.le_of_ble_eq_true rfl)) d_Y_subtract_7 ⟨Nat.zero_le _, Nat.zero_le _⟩) hS (fun q _ h => hFc q h) hFc (fun r u t H1 locs ht hvm hw hB hz1 hk1 hS => ?_)
  obtain ⟨hP1, hK1, hD1⟩ := hB
  replace hw := hw.symm
  subst hw
  rw [ht] at hP1
  obtain ⟨hP, hD⟩ := va_join (wr := []) (w1 := [cY h_Y h_O h_N h_B h_G h_K q_7.2.1 q_7.2.2.1 q_7.2.2.2.1 q_7.2.2.2.2.1 q_7.2.2.2.2.2.1 q_7.2.2.2.2.2.2.1, cL h_O k_O 8 q_7.2.2.2.2.2.2.2.1, cI h_N k_N 8 q_7.2.2.2.2.2.2.2.2.1, cI h_B k_B 8 q_7.2.2.2.2.2.2.2.2.2.1, cI h_G k_G 30 q_7.2.2.2.2.2.2.2.2.2.2.1, cI h_K k_K 30 q_7.2.2.2.2.2.2.2.2.2.2.2]) hP hD [0, 1, 2, 3, 4, 5] [] rfl rfl (by decide) (by decide) hk1 hFc hP1 hD1
  generalize H1 = H at hP hS ⊢
  have hP := hP.sub (ws' := [cY h_Y h_O h_N h_B h_G h_K q_7.2.1 q_7.2.2.1 q_7.2.2.2.1 q_7.2.2.2.2.1 q_7.2.2.2.2.2.1 q_7.2.2.2.2.2.2.1, cL h_O k_O 8 q_7.2.2.2.2.2.2.2.1, cI h_N k_N 8 q_7.2.2.2.2.2.2.2.2.1, cI h_B k_B 8 q_7.2.2.2.2.2.2.2.2.2.1, cI h_G k_G 30 q_7.2.2.2.2.2.2.2.2.2.2.1, cI h_K k_K 30 q_7.2.2.2.2.2.2.2.2.2.2.2]) [0, 1, 2, 3, 4, 5] rfl
  have hD := hD.sub (ws' := [cY h_Y h_O h_N h_B h_G h_K q_7.2.1 q_7.2.2.1 q_7.2.2.2.1 q_7.2.2.2.2.1 q_7.2.2.2.2.2.1 q_7.2.2.2.2.2.2.1, cL h_O k_O 8 q_7.2.2.2.2.2.2.2.1, cI h_N k_N 8 q_7.2.2.2.2.2.2.2.2.1, cI h_B k_B 8 q_7.2.2.2.2.2.2.2.2.2.1, cI h_G k_G 30 q_7.2.2.2.2.2.2.2.2.2.2.1, cI h_K k_K 30 q_7.2.2.2.2.2.2.2.2.2.2.2]) [0, 1, 2, 3, 4, 5] (by decide) rfl
  obtain rfl := Option.some.inj hF
  exact W.iret (v := q_7.1) hx hb hr (fun t ht hW => ⟨⟨q_7.1, (), rfl, rfl, by rw [ht]; exact hP, va_K.moved hW.alike hK, hD⟩, hS.F ht⟩) hS.2.2 d_Y_subtract_10
set_option maxHeartbeats 4000000 in
set_option maxRecDepth 100000 in
theorem c_Y_fused (l : Launch) (dC : Nat → ClassId) (dI : Nat → Nat → Nat) (h_Y : Nat) (h_O : Nat) (h_N : Nat) (h_B : Nat) (h_G : Nat) (h_K : Nat) (k_O : ClassId) (k_N : ClassId) (k_B : ClassId) (k_G : ClassId) (k_K : ClassId) (sz : Nat) (Y_lo : Int32) (Y_ie : Int32) (Y_ra : Int32) (Y_to : Int64) (Y_te : Int32) (Y_re : Int32) (O_f : Nat → Int64) (N_f : Nat → Int32) (B_f : Nat → Int32) (G_f : Nat → Int32) (K_f : Nat → Int32) (a1 : Int32) (a2 : Int32) (a3 : Int32) (a4 : Int32) (a5 : Int32) (o : Int32 × Int32 × Int32 × Int32 × Int64 × Int32 × Int32 × (Nat → Int64) × (Nat → Int32) × (Nat → Int32) × (Nat → Int32) × (Nat → Int32)) (hF : f_Y_fused Y_lo Y_ie Y_ra Y_to Y_te Y_re O_f N_f B_f G_f K_f a1 a2 a3 a4 a5 = some o) : Met l y_Y_fused w_Y_fused ({ frames := 5, cells := 0, slots := 0, locals := 130 } : Room) (va_Pc [.ref h_Y, .int a1, .int a2, .int a3, .int a4, .int a5] (fun U => U.heap.size = sz ∧ va_P (dC, dI) classes [cY h_Y h_O h_N h_B h_G h_K Y_lo Y_ie Y_ra Y_to Y_te Y_re, cL h_O k_O 8 O_f, cI h_N k_N 8 N_f, cI h_B k_B 8 B_f, cI h_G k_G 30 G_f, cI h_K k_K 30 K_f] U.heap ∧ va_K (dC, dI) classes [(k_O, .long), (k_N, .int), (k_B, .boolean), (k_G, .int), (k_K, .int)] U ∧ va_D (fun _ => True) [cY h_Y h_O h_N h_B h_G h_K Y_lo Y_ie Y_ra Y_to Y_te Y_re, cL h_O k_O 8 O_f, cI h_N k_N 8 N_f, cI h_B k_B 8 B_f, cI h_G k_G 30 G_f, cI h_K k_K 30 K_f])) (va_Qi (fun (r : Int32) (_ : Unit) => r = o.1) (fun (_ : Unit) (t : State) => va_P (dC, dI) classes [cY h_Y h_O h_N h_B h_G h_K o.2.1 o.2.2.1 o.2.2.2.1 o.2.2.2.2.1 o.2.2.2.2.2.1 o.2.2.2.2.2.2.1, cL h_O k_O 8 o.2.2.2.2.2.2.2.1, cI h_N k_N 8 o.2.2.2.2.2.2.2.2.1, cI h_B k_B 8 o.2.2.2.2.2.2.2.2.2.1, cI h_G k_G 30 o.2.2.2.2.2.2.2.2.2.2.1, cI h_K k_K 30 o.2.2.2.2.2.2.2.2.2.2.2] t.heap ∧ va_K (dC, dI) classes [(k_O, .long), (k_N, .int), (k_B, .boolean), (k_G, .int), (k_K, .int)] t ∧ va_D (va_A [cY h_Y h_O h_N h_B h_G h_K Y_lo Y_ie Y_ra Y_to Y_te Y_re, cL h_O k_O 8 O_f, cI h_N k_N 8 N_f, cI h_B k_B 8 B_f, cI h_G k_G 30 G_f, cI h_K k_K 30 K_f] sz) [cY h_Y h_O h_N h_B h_G h_K o.2.1 o.2.2.1 o.2.2.2.1 o.2.2.2.2.1 o.2.2.2.2.2.1 o.2.2.2.2.2.2.1, cL h_O k_O 8 o.2.2.2.2.2.2.2.1, cI h_N k_N 8 o.2.2.2.2.2.2.2.2.1, cI h_B k_B 8 o.2.2.2.2.2.2.2.2.2.1, cI h_G k_G 30 o.2.2.2.2.2.2.2.2.2.2.1, cI h_K k_K 30 o.2.2.2.2.2.2.2.2.2.2.2]) (va_A [cY h_Y h_O h_N h_B h_G h_K Y_lo Y_ie Y_ra Y_to Y_te Y_re, cL h_O k_O 8 O_f, cI h_N k_N 8 N_f, cI h_B k_B 8 B_f, cI h_G k_G 30 G_f, cI h_K k_K 30 K_f] sz)) 0 0 (va_A [cY h_Y h_O h_N h_B h_G h_K Y_lo Y_ie Y_ra Y_to Y_te Y_re, cL h_O k_O 8 O_f, cI h_N k_N 8 N_f, cI h_B k_B 8 B_f, cI h_G k_G 30 G_f, cI h_K k_K 30 K_f] sz) := by
  refine Met.ofW (cc := prog_4_method_24_code) (maxL := 7) (ret := (some .int)) (by decide) rfl ?_
  intro p e s m args below meth c s₁ B hml hv
  obtain ⟨rfl, hsz, hP, hK, hD0⟩ := hv
  have hx := B.exec
  have hb := B.bytes
  have hr := B.returns
  have hts0 := atoms_spec (ws := w_Y_fused) B.pre
  have hts : ∀ w ∈ tb, w.before _ s = true := fun w h => hts0 w (List.mem_cons_of_mem _ h)
  clear hts0
  have hown : s.vm.findClass "RoundedNumbersModel" = some m.cls := findClass_of_methodNamed B.named
  have hlocks := B.notSynchronized
  subst hsz
  have hD := hD0.self (sz := s.heap.size)
  generalize hAe : va_A [cY h_Y h_O h_N h_B h_G h_K Y_lo Y_ie Y_ra Y_to Y_te Y_re, cL h_O k_O 8 O_f, cI h_N k_N 8 N_f, cI h_B k_B 8 B_f, cI h_G k_G 30 G_f, cI h_K k_K 30 K_f] s.heap.size = A at hD ⊢
  have hA : ∀ q : Nat, s.heap.size ≤ q → A q := fun q h => by rw [← hAe]; exact Or.inr h
  clear hAe
  have hS : va_S A s.heap s.heap [] := va_S.rf
  have hP : va_P (dC, dI) classes [cY h_Y h_O h_N h_B h_G h_K Y_lo Y_ie Y_ra Y_to Y_te Y_re, cL h_O k_O 8 O_f, cI h_N k_N 8 N_f, cI h_B k_B 8 B_f, cI h_G k_G 30 G_f, cI h_K k_K 30 K_f] s.heap := hP
  have hl := lv_entry ([.ref h_Y, .int a1, .int a2, .int a3, .int a4, .int a5]) (n := 7) (Nat.le_of_ble_eq_true rfl)
  rw [lg_entry_eq]
  generalize (lg_sl ([.ref h_Y, .int a1, .int a2, .int a3, .int a4, .int a5]) ++ List.replicate (7 - (lg_sl ([.ref h_Y, .int a1, .int a2, .int a3, .int a4, .int a5])).length) Slot.unset).toArray = ls at hl ⊢
  have hl : lv_has ls 7 [(0, .ref h_Y), (1, .int a1), (2, .int a2), (3, .int a3), (4, .int a4), (5, .int a5)] := hl
  have b_100 : ∀ (x1 : Int32) (x4 : Int32) (x5 : Int32) (y0 : Int32) (Y_lo : Int32) (Y_ie : Int32) (Y_ra : Int32) (Y_to : Int64) (Y_te : Int32) (Y_re : Int32) (O_f : Nat → Int64) (N_f : Nat → Int32) (B_f : Nat → Int32) (G_f : Nat → Int32) (K_f : Nat → Int32) (H : Heap) (locs : List Loc) (ls : Array Slot), va_P (dC, dI) classes [cY h_Y h_O h_N h_B h_G h_K Y_lo Y_ie Y_ra Y_to Y_te Y_re, cL h_O k_O 8 O_f, cI h_N k_N 8 N_f, cI h_B k_B 8 B_f, cI h_G k_G 30 G_f, cI h_K k_K 30 K_f] H → va_D A [cY h_Y h_O h_N h_B h_G h_K Y_lo Y_ie Y_ra Y_to Y_te Y_re, cL h_O k_O 8 O_f, cI h_N k_N 8 N_f, cI h_B k_B 8 B_f, cI h_G k_G 30 G_f, cI h_K k_K 30 K_f] → va_S A s.heap H locs → lv_has ls 7 [(0, .ref h_Y), (1, .int x1), (4, .int x4), (5, .int x5)] → f_Y_fused_100  x1 x4 x5 y0 Y_lo Y_ie Y_ra Y_to Y_te Y_re O_f N_f B_f G_f K_f = some o → W p l e (headSpec w_Y_fused ({ frames := 5, cells := 0, slots := 0, locals := 130 } : Room)).room s m ([.ref h_Y, .int a1, .int a2, .int a3, .int a4, .int a5] : List Value).toArray below meth c H locs 0 0 (MQ below (va_Qi (fun (r : Int32) (_ : Unit) => r = o.1) (fun (_ : Unit) (t : State) => va_P (dC, dI) classes [cY h_Y h_O h_N h_B h_G h_K o.2.1 o.2.2.1 o.2.2.2.1 o.2.2.2.2.1 o.2.2.2.2.2.1 o.2.2.2.2.2.2.1, cL h_O k_O 8 o.2.2.2.2.2.2.2.1, cI h_N k_N 8 o.2.2.2.2.2.2.2.2.1, cI h_B k_B 8 o.2.2.2.2.2.2.2.2.2.1, cI h_G k_G 30 o.2.2.2.2.2.2.2.2.2.2.1, cI h_K k_K 30 o.2.2.2.2.2.2.2.2.2.2.2] t.heap ∧ va_K (dC, dI) classes [(k_O, .long), (k_N, .int), (k_B, .boolean), (k_G, .int), (k_K, .int)] t ∧ va_D A [cY h_Y h_O h_N h_B h_G h_K o.2.1 o.2.2.1 o.2.2.2.1 o.2.2.2.2.1 o.2.2.2.2.2.1 o.2.2.2.2.2.2.1, cL h_O k_O 8 o.2.2.2.2.2.2.2.1, cI h_N k_N 8 o.2.2.2.2.2.2.2.2.1, cI h_B k_B 8 o.2.2.2.2.2.2.2.2.2.1, cI h_G k_G 30 o.2.2.2.2.2.2.2.2.2.2.1, cI h_K k_K 30 o.2.2.2.2.2.2.2.2.2.2.2]) A) ([.ref h_Y, .int a1, .int a2, .int a3, .int a4, .int a5] : List Value).toArray s 0 0 A) (F0 m 100 ls [.int y0]) := by
    intro x1 x4 x5 y0 Y_lo Y_ie Y_ra Y_to Y_te Y_re O_f N_f B_f G_f K_f H locs ls hP hD hS hl hF
    unfold f_Y_fused_100 at hF
    refine lv_istore (lv' := [(6, .int y0), (0, .ref h_Y), (1, .int x1), (4, .int x4), (5, .int x5)]) hx hb d_Y_fused_100 hl (by decide) rfl (fun ls hl => ?_)
    refine lv_aload_n hx hb d_Y_fused_102 rfl (lv_at hl 1 rfl) ?_
    refine lv_iload_n hx hb d_Y_fused_103 rfl (lv_at hl 2 rfl) ?_
    refine lv_iload hx hb d_Y_fused_104 (lv_at hl 0 rfl) ?_
    refine lv_iload hx hb d_Y_fused_106 (lv_at hl 3 rfl) ?_
    refine lv_if_lt (tgt := 121) hx hb d_Y_fused_108 (by decide) (fun c_108 => ?_) (fun c_108 => ?_)
    · replace hF := hif_t c_108 hF
      refine lv_iload hx hb d_Y_fused_121 (lv_at hl 0 rfl) ?_
      refine lv_iload hx hb d_Y_fused_123 (lv_at hl 4 rfl) ?_
      obtain ⟨q_125, hC_125, hF⟩ := hbd hF
      have hPc := hP.sub (ws' := [cY h_Y h_O h_N h_B h_G h_K Y_lo Y_ie Y_ra Y_to Y_te Y_re, cL h_O k_O 8 O_f, cI h_N k_N 8 N_f, cI h_B k_B 8 B_f, cI h_G k_G 30 G_f, cI h_K k_K 30 K_f]) [0, 1, 2, 3, 4, 5] rfl
      have hDc := hD.sub (ws' := [cY h_Y h_O h_N h_B h_G h_K Y_lo Y_ie Y_ra Y_to Y_te Y_re, cL h_O k_O 8 O_f, cI h_N k_N 8 N_f, cI h_B k_B 8 B_f, cI h_G k_G 30 G_f, cI h_K k_K 30 K_f]) [0, 1, 2, 3, 4, 5] (by decide) rfl
      have hKc := hK.sub (tys' := [(k_O, .long), (k_N, .int), (k_B, .boolean), (k_G, .int), (k_K, .int)]) [0, 1, 2, 3, 4] rfl
      have hFc := va_free (wc := [cY h_Y h_O h_N h_B h_G h_K Y_lo Y_ie Y_ra Y_to Y_te Y_re, cL h_O k_O 8 O_f, cI h_N k_N 8 N_f, cI h_B k_B 8 B_f, cI h_G k_G 30 G_f, cI h_K k_K 30 K_f]) hD hS hA [0, 1, 2, 3, 4, 5] rfl
      refine va_calli (va_runV (As := [.int x1, .int y0, .int y0, .int x5]) (rest := []) ⟨hx, hb, hml, hown, hts⟩ (c_Y_sum l dC dI h_Y h_O h_N h_B h_G h_K k_O k_N k_B k_G k_K H.size Y_lo Y_ie Y_ra Y_to Y_te Y_re O_f N_f B_f G_f K_f x1 y0 y0 x5 q_125 hC_125) (cwV 4 hts g_Y_124_Y_sum rfl rfl rfl (by decide +kernel) ⟨Nat.le_of_ble_eq_true rfl, Nat.le_of_ble_eq_true rfl⟩) ⟨fun a U g mk q => by obtain ⟨q0, q1, qP, qK, qD⟩ := q; exact ⟨q0, q1, qP, va_K.moved (u := U) (U := U.calling g mk a) (Vm.Alike.refl U.vm) qK, qD⟩, va_recv hKc hPc (ci := 2) (q0 := 0) rfl rfl, fun U hU hW => ⟨rfl, by rw [hU], by rw [hU]; exact hPc, va_K.moved hW.alike hKc, hDc.weaken (fun _ _ _ _ => trivial)⟩⟩ rfl rfl hl.1 rfl (lv_room (Nat.le_of_ble_eq_true rfl)) d_Y_fused_125 ⟨Nat.zero_le _, Nat.zero_le _⟩) hS (fun q _ h => hFc q h) hFc (fun r u t H1 locs ht hvm hw hB hz1 hk1 hS => ?_)
      obtain ⟨hP1, hK1, hD1⟩ := hB
      replace hw := hw.symm
      subst hw
      rw [ht] at hP1
      obtain ⟨hP, hD⟩ := va_join (wr := []) (w1 := [cY h_Y h_O h_N h_B h_G h_K q_125.2.1 q_125.2.2.1 q_125.2.2.2.1 q_125.2.2.2.2.1 q_125.2.2.2.2.2.1 q_125.2.2.2.2.2.2.1, cL h_O k_O 8 q_125.2.2.2.2.2.2.2.1, cI h_N k_N 8 q_125.2.2.2.2.2.2.2.2.1, cI h_B k_B 8 q_125.2.2.2.2.2.2.2.2.2.1, cI h_G k_G 30 q_125.2.2.2.2.2.2.2.2.2.2.1, cI h_K k_K 30 q_125.2.2.2.2.2.2.2.2.2.2.2]) hP hD [0, 1, 2, 3, 4, 5] [] rfl rfl (by decide) (by decide) hk1 hFc hP1 hD1
      generalize H1 = H at hP hS ⊢
      have hP := hP.sub (ws' := [cY h_Y h_O h_N h_B h_G h_K q_125.2.1 q_125.2.2.1 q_125.2.2.2.1 q_125.2.2.2.2.1 q_125.2.2.2.2.2.1 q_125.2.2.2.2.2.2.1, cL h_O k_O 8 q_125.2.2.2.2.2.2.2.1, cI h_N k_N 8 q_125.2.2.2.2.2.2.2.2.1, cI h_B k_B 8 q_125.2.2.2.2.2.2.2.2.2.1, cI h_G k_G 30 q_125.2.2.2.2.2.2.2.2.2.2.1, cI h_K k_K 30 q_125.2.2.2.2.2.2.2.2.2.2.2]) [0, 1, 2, 3, 4, 5] rfl
      have hD := hD.sub (ws' := [cY h_Y h_O h_N h_B h_G h_K q_125.2.1 q_125.2.2.1 q_125.2.2.2.1 q_125.2.2.2.2.1 q_125.2.2.2.2.2.1 q_125.2.2.2.2.2.2.1, cL h_O k_O 8 q_125.2.2.2.2.2.2.2.1, cI h_N k_N 8 q_125.2.2.2.2.2.2.2.2.1, cI h_B k_B 8 q_125.2.2.2.2.2.2.2.2.2.1, cI h_G k_G 30 q_125.2.2.2.2.2.2.2.2.2.2.1, cI h_K k_K 30 q_125.2.2.2.2.2.2.2.2.2.2.2]) [0, 1, 2, 3, 4, 5] (by decide) rfl
      obtain rfl := Option.some.inj hF
      exact W.iret (v := q_125.1) hx hb hr (fun t ht hW => ⟨⟨q_125.1, (), rfl, rfl, by rw [ht]; exact hP, va_K.moved hW.alike hK, hD⟩, hS.F ht⟩) hS.2.2 d_Y_fused_128
    · replace hF := hif_f c_108 hF
      refine lv_aload_n hx hb d_Y_fused_111 rfl (lv_at hl 1 rfl) ?_
      refine va_get (D := (dC, dI)) (ci := 2) (v := .ref h_B) (C := "RoundedNumbersModel") (T := F_Y) (N := 11) hx hb hts in_Y hown hK hP 0 rfl rfl 2 (by decide) (hts _ tw_316) (fun _ h9 => h9) rfl d_Y_fused_112 ?_
      refine lv_iload hx hb d_Y_fused_115 (lv_at hl 3 rfl) ?_
      have c_117 : ¬ (x4 < 0 ∨ 8 ≤ x4.toNatClampNeg) := hif_n hF
      replace hF := hif_f c_117 hF
      refine va_zald hx hb hK hP 3 2 rfl rfl c_117 d_Y_fused_117 ?_
      refine lv_goto (tgt := 123) hx hb d_Y_fused_118 (by decide) ?_
      refine lv_iload hx hb d_Y_fused_123 (lv_at hl 4 rfl) ?_
      obtain ⟨q_125, hC_125, hF⟩ := hbd hF
      have hPc := hP.sub (ws' := [cY h_Y h_O h_N h_B h_G h_K Y_lo Y_ie Y_ra Y_to Y_te Y_re, cL h_O k_O 8 O_f, cI h_N k_N 8 N_f, cI h_B k_B 8 B_f, cI h_G k_G 30 G_f, cI h_K k_K 30 K_f]) [0, 1, 2, 3, 4, 5] rfl
      have hDc := hD.sub (ws' := [cY h_Y h_O h_N h_B h_G h_K Y_lo Y_ie Y_ra Y_to Y_te Y_re, cL h_O k_O 8 O_f, cI h_N k_N 8 N_f, cI h_B k_B 8 B_f, cI h_G k_G 30 G_f, cI h_K k_K 30 K_f]) [0, 1, 2, 3, 4, 5] (by decide) rfl
      have hKc := hK.sub (tys' := [(k_O, .long), (k_N, .int), (k_B, .boolean), (k_G, .int), (k_K, .int)]) [0, 1, 2, 3, 4] rfl
      have hFc := va_free (wc := [cY h_Y h_O h_N h_B h_G h_K Y_lo Y_ie Y_ra Y_to Y_te Y_re, cL h_O k_O 8 O_f, cI h_N k_N 8 N_f, cI h_B k_B 8 B_f, cI h_G k_G 30 G_f, cI h_K k_K 30 K_f]) hD hS hA [0, 1, 2, 3, 4, 5] rfl
      refine va_calli (va_runV (As := [.int x1, .int y0, .int (B_f x4.toNatClampNeg), .int x5]) (rest := []) ⟨hx, hb, hml, hown, hts⟩ (c_Y_sum l dC dI h_Y h_O h_N h_B h_G h_K k_O k_N k_B k_G k_K H.size Y_lo Y_ie Y_ra Y_to Y_te Y_re O_f N_f B_f G_f K_f x1 y0 (B_f x4.toNatClampNeg) x5 q_125 hC_125) (cwV 4 hts g_Y_124_Y_sum rfl rfl rfl (by decide +kernel) ⟨Nat.le_of_ble_eq_true rfl, Nat.le_of_ble_eq_true rfl⟩) ⟨fun a U g mk q => by obtain ⟨q0, q1, qP, qK, qD⟩ := q; exact ⟨q0, q1, qP, va_K.moved (u := U) (U := U.calling g mk a) (Vm.Alike.refl U.vm) qK, qD⟩, va_recv hKc hPc (ci := 2) (q0 := 0) rfl rfl, fun U hU hW => ⟨rfl, by rw [hU], by rw [hU]; exact hPc, va_K.moved hW.alike hKc, hDc.weaken (fun _ _ _ _ => trivial)⟩⟩ rfl rfl hl.1 rfl (lv_room (Nat.le_of_ble_eq_true rfl)) d_Y_fused_125 ⟨Nat.zero_le _, Nat.zero_le _⟩) hS (fun q _ h => hFc q h) hFc (fun r u t H1 locs ht hvm hw hB hz1 hk1 hS => ?_)
      obtain ⟨hP1, hK1, hD1⟩ := hB
      replace hw := hw.symm
      subst hw
      rw [ht] at hP1
      obtain ⟨hP, hD⟩ := va_join (wr := []) (w1 := [cY h_Y h_O h_N h_B h_G h_K q_125.2.1 q_125.2.2.1 q_125.2.2.2.1 q_125.2.2.2.2.1 q_125.2.2.2.2.2.1 q_125.2.2.2.2.2.2.1, cL h_O k_O 8 q_125.2.2.2.2.2.2.2.1, cI h_N k_N 8 q_125.2.2.2.2.2.2.2.2.1, cI h_B k_B 8 q_125.2.2.2.2.2.2.2.2.2.1, cI h_G k_G 30 q_125.2.2.2.2.2.2.2.2.2.2.1, cI h_K k_K 30 q_125.2.2.2.2.2.2.2.2.2.2.2]) hP hD [0, 1, 2, 3, 4, 5] [] rfl rfl (by decide) (by decide) hk1 hFc hP1 hD1
      generalize H1 = H at hP hS ⊢
      have hP := hP.sub (ws' := [cY h_Y h_O h_N h_B h_G h_K q_125.2.1 q_125.2.2.1 q_125.2.2.2.1 q_125.2.2.2.2.1 q_125.2.2.2.2.2.1 q_125.2.2.2.2.2.2.1, cL h_O k_O 8 q_125.2.2.2.2.2.2.2.1, cI h_N k_N 8 q_125.2.2.2.2.2.2.2.2.1, cI h_B k_B 8 q_125.2.2.2.2.2.2.2.2.2.1, cI h_G k_G 30 q_125.2.2.2.2.2.2.2.2.2.2.1, cI h_K k_K 30 q_125.2.2.2.2.2.2.2.2.2.2.2]) [0, 1, 2, 3, 4, 5] rfl
      have hD := hD.sub (ws' := [cY h_Y h_O h_N h_B h_G h_K q_125.2.1 q_125.2.2.1 q_125.2.2.2.1 q_125.2.2.2.2.1 q_125.2.2.2.2.2.1 q_125.2.2.2.2.2.2.1, cL h_O k_O 8 q_125.2.2.2.2.2.2.2.1, cI h_N k_N 8 q_125.2.2.2.2.2.2.2.2.1, cI h_B k_B 8 q_125.2.2.2.2.2.2.2.2.2.1, cI h_G k_G 30 q_125.2.2.2.2.2.2.2.2.2.2.1, cI h_K k_K 30 q_125.2.2.2.2.2.2.2.2.2.2.2]) [0, 1, 2, 3, 4, 5] (by decide) rfl
      obtain rfl := Option.some.inj hF
      exact W.iret (v := q_125.1) hx hb hr (fun t ht hW => ⟨⟨q_125.1, (), rfl, rfl, by rw [ht]; exact hP, va_K.moved hW.alike hK, hD⟩, hS.F ht⟩) hS.2.2 d_Y_fused_128
  have b_80 : ∀ (x1 : Int32) (x2 : Int32) (x3 : Int32) (x4 : Int32) (x5 : Int32) (Y_lo : Int32) (Y_ie : Int32) (Y_ra : Int32) (Y_to : Int64) (Y_te : Int32) (Y_re : Int32) (O_f : Nat → Int64) (N_f : Nat → Int32) (B_f : Nat → Int32) (G_f : Nat → Int32) (K_f : Nat → Int32) (H : Heap) (locs : List Loc) (ls : Array Slot), va_P (dC, dI) classes [cY h_Y h_O h_N h_B h_G h_K Y_lo Y_ie Y_ra Y_to Y_te Y_re, cL h_O k_O 8 O_f, cI h_N k_N 8 N_f, cI h_B k_B 8 B_f, cI h_G k_G 30 G_f, cI h_K k_K 30 K_f] H → va_D A [cY h_Y h_O h_N h_B h_G h_K Y_lo Y_ie Y_ra Y_to Y_te Y_re, cL h_O k_O 8 O_f, cI h_N k_N 8 N_f, cI h_B k_B 8 B_f, cI h_G k_G 30 G_f, cI h_K k_K 30 K_f] → va_S A s.heap H locs → lv_has ls 7 [(0, .ref h_Y), (1, .int x1), (2, .int x2), (3, .int x3), (4, .int x4), (5, .int x5)] → f_Y_fused_80  x1 x2 x3 x4 x5 Y_lo Y_ie Y_ra Y_to Y_te Y_re O_f N_f B_f G_f K_f = some o → W p l e (headSpec w_Y_fused ({ frames := 5, cells := 0, slots := 0, locals := 130 } : Room)).room s m ([.ref h_Y, .int a1, .int a2, .int a3, .int a4, .int a5] : List Value).toArray below meth c H locs 0 0 (MQ below (va_Qi (fun (r : Int32) (_ : Unit) => r = o.1) (fun (_ : Unit) (t : State) => va_P (dC, dI) classes [cY h_Y h_O h_N h_B h_G h_K o.2.1 o.2.2.1 o.2.2.2.1 o.2.2.2.2.1 o.2.2.2.2.2.1 o.2.2.2.2.2.2.1, cL h_O k_O 8 o.2.2.2.2.2.2.2.1, cI h_N k_N 8 o.2.2.2.2.2.2.2.2.1, cI h_B k_B 8 o.2.2.2.2.2.2.2.2.2.1, cI h_G k_G 30 o.2.2.2.2.2.2.2.2.2.2.1, cI h_K k_K 30 o.2.2.2.2.2.2.2.2.2.2.2] t.heap ∧ va_K (dC, dI) classes [(k_O, .long), (k_N, .int), (k_B, .boolean), (k_G, .int), (k_K, .int)] t ∧ va_D A [cY h_Y h_O h_N h_B h_G h_K o.2.1 o.2.2.1 o.2.2.2.1 o.2.2.2.2.1 o.2.2.2.2.2.1 o.2.2.2.2.2.2.1, cL h_O k_O 8 o.2.2.2.2.2.2.2.1, cI h_N k_N 8 o.2.2.2.2.2.2.2.2.1, cI h_B k_B 8 o.2.2.2.2.2.2.2.2.2.1, cI h_G k_G 30 o.2.2.2.2.2.2.2.2.2.2.1, cI h_K k_K 30 o.2.2.2.2.2.2.2.2.2.2.2]) A) ([.ref h_Y, .int a1, .int a2, .int a3, .int a4, .int a5] : List Value).toArray s 0 0 A) (F0 m 80 ls []) := by
    intro x1 x2 x3 x4 x5 Y_lo Y_ie Y_ra Y_to Y_te Y_re O_f N_f B_f G_f K_f H locs ls hP hD hS hl hF
    unfold f_Y_fused_80 at hF
    refine lv_aload_n hx hb d_Y_fused_80 rfl (lv_at hl 0 rfl) ?_
    refine va_get (D := (dC, dI)) (ci := 2) (v := .ref h_B) (C := "RoundedNumbersModel") (T := F_Y) (N := 11) hx hb hts in_Y hown hK hP 0 rfl rfl 2 (by decide) (hts _ tw_316) (fun _ h9 => h9) rfl d_Y_fused_81 ?_
    refine lv_iload_n hx hb d_Y_fused_84 rfl (lv_at hl 2 rfl) ?_
    have c_85 : ¬ (x2 < 0 ∨ 8 ≤ x2.toNatClampNeg) := hif_n hF
    replace hF := hif_f c_85 hF
    refine va_zald hx hb hK hP 3 2 rfl rfl c_85 d_Y_fused_85 ?_
    refine lv_aload_n hx hb d_Y_fused_86 rfl (lv_at hl 0 rfl) ?_
    refine va_get (D := (dC, dI)) (ci := 2) (v := .ref h_B) (C := "RoundedNumbersModel") (T := F_Y) (N := 11) hx hb hts in_Y hown hK hP 0 rfl rfl 2 (by decide) (hts _ tw_316) (fun _ h9 => h9) rfl d_Y_fused_87 ?_
    refine lv_iload_n hx hb d_Y_fused_90 rfl (lv_at hl 3 rfl) ?_
    have c_91 : ¬ (x3 < 0 ∨ 8 ≤ x3.toNatClampNeg) := hif_n hF
    replace hF := hif_f c_91 hF
    refine va_zald hx hb hK hP 3 2 rfl rfl c_91 d_Y_fused_91 ?_
    refine lv_icmp_eq (tgt := 99) hx hb d_Y_fused_92 (by decide) (fun c_92 => ?_) (fun c_92 => ?_)
    · replace hF := hif_t c_92 hF
      refine lv_iconst (v := (0 : Int32)) hx hb d_Y_fused_99 (by decide) ?_
      exact b_100 x1 x4 x5 (0 : Int32) Y_lo Y_ie Y_ra Y_to Y_te Y_re O_f N_f B_f G_f K_f _ _ _ hP hD hS (lv_sub hl [0, 1, 4, 5] rfl) hF
    · replace hF := hif_f c_92 hF
      refine lv_iconst (v := (1 : Int32)) hx hb d_Y_fused_95 (by decide) ?_
      refine lv_goto (tgt := 100) hx hb d_Y_fused_96 (by decide) ?_
      exact b_100 x1 x4 x5 (1 : Int32) Y_lo Y_ie Y_ra Y_to Y_te Y_re O_f N_f B_f G_f K_f _ _ _ hP hD hS (lv_sub hl [0, 1, 4, 5] rfl) hF
  unfold f_Y_fused at hF
  refine lv_aload_n hx hb d_Y_fused_0 rfl (lv_at hl 0 rfl) ?_
  refine va_get (D := (dC, dI)) (ci := 2) (v := .ref h_G) (C := "RoundedNumbersModel") (T := F_Y) (N := 11) hx hb hts in_Y hown hK hP 0 rfl rfl 6 (by decide) (hts _ tw_320) (fun _ h9 => h9) rfl d_Y_fused_1 ?_
  obtain ⟨q_4, hC_4, hF⟩ := hbd hF
  have hPc := hP.sub (ws' := [cI h_G k_G 30 G_f]) [4] rfl
  have hDc := hD.sub (ws' := [cI h_G k_G 30 G_f]) [4] (by decide) rfl
  have hKc := hK.sub (tys' := [(k_G, .int)]) [3] rfl
  have hFc := va_free (wc := [cI h_G k_G 30 G_f]) hD hS hA [4] rfl
  refine va_callv (va_runS (As := [.ref h_G]) (rest := []) ⟨hx, hb, hml, hown, hts⟩ (c_Y_clear l dC dI h_G k_G s.heap.size G_f q_4 hC_4) (cwS 1 hts g_Y_116_Y_clear rfl rfl rfl (by decide +kernel) ⟨Nat.le_of_ble_eq_true rfl, Nat.le_of_ble_eq_true rfl⟩) ⟨fun a U g mk q => by obtain ⟨q0, q1, qP, qK, qD⟩ := q; exact ⟨q0, q1, qP, va_K.moved (u := U) (U := U.calling g mk a) (Vm.Alike.refl U.vm) qK, qD⟩, fun U hU hW => ⟨rfl, by rw [hU], by rw [hU]; exact hPc, va_K.moved hW.alike hKc, hDc.weaken (fun _ _ _ _ => trivial)⟩⟩ rfl rfl hl.1 rfl (lv_room (Nat.le_of_ble_eq_true rfl)) d_Y_fused_4 ⟨Nat.zero_le _, Nat.zero_le _⟩) hS (fun q _ h => hFc q h) hFc (fun u t H1 locs ht hvm hw hB hz1 hk1 hS => ?_)
  obtain ⟨hP1, hK1, hD1⟩ := hB
  rw [ht] at hP1
  obtain ⟨hP, hD⟩ := va_join (wr := [cY h_Y h_O h_N h_B h_G h_K Y_lo Y_ie Y_ra Y_to Y_te Y_re, cL h_O k_O 8 O_f, cI h_N k_N 8 N_f, cI h_B k_B 8 B_f, cI h_K k_K 30 K_f]) (w1 := [cI h_G k_G 30 q_4]) hP hD [4] [0, 1, 2, 3, 5] rfl rfl (by decide) (by decide) hk1 hFc hP1 hD1
  generalize H1 = H at hP hS ⊢
  have hP := hP.sub (ws' := [cY h_Y h_O h_N h_B h_G h_K Y_lo Y_ie Y_ra Y_to Y_te Y_re, cL h_O k_O 8 O_f, cI h_N k_N 8 N_f, cI h_B k_B 8 B_f, cI h_G k_G 30 q_4, cI h_K k_K 30 K_f]) [0, 1, 2, 3, 5, 4] rfl
  have hD := hD.sub (ws' := [cY h_Y h_O h_N h_B h_G h_K Y_lo Y_ie Y_ra Y_to Y_te Y_re, cL h_O k_O 8 O_f, cI h_N k_N 8 N_f, cI h_B k_B 8 B_f, cI h_G k_G 30 q_4, cI h_K k_K 30 K_f]) [0, 1, 2, 3, 5, 4] (by decide) rfl
  refine lv_aload_n hx hb d_Y_fused_7 rfl (lv_at hl 0 rfl) ?_
  refine va_get (D := (dC, dI)) (ci := 2) (v := .ref h_K) (C := "RoundedNumbersModel") (T := F_Y) (N := 11) hx hb hts in_Y hown hK hP 0 rfl rfl 7 (by decide) (hts _ tw_321) (fun _ h9 => h9) rfl d_Y_fused_8 ?_
  obtain ⟨q_11, hC_11, hF⟩ := hbd hF
  have hPc := hP.sub (ws' := [cI h_K k_K 30 K_f]) [5] rfl
  have hDc := hD.sub (ws' := [cI h_K k_K 30 K_f]) [5] (by decide) rfl
  have hKc := hK.sub (tys' := [(k_K, .int)]) [4] rfl
  have hFc := va_free (wc := [cI h_K k_K 30 K_f]) hD hS hA [5] rfl
  refine va_callv (va_runS (As := [.ref h_K]) (rest := []) ⟨hx, hb, hml, hown, hts⟩ (c_Y_clear l dC dI h_K k_K H.size K_f q_11 hC_11) (cwS 1 hts g_Y_116_Y_clear rfl rfl rfl (by decide +kernel) ⟨Nat.le_of_ble_eq_true rfl, Nat.le_of_ble_eq_true rfl⟩) ⟨fun a U g mk q => by obtain ⟨q0, q1, qP, qK, qD⟩ := q; exact ⟨q0, q1, qP, va_K.moved (u := U) (U := U.calling g mk a) (Vm.Alike.refl U.vm) qK, qD⟩, fun U hU hW => ⟨rfl, by rw [hU], by rw [hU]; exact hPc, va_K.moved hW.alike hKc, hDc.weaken (fun _ _ _ _ => trivial)⟩⟩ rfl rfl hl.1 rfl (lv_room (Nat.le_of_ble_eq_true rfl)) d_Y_fused_11 ⟨Nat.zero_le _, Nat.zero_le _⟩) hS (fun q _ h => hFc q h) hFc (fun u t H1 locs ht hvm hw hB hz1 hk1 hS => ?_)
  obtain ⟨hP1, hK1, hD1⟩ := hB
  rw [ht] at hP1
  obtain ⟨hP, hD⟩ := va_join (wr := [cY h_Y h_O h_N h_B h_G h_K Y_lo Y_ie Y_ra Y_to Y_te Y_re, cL h_O k_O 8 O_f, cI h_N k_N 8 N_f, cI h_B k_B 8 B_f, cI h_G k_G 30 q_4]) (w1 := [cI h_K k_K 30 q_11]) hP hD [5] [0, 1, 2, 3, 4] rfl rfl (by decide) (by decide) hk1 hFc hP1 hD1
  generalize H1 = H at hP hS ⊢
  have hP := hP.sub (ws' := [cY h_Y h_O h_N h_B h_G h_K Y_lo Y_ie Y_ra Y_to Y_te Y_re, cL h_O k_O 8 O_f, cI h_N k_N 8 N_f, cI h_B k_B 8 B_f, cI h_G k_G 30 q_4, cI h_K k_K 30 q_11]) [0, 1, 2, 3, 4, 5] rfl
  have hD := hD.sub (ws' := [cY h_Y h_O h_N h_B h_G h_K Y_lo Y_ie Y_ra Y_to Y_te Y_re, cL h_O k_O 8 O_f, cI h_N k_N 8 N_f, cI h_B k_B 8 B_f, cI h_G k_G 30 q_4, cI h_K k_K 30 q_11]) [0, 1, 2, 3, 4, 5] (by decide) rfl
  refine lv_aload_n hx hb d_Y_fused_14 rfl (lv_at hl 0 rfl) ?_
  refine va_get (D := (dC, dI)) (ci := 2) (v := .ref h_G) (C := "RoundedNumbersModel") (T := F_Y) (N := 11) hx hb hts in_Y hown hK hP 0 rfl rfl 6 (by decide) (hts _ tw_320) (fun _ h9 => h9) rfl d_Y_fused_15 ?_
  refine lv_aload_n hx hb d_Y_fused_18 rfl (lv_at hl 0 rfl) ?_
  refine va_get (D := (dC, dI)) (ci := 2) (v := .ref h_O) (C := "RoundedNumbersModel") (T := F_Y) (N := 11) hx hb hts in_Y hown hK hP 0 rfl rfl 0 (by decide) (hts _ tw_314) (fun _ h9 => h9) rfl d_Y_fused_19 ?_
  refine lv_iload_n hx hb d_Y_fused_22 rfl (lv_at hl 2 rfl) ?_
  have c_23 : ¬ (a2 < 0 ∨ 8 ≤ a2.toNatClampNeg) := hif_n hF
  replace hF := hif_f c_23 hF
  refine va_lald hx hb hK hP 1 0 rfl rfl c_23 d_Y_fused_23 ?_
  refine lv_aload_n hx hb d_Y_fused_24 rfl (lv_at hl 0 rfl) ?_
  refine va_get (D := (dC, dI)) (ci := 2) (v := .ref h_O) (C := "RoundedNumbersModel") (T := F_Y) (N := 11) hx hb hts in_Y hown hK hP 0 rfl rfl 0 (by decide) (hts _ tw_314) (fun _ h9 => h9) rfl d_Y_fused_25 ?_
  refine lv_iload_n hx hb d_Y_fused_28 rfl (lv_at hl 3 rfl) ?_
  have c_29 : ¬ (a3 < 0 ∨ 8 ≤ a3.toNatClampNeg) := hif_n hF
  replace hF := hif_f c_29 hF
  refine va_lald hx hb hK hP 1 0 rfl rfl c_29 d_Y_fused_29 ?_
  refine lv_aload_n hx hb d_Y_fused_30 rfl (lv_at hl 0 rfl) ?_
  refine va_get (D := (dC, dI)) (ci := 2) (v := .ref h_N) (C := "RoundedNumbersModel") (T := F_Y) (N := 11) hx hb hts in_Y hown hK hP 0 rfl rfl 1 (by decide) (hts _ tw_315) (fun _ h9 => h9) rfl d_Y_fused_31 ?_
  refine lv_iload_n hx hb d_Y_fused_34 rfl (lv_at hl 2 rfl) ?_
  have c_35 : ¬ (a2 < 0 ∨ 8 ≤ a2.toNatClampNeg) := hif_n hF
  replace hF := hif_f c_35 hF
  refine va_iald hx hb hK hP 2 1 rfl rfl c_35 d_Y_fused_35 ?_
  refine lv_aload_n hx hb d_Y_fused_36 rfl (lv_at hl 0 rfl) ?_
  refine va_get (D := (dC, dI)) (ci := 2) (v := .ref h_N) (C := "RoundedNumbersModel") (T := F_Y) (N := 11) hx hb hts in_Y hown hK hP 0 rfl rfl 1 (by decide) (hts _ tw_315) (fun _ h9 => h9) rfl d_Y_fused_37 ?_
  refine lv_iload_n hx hb d_Y_fused_40 rfl (lv_at hl 3 rfl) ?_
  have c_41 : ¬ (a3 < 0 ∨ 8 ≤ a3.toNatClampNeg) := hif_n hF
  replace hF := hif_f c_41 hF
  refine va_iald hx hb hK hP 2 1 rfl rfl c_41 d_Y_fused_41 ?_
  refine lv_iadd hx hb d_Y_fused_42 ?_
  refine lv_sipush (v := (320 : Int32)) hx hb d_Y_fused_43 (by decide) ?_
  refine lv_iadd hx hb d_Y_fused_46 ?_
  obtain ⟨q_47, hC_47, hF⟩ := hbd hF
  have hPc := hP.sub (ws' := [cI h_G k_G 30 q_4]) [4] rfl
  have hDc := hD.sub (ws' := [cI h_G k_G 30 q_4]) [4] (by decide) rfl
  have hKc := hK.sub (tys' := [(k_G, .int)]) [3] rfl
  have hFc := va_free (wc := [cI h_G k_G 30 q_4]) hD hS hA [4] rfl
  refine va_callv (va_runS (As := [.ref h_G, .long (O_f a2.toNatClampNeg), .long (O_f a3.toNatClampNeg), .int (((N_f a2.toNatClampNeg) + (N_f a3.toNatClampNeg)) + (320 : Int32))]) (rest := []) ⟨hx, hb, hml, hown, hts⟩ (c_Y_addProduct l dC dI h_G k_G H.size q_4 (O_f a2.toNatClampNeg) (O_f a3.toNatClampNeg) (((N_f a2.toNatClampNeg) + (N_f a3.toNatClampNeg)) + (320 : Int32)) q_47 hC_47) (cwS 4 hts g_Y_132_Y_addProduct rfl rfl rfl (by decide +kernel) ⟨Nat.le_of_ble_eq_true rfl, Nat.le_of_ble_eq_true rfl⟩) ⟨fun a U g mk q => by obtain ⟨q0, q1, qP, qK, qD⟩ := q; exact ⟨q0, q1, qP, va_K.moved (u := U) (U := U.calling g mk a) (Vm.Alike.refl U.vm) qK, qD⟩, fun U hU hW => ⟨rfl, by rw [hU], by rw [hU]; exact hPc, va_K.moved hW.alike hKc, hDc.weaken (fun _ _ _ _ => trivial)⟩⟩ rfl rfl hl.1 rfl (lv_room (Nat.le_of_ble_eq_true rfl)) d_Y_fused_47 ⟨Nat.zero_le _, Nat.zero_le _⟩) hS (fun q _ h => hFc q h) hFc (fun u t H1 locs ht hvm hw hB hz1 hk1 hS => ?_)
  obtain ⟨hP1, hK1, hD1⟩ := hB
  rw [ht] at hP1
  obtain ⟨hP, hD⟩ := va_join (wr := [cY h_Y h_O h_N h_B h_G h_K Y_lo Y_ie Y_ra Y_to Y_te Y_re, cL h_O k_O 8 O_f, cI h_N k_N 8 N_f, cI h_B k_B 8 B_f, cI h_K k_K 30 q_11]) (w1 := [cI h_G k_G 30 q_47]) hP hD [4] [0, 1, 2, 3, 5] rfl rfl (by decide) (by decide) hk1 hFc hP1 hD1
  generalize H1 = H at hP hS ⊢
  have hP := hP.sub (ws' := [cY h_Y h_O h_N h_B h_G h_K Y_lo Y_ie Y_ra Y_to Y_te Y_re, cL h_O k_O 8 O_f, cI h_N k_N 8 N_f, cI h_B k_B 8 B_f, cI h_G k_G 30 q_47, cI h_K k_K 30 q_11]) [0, 1, 2, 3, 5, 4] rfl
  have hD := hD.sub (ws' := [cY h_Y h_O h_N h_B h_G h_K Y_lo Y_ie Y_ra Y_to Y_te Y_re, cL h_O k_O 8 O_f, cI h_N k_N 8 N_f, cI h_B k_B 8 B_f, cI h_G k_G 30 q_47, cI h_K k_K 30 q_11]) [0, 1, 2, 3, 5, 4] (by decide) rfl
  refine lv_iload hx hb d_Y_fused_50 (lv_at hl 4 rfl) ?_
  refine lv_if_lt (tgt := 80) hx hb d_Y_fused_52 (by decide) (fun c_52 => ?_) (fun c_52 => ?_)
  · replace hF := hif_t c_52 hF
    exact b_80 a1 a2 a3 a4 a5 Y_lo Y_ie Y_ra Y_to Y_te Y_re O_f N_f B_f q_47 q_11 _ _ _ hP hD hS (lv_sub hl [0, 1, 2, 3, 4, 5] rfl) hF
  · replace hF := hif_f c_52 hF
    refine lv_aload_n hx hb d_Y_fused_55 rfl (lv_at hl 0 rfl) ?_
    refine va_get (D := (dC, dI)) (ci := 2) (v := .ref h_K) (C := "RoundedNumbersModel") (T := F_Y) (N := 11) hx hb hts in_Y hown hK hP 0 rfl rfl 7 (by decide) (hts _ tw_321) (fun _ h9 => h9) rfl d_Y_fused_56 ?_
    refine lv_aload_n hx hb d_Y_fused_59 rfl (lv_at hl 0 rfl) ?_
    refine va_get (D := (dC, dI)) (ci := 2) (v := .ref h_O) (C := "RoundedNumbersModel") (T := F_Y) (N := 11) hx hb hts in_Y hown hK hP 0 rfl rfl 0 (by decide) (hts _ tw_314) (fun _ h9 => h9) rfl d_Y_fused_60 ?_
    refine lv_iload hx hb d_Y_fused_63 (lv_at hl 4 rfl) ?_
    have c_65 : ¬ (a4 < 0 ∨ 8 ≤ a4.toNatClampNeg) := hif_n hF
    replace hF := hif_f c_65 hF
    refine va_lald hx hb hK hP 1 0 rfl rfl c_65 d_Y_fused_65 ?_
    refine lv_aload_n hx hb d_Y_fused_66 rfl (lv_at hl 0 rfl) ?_
    refine va_get (D := (dC, dI)) (ci := 2) (v := .ref h_N) (C := "RoundedNumbersModel") (T := F_Y) (N := 11) hx hb hts in_Y hown hK hP 0 rfl rfl 1 (by decide) (hts _ tw_315) (fun _ h9 => h9) rfl d_Y_fused_67 ?_
    refine lv_iload hx hb d_Y_fused_70 (lv_at hl 4 rfl) ?_
    have c_72 : ¬ (a4 < 0 ∨ 8 ≤ a4.toNatClampNeg) := hif_n hF
    replace hF := hif_f c_72 hF
    refine va_iald hx hb hK hP 2 1 rfl rfl c_72 d_Y_fused_72 ?_
    refine lv_sipush (v := (320 : Int32)) hx hb d_Y_fused_73 (by decide) ?_
    refine lv_iadd hx hb d_Y_fused_76 ?_
    obtain ⟨q_77, hC_77, hF⟩ := hbd hF
    have hPc := hP.sub (ws' := [cI h_K k_K 30 q_11]) [5] rfl
    have hDc := hD.sub (ws' := [cI h_K k_K 30 q_11]) [5] (by decide) rfl
    have hKc := hK.sub (tys' := [(k_K, .int)]) [4] rfl
    have hFc := va_free (wc := [cI h_K k_K 30 q_11]) hD hS hA [5] rfl
    refine va_callv (va_runS (As := [.ref h_K, .long (O_f a4.toNatClampNeg), .int ((N_f a4.toNatClampNeg) + (320 : Int32))]) (rest := []) ⟨hx, hb, hml, hown, hts⟩ (c_Y_addShifted l dC dI h_K k_K H.size q_11 (O_f a4.toNatClampNeg) ((N_f a4.toNatClampNeg) + (320 : Int32)) q_77 hC_77) (cwS 3 hts g_Y_80_Y_addShifted rfl rfl rfl (by decide +kernel) ⟨Nat.le_of_ble_eq_true rfl, Nat.le_of_ble_eq_true rfl⟩) ⟨fun a U g mk q => by obtain ⟨q0, q1, qP, qK, qD⟩ := q; exact ⟨q0, q1, qP, va_K.moved (u := U) (U := U.calling g mk a) (Vm.Alike.refl U.vm) qK, qD⟩, fun U hU hW => ⟨rfl, by rw [hU], by rw [hU]; exact hPc, va_K.moved hW.alike hKc, hDc.weaken (fun _ _ _ _ => trivial)⟩⟩ rfl rfl hl.1 rfl (lv_room (Nat.le_of_ble_eq_true rfl)) d_Y_fused_77 ⟨Nat.zero_le _, Nat.zero_le _⟩) hS (fun q _ h => hFc q h) hFc (fun u t H1 locs ht hvm hw hB hz1 hk1 hS => ?_)
    obtain ⟨hP1, hK1, hD1⟩ := hB
    rw [ht] at hP1
    obtain ⟨hP, hD⟩ := va_join (wr := [cY h_Y h_O h_N h_B h_G h_K Y_lo Y_ie Y_ra Y_to Y_te Y_re, cL h_O k_O 8 O_f, cI h_N k_N 8 N_f, cI h_B k_B 8 B_f, cI h_G k_G 30 q_47]) (w1 := [cI h_K k_K 30 q_77]) hP hD [5] [0, 1, 2, 3, 4] rfl rfl (by decide) (by decide) hk1 hFc hP1 hD1
    generalize H1 = H at hP hS ⊢
    have hP := hP.sub (ws' := [cY h_Y h_O h_N h_B h_G h_K Y_lo Y_ie Y_ra Y_to Y_te Y_re, cL h_O k_O 8 O_f, cI h_N k_N 8 N_f, cI h_B k_B 8 B_f, cI h_G k_G 30 q_47, cI h_K k_K 30 q_77]) [0, 1, 2, 3, 4, 5] rfl
    have hD := hD.sub (ws' := [cY h_Y h_O h_N h_B h_G h_K Y_lo Y_ie Y_ra Y_to Y_te Y_re, cL h_O k_O 8 O_f, cI h_N k_N 8 N_f, cI h_B k_B 8 B_f, cI h_G k_G 30 q_47, cI h_K k_K 30 q_77]) [0, 1, 2, 3, 4, 5] (by decide) rfl
    exact b_80 a1 a2 a3 a4 a5 Y_lo Y_ie Y_ra Y_to Y_te Y_re O_f N_f B_f q_47 q_77 _ _ _ hP hD hS (lv_sub hl [0, 1, 2, 3, 4, 5] rfl) hF
set_option maxHeartbeats 4000000 in
set_option maxRecDepth 100000 in
theorem c_Y_multiply (l : Launch) (dC : Nat → ClassId) (dI : Nat → Nat → Nat) (h_Y : Nat) (h_O : Nat) (h_N : Nat) (h_B : Nat) (h_G : Nat) (h_K : Nat) (k_O : ClassId) (k_N : ClassId) (k_B : ClassId) (k_G : ClassId) (k_K : ClassId) (sz : Nat) (Y_lo : Int32) (Y_ie : Int32) (Y_ra : Int32) (Y_to : Int64) (Y_te : Int32) (Y_re : Int32) (O_f : Nat → Int64) (N_f : Nat → Int32) (B_f : Nat → Int32) (G_f : Nat → Int32) (K_f : Nat → Int32) (a1 : Int32) (a2 : Int32) (a3 : Int32) (a4 : Int32) (o : Int32 × Int32 × Int32 × Int32 × Int64 × Int32 × Int32 × (Nat → Int64) × (Nat → Int32) × (Nat → Int32) × (Nat → Int32) × (Nat → Int32)) (hF : f_Y_multiply Y_lo Y_ie Y_ra Y_to Y_te Y_re O_f N_f B_f G_f K_f a1 a2 a3 a4 = some o) : Met l y_Y_multiply w_Y_multiply ({ frames := 6, cells := 0, slots := 0, locals := 156 } : Room) (va_Pc [.ref h_Y, .int a1, .int a2, .int a3, .int a4] (fun U => U.heap.size = sz ∧ va_P (dC, dI) classes [cY h_Y h_O h_N h_B h_G h_K Y_lo Y_ie Y_ra Y_to Y_te Y_re, cL h_O k_O 8 O_f, cI h_N k_N 8 N_f, cI h_B k_B 8 B_f, cI h_G k_G 30 G_f, cI h_K k_K 30 K_f] U.heap ∧ va_K (dC, dI) classes [(k_O, .long), (k_N, .int), (k_B, .boolean), (k_G, .int), (k_K, .int)] U ∧ va_D (fun _ => True) [cY h_Y h_O h_N h_B h_G h_K Y_lo Y_ie Y_ra Y_to Y_te Y_re, cL h_O k_O 8 O_f, cI h_N k_N 8 N_f, cI h_B k_B 8 B_f, cI h_G k_G 30 G_f, cI h_K k_K 30 K_f])) (va_Qi (fun (r : Int32) (_ : Unit) => r = o.1) (fun (_ : Unit) (t : State) => va_P (dC, dI) classes [cY h_Y h_O h_N h_B h_G h_K o.2.1 o.2.2.1 o.2.2.2.1 o.2.2.2.2.1 o.2.2.2.2.2.1 o.2.2.2.2.2.2.1, cL h_O k_O 8 o.2.2.2.2.2.2.2.1, cI h_N k_N 8 o.2.2.2.2.2.2.2.2.1, cI h_B k_B 8 o.2.2.2.2.2.2.2.2.2.1, cI h_G k_G 30 o.2.2.2.2.2.2.2.2.2.2.1, cI h_K k_K 30 o.2.2.2.2.2.2.2.2.2.2.2] t.heap ∧ va_K (dC, dI) classes [(k_O, .long), (k_N, .int), (k_B, .boolean), (k_G, .int), (k_K, .int)] t ∧ va_D (va_A [cY h_Y h_O h_N h_B h_G h_K Y_lo Y_ie Y_ra Y_to Y_te Y_re, cL h_O k_O 8 O_f, cI h_N k_N 8 N_f, cI h_B k_B 8 B_f, cI h_G k_G 30 G_f, cI h_K k_K 30 K_f] sz) [cY h_Y h_O h_N h_B h_G h_K o.2.1 o.2.2.1 o.2.2.2.1 o.2.2.2.2.1 o.2.2.2.2.2.1 o.2.2.2.2.2.2.1, cL h_O k_O 8 o.2.2.2.2.2.2.2.1, cI h_N k_N 8 o.2.2.2.2.2.2.2.2.1, cI h_B k_B 8 o.2.2.2.2.2.2.2.2.2.1, cI h_G k_G 30 o.2.2.2.2.2.2.2.2.2.2.1, cI h_K k_K 30 o.2.2.2.2.2.2.2.2.2.2.2]) (va_A [cY h_Y h_O h_N h_B h_G h_K Y_lo Y_ie Y_ra Y_to Y_te Y_re, cL h_O k_O 8 O_f, cI h_N k_N 8 N_f, cI h_B k_B 8 B_f, cI h_G k_G 30 G_f, cI h_K k_K 30 K_f] sz)) 0 0 (va_A [cY h_Y h_O h_N h_B h_G h_K Y_lo Y_ie Y_ra Y_to Y_te Y_re, cL h_O k_O 8 O_f, cI h_N k_N 8 N_f, cI h_B k_B 8 B_f, cI h_G k_G 30 G_f, cI h_K k_K 30 K_f] sz) := by
  refine Met.ofW (cc := prog_4_method_25_code) (maxL := 5) (ret := (some .int)) (by decide) rfl ?_
  intro p e s m args below meth c s₁ B hml hv
  obtain ⟨rfl, hsz, hP, hK, hD0⟩ := hv
  have hx := B.exec
  have hb := B.bytes
  have hr := B.returns
  have hts0 := atoms_spec (ws := w_Y_multiply) B.pre
  have hts : ∀ w ∈ tb, w.before _ s = true := fun w h => hts0 w (List.mem_cons_of_mem _ h)
  clear hts0
  have hown : s.vm.findClass "RoundedNumbersModel" = some m.cls := findClass_of_methodNamed B.named
  have hlocks := B.notSynchronized
  subst hsz
  have hD := hD0.self (sz := s.heap.size)
  generalize hAe : va_A [cY h_Y h_O h_N h_B h_G h_K Y_lo Y_ie Y_ra Y_to Y_te Y_re, cL h_O k_O 8 O_f, cI h_N k_N 8 N_f, cI h_B k_B 8 B_f, cI h_G k_G 30 G_f, cI h_K k_K 30 K_f] s.heap.size = A at hD ⊢
  have hA : ∀ q : Nat, s.heap.size ≤ q → A q := fun q h => by rw [← hAe]; exact Or.inr h
  clear hAe
  have hS : va_S A s.heap s.heap [] := va_S.rf
  have hP : va_P (dC, dI) classes [cY h_Y h_O h_N h_B h_G h_K Y_lo Y_ie Y_ra Y_to Y_te Y_re, cL h_O k_O 8 O_f, cI h_N k_N 8 N_f, cI h_B k_B 8 B_f, cI h_G k_G 30 G_f, cI h_K k_K 30 K_f] s.heap := hP
  have hl := lv_entry ([.ref h_Y, .int a1, .int a2, .int a3, .int a4]) (n := 5) (Nat.le_of_ble_eq_true rfl)
  rw [lg_entry_eq]
  generalize (lg_sl ([.ref h_Y, .int a1, .int a2, .int a3, .int a4]) ++ List.replicate (5 - (lg_sl ([.ref h_Y, .int a1, .int a2, .int a3, .int a4])).length) Slot.unset).toArray = ls at hl ⊢
  have hl : lv_has ls 5 [(0, .ref h_Y), (1, .int a1), (2, .int a2), (3, .int a3), (4, .int a4)] := hl
  unfold f_Y_multiply at hF
  refine lv_aload_n hx hb d_Y_multiply_0 rfl (lv_at hl 0 rfl) ?_
  refine lv_iload_n hx hb d_Y_multiply_1 rfl (lv_at hl 1 rfl) ?_
  refine lv_iload_n hx hb d_Y_multiply_2 rfl (lv_at hl 2 rfl) ?_
  refine lv_iload_n hx hb d_Y_multiply_3 rfl (lv_at hl 3 rfl) ?_
  refine lv_iload hx hb d_Y_multiply_4 (lv_at hl 4 rfl) ?_
  obtain ⟨q_6, hC_6, hF⟩ := hbd hF
  have hPc := hP.sub (ws' := [cY h_Y h_O h_N h_B h_G h_K Y_lo Y_ie Y_ra Y_to Y_te Y_re, cL h_O k_O 8 O_f]) [0, 1] rfl
  have hDc := hD.sub (ws' := [cY h_Y h_O h_N h_B h_G h_K Y_lo Y_ie Y_ra Y_to Y_te Y_re, cL h_O k_O 8 O_f]) [0, 1] (by decide) rfl
  have hKc := hK.sub (tys' := [(k_O, .long)]) [0] rfl
  have hFc := va_free (wc := [cY h_Y h_O h_N h_B h_G h_K Y_lo Y_ie Y_ra Y_to Y_te Y_re, cL h_O k_O 8 O_f]) hD hS hA [0, 1] rfl
  refine va_calli (va_runV (As := [.int a1, .int a2, .int a3, .int a4]) (rest := []) ⟨hx, hb, hml, hown, hts⟩ (c_Y_refused l dC dI h_Y h_O h_N h_B h_G h_K k_O s.heap.size Y_lo Y_ie Y_ra Y_to Y_te Y_re O_f a1 a2 a3 a4 q_6 hC_6) (cwV 4 hts g_Y_112_Y_refused rfl rfl rfl (by decide +kernel) ⟨Nat.le_of_ble_eq_true rfl, Nat.le_of_ble_eq_true rfl⟩) ⟨fun a U g mk q => by obtain ⟨q0, q1, qP, qK, qD⟩ := q; exact ⟨q0, q1, qP, va_K.moved (u := U) (U := U.calling g mk a) (Vm.Alike.refl U.vm) qK, qD⟩, va_recv hKc hPc (ci := 2) (q0 := 0) rfl rfl, fun U hU hW => ⟨rfl, by rw [hU], by rw [hU]; exact hPc, va_K.moved hW.alike hKc, hDc.weaken (fun _ _ _ _ => trivial)⟩⟩ rfl rfl hl.1 rfl (lv_room (Nat.le_of_ble_eq_true rfl)) d_Y_multiply_6 ⟨Nat.zero_le _, Nat.zero_le _⟩) hS (fun q _ h => hFc q h) hFc (fun r u t H1 locs ht hvm hw hB hz1 hk1 hS => ?_)
  obtain ⟨hP1, hK1, hD1⟩ := hB
  replace hw := hw.symm
  subst hw
  rw [ht] at hP1
  obtain ⟨hP, hD⟩ := va_join (wr := [cI h_N k_N 8 N_f, cI h_B k_B 8 B_f, cI h_G k_G 30 G_f, cI h_K k_K 30 K_f]) (w1 := [cY h_Y h_O h_N h_B h_G h_K Y_lo Y_ie Y_ra Y_to Y_te Y_re, cL h_O k_O 8 O_f]) hP hD [0, 1] [2, 3, 4, 5] rfl rfl (by decide) (by decide) hk1 hFc hP1 hD1
  generalize H1 = H at hP hS ⊢
  have hP := hP.sub (ws' := [cY h_Y h_O h_N h_B h_G h_K Y_lo Y_ie Y_ra Y_to Y_te Y_re, cL h_O k_O 8 O_f, cI h_N k_N 8 N_f, cI h_B k_B 8 B_f, cI h_G k_G 30 G_f, cI h_K k_K 30 K_f]) [4, 5, 0, 1, 2, 3] rfl
  have hD := hD.sub (ws' := [cY h_Y h_O h_N h_B h_G h_K Y_lo Y_ie Y_ra Y_to Y_te Y_re, cL h_O k_O 8 O_f, cI h_N k_N 8 N_f, cI h_B k_B 8 B_f, cI h_G k_G 30 G_f, cI h_K k_K 30 K_f]) [4, 5, 0, 1, 2, 3] (by decide) rfl
  refine lv_if_eq (tgt := 16) hx hb d_Y_multiply_9 (by decide) (fun c_9 => ?_) (fun c_9 => ?_)
  · replace hF := hif_t c_9 hF
    refine lv_aload_n hx hb d_Y_multiply_16 rfl (lv_at hl 0 rfl) ?_
    refine lv_iload_n hx hb d_Y_multiply_17 rfl (lv_at hl 1 rfl) ?_
    refine lv_iload_n hx hb d_Y_multiply_18 rfl (lv_at hl 2 rfl) ?_
    refine lv_iload_n hx hb d_Y_multiply_19 rfl (lv_at hl 3 rfl) ?_
    refine lv_iconst (v := (-1 : Int32)) hx hb d_Y_multiply_20 (by decide) ?_
    refine lv_iload hx hb d_Y_multiply_21 (lv_at hl 4 rfl) ?_
    obtain ⟨q_23, hC_23, hF⟩ := hbd hF
    have hPc := hP.sub (ws' := []) [] rfl
    have hDc := hD.sub (ws' := []) [] (by decide) rfl
    have hKc := hK.sub (tys' := []) [] rfl
    have hFc := va_free (wc := []) hD hS hA [] rfl
    refine va_calli (va_runS (As := [.int a4]) (rest := [.int (-1 : Int32), .int a3, .int a2, .int a1, .ref h_Y]) ⟨hx, hb, hml, hown, hts⟩ (c_Y_size l dC dI H.size a4 q_23 hC_23) (cwS 1 hts g_Y_120_Y_size rfl rfl rfl (by decide +kernel) ⟨Nat.le_of_ble_eq_true rfl, Nat.le_of_ble_eq_true rfl⟩) ⟨fun a U g mk q => by obtain ⟨q0, q1, qP, qK, qD⟩ := q; exact ⟨q0, q1, qP, va_K.moved (u := U) (U := U.calling g mk a) (Vm.Alike.refl U.vm) qK, qD⟩, fun U hU hW => ⟨rfl, by rw [hU], by rw [hU]; exact hPc, va_K.moved hW.alike hKc, hDc.weaken (fun _ _ _ _ => trivial)⟩⟩ rfl rfl hl.1 rfl (lv_room (Nat.le_of_ble_eq_true rfl)) d_Y_multiply_23 ⟨Nat.zero_le _, Nat.zero_le _⟩) hS (fun q _ h => hFc q h) hFc (fun r u t H1 locs ht hvm hw hB hz1 hk1 hS => ?_)
    obtain ⟨hP1, hK1, hD1⟩ := hB
    replace hw := hw.symm
    subst hw
    rw [ht] at hP1
    obtain ⟨hP, hD⟩ := va_join (wr := [cY h_Y h_O h_N h_B h_G h_K Y_lo Y_ie Y_ra Y_to Y_te Y_re, cL h_O k_O 8 O_f, cI h_N k_N 8 N_f, cI h_B k_B 8 B_f, cI h_G k_G 30 G_f, cI h_K k_K 30 K_f]) (w1 := []) hP hD [] [0, 1, 2, 3, 4, 5] rfl rfl (by decide) (by decide) hk1 hFc hP1 hD1
    generalize H1 = H at hP hS ⊢
    have hP := hP.sub (ws' := [cY h_Y h_O h_N h_B h_G h_K Y_lo Y_ie Y_ra Y_to Y_te Y_re, cL h_O k_O 8 O_f, cI h_N k_N 8 N_f, cI h_B k_B 8 B_f, cI h_G k_G 30 G_f, cI h_K k_K 30 K_f]) [0, 1, 2, 3, 4, 5] rfl
    have hD := hD.sub (ws' := [cY h_Y h_O h_N h_B h_G h_K Y_lo Y_ie Y_ra Y_to Y_te Y_re, cL h_O k_O 8 O_f, cI h_N k_N 8 N_f, cI h_B k_B 8 B_f, cI h_G k_G 30 G_f, cI h_K k_K 30 K_f]) [0, 1, 2, 3, 4, 5] (by decide) rfl
    obtain ⟨q_26, hC_26, hF⟩ := hbd hF
    have hPc := hP.sub (ws' := [cY h_Y h_O h_N h_B h_G h_K Y_lo Y_ie Y_ra Y_to Y_te Y_re, cL h_O k_O 8 O_f, cI h_N k_N 8 N_f, cI h_B k_B 8 B_f, cI h_G k_G 30 G_f, cI h_K k_K 30 K_f]) [0, 1, 2, 3, 4, 5] rfl
    have hDc := hD.sub (ws' := [cY h_Y h_O h_N h_B h_G h_K Y_lo Y_ie Y_ra Y_to Y_te Y_re, cL h_O k_O 8 O_f, cI h_N k_N 8 N_f, cI h_B k_B 8 B_f, cI h_G k_G 30 G_f, cI h_K k_K 30 K_f]) [0, 1, 2, 3, 4, 5] (by decide) rfl
    have hKc := hK.sub (tys' := [(k_O, .long), (k_N, .int), (k_B, .boolean), (k_G, .int), (k_K, .int)]) [0, 1, 2, 3, 4] rfl
    have hFc := va_free (wc := [cY h_Y h_O h_N h_B h_G h_K Y_lo Y_ie Y_ra Y_to Y_te Y_re, cL h_O k_O 8 O_f, cI h_N k_N 8 N_f, cI h_B k_B 8 B_f, cI h_G k_G 30 G_f, cI h_K k_K 30 K_f]) hD hS hA [0, 1, 2, 3, 4, 5] rfl
    refine va_calli (va_runV (As := [.int a1, .int a2, .int a3, .int (-1 : Int32), .int q_23]) (rest := []) ⟨hx, hb, hml, hown, hts⟩ (c_Y_fused l dC dI h_Y h_O h_N h_B h_G h_K k_O k_N k_B k_G k_K H.size Y_lo Y_ie Y_ra Y_to Y_te Y_re O_f N_f B_f G_f K_f a1 a2 a3 (-1 : Int32) q_23 q_26 hC_26) (cwV 5 hts g_Y_136_Y_fused rfl rfl rfl (by decide +kernel) ⟨Nat.le_of_ble_eq_true rfl, Nat.le_of_ble_eq_true rfl⟩) ⟨fun a U g mk q => by obtain ⟨q0, q1, qP, qK, qD⟩ := q; exact ⟨q0, q1, qP, va_K.moved (u := U) (U := U.calling g mk a) (Vm.Alike.refl U.vm) qK, qD⟩, va_recv hKc hPc (ci := 2) (q0 := 0) rfl rfl, fun U hU hW => ⟨rfl, by rw [hU], by rw [hU]; exact hPc, va_K.moved hW.alike hKc, hDc.weaken (fun _ _ _ _ => trivial)⟩⟩ rfl rfl hl.1 rfl (lv_room (Nat.le_of_ble_eq_true rfl)) d_Y_multiply_26 ⟨Nat.zero_le _, Nat.zero_le _⟩) hS (fun q _ h => hFc q h) hFc (fun r u t H1 locs ht hvm hw hB hz1 hk1 hS => ?_)
    obtain ⟨hP1, hK1, hD1⟩ := hB
    replace hw := hw.symm
    subst hw
    rw [ht] at hP1
    obtain ⟨hP, hD⟩ := va_join (wr := []) (w1 := [cY h_Y h_O h_N h_B h_G h_K q_26.2.1 q_26.2.2.1 q_26.2.2.2.1 q_26.2.2.2.2.1 q_26.2.2.2.2.2.1 q_26.2.2.2.2.2.2.1, cL h_O k_O 8 q_26.2.2.2.2.2.2.2.1, cI h_N k_N 8 q_26.2.2.2.2.2.2.2.2.1, cI h_B k_B 8 q_26.2.2.2.2.2.2.2.2.2.1, cI h_G k_G 30 q_26.2.2.2.2.2.2.2.2.2.2.1, cI h_K k_K 30 q_26.2.2.2.2.2.2.2.2.2.2.2]) hP hD [0, 1, 2, 3, 4, 5] [] rfl rfl (by decide) (by decide) hk1 hFc hP1 hD1
    generalize H1 = H at hP hS ⊢
    have hP := hP.sub (ws' := [cY h_Y h_O h_N h_B h_G h_K q_26.2.1 q_26.2.2.1 q_26.2.2.2.1 q_26.2.2.2.2.1 q_26.2.2.2.2.2.1 q_26.2.2.2.2.2.2.1, cL h_O k_O 8 q_26.2.2.2.2.2.2.2.1, cI h_N k_N 8 q_26.2.2.2.2.2.2.2.2.1, cI h_B k_B 8 q_26.2.2.2.2.2.2.2.2.2.1, cI h_G k_G 30 q_26.2.2.2.2.2.2.2.2.2.2.1, cI h_K k_K 30 q_26.2.2.2.2.2.2.2.2.2.2.2]) [0, 1, 2, 3, 4, 5] rfl
    have hD := hD.sub (ws' := [cY h_Y h_O h_N h_B h_G h_K q_26.2.1 q_26.2.2.1 q_26.2.2.2.1 q_26.2.2.2.2.1 q_26.2.2.2.2.2.1 q_26.2.2.2.2.2.2.1, cL h_O k_O 8 q_26.2.2.2.2.2.2.2.1, cI h_N k_N 8 q_26.2.2.2.2.2.2.2.2.1, cI h_B k_B 8 q_26.2.2.2.2.2.2.2.2.2.1, cI h_G k_G 30 q_26.2.2.2.2.2.2.2.2.2.2.1, cI h_K k_K 30 q_26.2.2.2.2.2.2.2.2.2.2.2]) [0, 1, 2, 3, 4, 5] (by decide) rfl
    obtain rfl := Option.some.inj hF
    exact W.iret (v := q_26.1) hx hb hr (fun t ht hW => ⟨⟨q_26.1, (), rfl, rfl, by rw [ht]; exact hP, va_K.moved hW.alike hK, hD⟩, hS.F ht⟩) hS.2.2 d_Y_multiply_29
  · replace hF := hif_f c_9 hF
    refine lv_iconst (v := (-1 : Int32)) hx hb d_Y_multiply_12 (by decide) ?_
    refine lv_goto (tgt := 29) hx hb d_Y_multiply_13 (by decide) ?_
    obtain rfl := Option.some.inj hF
    exact W.iret (v := (-1 : Int32)) hx hb hr (fun t ht hW => ⟨⟨(-1 : Int32), (), rfl, rfl, by rw [ht]; exact hP, va_K.moved hW.alike hK, hD⟩, hS.F ht⟩) hS.2.2 d_Y_multiply_29
