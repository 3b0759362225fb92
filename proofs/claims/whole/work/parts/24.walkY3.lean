set_option maxHeartbeats 4000000 in
set_option maxRecDepth 100000 in
theorem c_Y_fuse (l : Launch) (dC : Nat → ClassId) (dI : Nat → Nat → Nat) (h_Y : Nat) (h_O : Nat) (h_N : Nat) (h_B : Nat) (h_G : Nat) (h_K : Nat) (k_O : ClassId) (k_N : ClassId) (k_B : ClassId) (k_G : ClassId) (k_K : ClassId) (sz : Nat) (Y_lo : Int32) (Y_ie : Int32) (Y_ra : Int32) (Y_to : Int64) (Y_te : Int32) (Y_re : Int32) (O_f : Nat → Int64) (N_f : Nat → Int32) (B_f : Nat → Int32) (G_f : Nat → Int32) (K_f : Nat → Int32) (a1 : Int32) (a2 : Int32) (a3 : Int32) (a4 : Int32) (o : Int32 × Int32 × Int32 × Int32 × Int64 × Int32 × Int32 × (Nat → Int64) × (Nat → Int32) × (Nat → Int32) × (Nat → Int32) × (Nat → Int32)) (hF : f_Y_fuse Y_lo Y_ie Y_ra Y_to Y_te Y_re O_f N_f B_f G_f K_f a1 a2 a3 a4 = some o) : Met l y_Y_fuse w_Y_fuse ({ frames := 6, cells := 0, slots := 0, locals := 156 } : Room) (va_Pc [.ref h_Y, .int a1, .int a2, .int a3, .int a4] (fun U => U.heap.size = sz ∧ va_P (dC, dI) classes [cY h_Y h_O h_N h_B h_G h_K Y_lo Y_ie Y_ra Y_to Y_te Y_re, cL h_O k_O 8 O_f, cI h_N k_N 8 N_f, cI h_B k_B 8 B_f, cI h_G k_G 30 G_f, cI h_K k_K 30 K_f] U.heap ∧ va_K (dC, dI) classes [(k_O, .long), (k_N, .int), (k_B, .boolean), (k_G, .int), (k_K, .int)] U ∧ va_D (fun _ => True) [cY h_Y h_O h_N h_B h_G h_K Y_lo Y_ie Y_ra Y_to Y_te Y_re, cL h_O k_O 8 O_f, cI h_N k_N 8 N_f, cI h_B k_B 8 B_f, cI h_G k_G 30 G_f, cI h_K k_K 30 K_f])) (va_Qi (fun (r : Int32) (_ : Unit) => r = o.1) (fun (_ : Unit) (t : State) => va_P (dC, dI) classes [cY h_Y h_O h_N h_B h_G h_K o.2.1 o.2.2.1 o.2.2.2.1 o.2.2.2.2.1 o.2.2.2.2.2.1 o.2.2.2.2.2.2.1, cL h_O k_O 8 o.2.2.2.2.2.2.2.1, cI h_N k_N 8 o.2.2.2.2.2.2.2.2.1, cI h_B k_B 8 o.2.2.2.2.2.2.2.2.2.1, cI h_G k_G 30 o.2.2.2.2.2.2.2.2.2.2.1, cI h_K k_K 30 o.2.2.2.2.2.2.2.2.2.2.2] t.heap ∧ va_K (dC, dI) classes [(k_O, .long), (k_N, .int), (k_B, .boolean), (k_G, .int), (k_K, .int)] t ∧ va_D (va_A [cY h_Y h_O h_N h_B h_G h_K Y_lo Y_ie Y_ra Y_to Y_te Y_re, cL h_O k_O 8 O_f, cI h_N k_N 8 N_f, cI h_B k_B 8 B_f, cI h_G k_G 30 G_f, cI h_K k_K 30 K_f] sz) [cY h_Y h_O h_N h_B h_G h_K o.2.1 o.2.2.1 o.2.2.2.1 o.2.2.2.2.1 o.2.2.2.2.2.1 o.2.2.2.2.2.2.1, cL h_O k_O 8 o.2.2.2.2.2.2.2.1, cI h_N k_N 8 o.2.2.2.2.2.2.2.2.1, cI h_B k_B 8 o.2.2.2.2.2.2.2.2.2.1, cI h_G k_G 30 o.2.2.2.2.2.2.2.2.2.2.1, cI h_K k_K 30 o.2.2.2.2.2.2.2.2.2.2.2]) (va_A [cY h_Y h_O h_N h_B h_G h_K Y_lo Y_ie Y_ra Y_to Y_te Y_re, cL h_O k_O 8 O_f, cI h_N k_N 8 N_f, cI h_B k_B 8 B_f, cI h_G k_G 30 G_f, cI h_K k_K 30 K_f] sz)) 0 0 (va_A [cY h_Y h_O h_N h_B h_G h_K Y_lo Y_ie Y_ra Y_to Y_te Y_re, cL h_O k_O 8 O_f, cI h_N k_N 8 N_f, cI h_B k_B 8 B_f, cI h_G k_G 30 G_f, cI h_K k_K 30 K_f] sz) := by
  refine Met.ofW (cc := prog_4_method_26_code) (maxL := 5) (ret := (some .int)) (by decide) rfl ?_
  intro p e s m args below meth c s₁ B hml hv
  obtain ⟨rfl, hsz, hP, hK, hD0⟩ := hv
  have hx := B.exec
  have hb := B.bytes
  have hr := B.returns
  have hts0 := atoms_spec (ws := w_Y_fuse) B.pre
  have hts : ∀ w ∈ tb, w.before _ s = true := fun w h => hts0 w (List.mem_cons_of_mem _ h)
  clear hts0
  have hown : s.vm.findClass "RoundedNumbersModel" = some m.cls := findClass_of_methodNamed B.named
  have hlocks := B.notSynchronized
  subst hsz
  have hD := hD0.self (sz := s.heap.size)
  generalize hAe : va_A [cY h_Y h_O h_N h_B h_G h_K Y_lo Y_ie Y_ra Y_to Y_te Y_re, cL h_O k_O 8 O_f, cI h_N k_N 8 N_f, cI h_B k_B 8 B_f, cI h_G k_G 30 G_f, cI h_K k_K 30 K_f] s.heap.size = A at hD ⊢
  have hA : ∀ q : Nat, s.heap.size ≤ q → A q := fun q h => by rw [← hAe]; exact Or.inr h
  clear hAe
  have hS : va_S A s.heap s.heap [] := va_S.rf
  have hP : va_P (dC, dI) classes [cY h_Y h_O h_N h_B h_G h_K Y_lo Y_ie Y_ra Y_to Y_te Y_re, cL h_O k_O 8 O_f, cI h_N k_N 8 N_f, cI h_B k_B 8 B_f, cI h_G k_G 30 G_f, cI h_K k_K 30 K_f] s.heap := hP
  have hl := lv_entry ([.ref h_Y, .int a1, .int a2, .int a3, .int a4]) (n := 5) (Nat.le_of_ble_eq_true rfl)
  rw [lg_entry_eq]
  generalize (lg_sl ([.ref h_Y, .int a1, .int a2, .int a3, .int a4]) ++ List.replicate (5 - (lg_sl ([.ref h_Y, .int a1, .int a2, .int a3, .int a4])).length) Slot.unset).toArray = ls at hl ⊢
  have hl : lv_has ls 5 [(0, .ref h_Y), (1, .int a1), (2, .int a2), (3, .int a3), (4, .int a4)] := hl
  unfold f_Y_fuse at hF
  refine lv_aload_n hx hb d_Y_fuse_0 rfl (lv_at hl 0 rfl) ?_
  refine lv_iload_n hx hb d_Y_fuse_1 rfl (lv_at hl 1 rfl) ?_
  refine lv_iload_n hx hb d_Y_fuse_2 rfl (lv_at hl 2 rfl) ?_
  refine lv_iload_n hx hb d_Y_fuse_3 rfl (lv_at hl 3 rfl) ?_
  refine lv_iconst (v := (0 : Int32)) hx hb d_Y_fuse_4 (by decide) ?_
  obtain ⟨q_5, hC_5, hF⟩ := hbd hF
  have hPc := hP.sub (ws' := [cY h_Y h_O h_N h_B h_G h_K Y_lo Y_ie Y_ra Y_to Y_te Y_re, cL h_O k_O 8 O_f]) [0, 1] rfl
  have hDc := hD.sub (ws' := [cY h_Y h_O h_N h_B h_G h_K Y_lo Y_ie Y_ra Y_to Y_te Y_re, cL h_O k_O 8 O_f]) [0, 1] (by decide) rfl
  have hKc := hK.sub (tys' := [(k_O, .long)]) [0] rfl
  have hFc := va_free (wc := [cY h_Y h_O h_N h_B h_G h_K Y_lo Y_ie Y_ra Y_to Y_te Y_re, cL h_O k_O 8 O_f]) hD hS hA [0, 1] rfl
  refine va_calli (va_runV (As := [.int a1, .int a2, .int a3, .int (0 : Int32)]) (rest := []) ⟨hx, hb, hml, hown, hts⟩ (c_Y_refused l dC dI h_Y h_O h_N h_B h_G h_K k_O s.heap.size Y_lo Y_ie Y_ra Y_to Y_te Y_re O_f a1 a2 a3 (0 : Int32) q_5 hC_5) (cwV 4 hts g_Y_112_Y_refused rfl rfl rfl (by decide +kernel) ⟨Nat.le_of_ble_eq_true rfl, Nat.le_of_ble_eq_true rfl⟩) ⟨fun a U g mk q => by obtain ⟨q0, q1, qP, qK, qD⟩ := q; exact ⟨q0, q1, qP, va_K.moved (u := U) (U := U.calling g mk a) (Vm.Alike.refl U.vm) qK, qD⟩, va_recv hKc hPc (ci := 2) (q0 := 0) rfl rfl, fun U hU hW => ⟨rfl, by rw [hU], by rw [hU]; exact hPc, va_K.moved hW.alike hKc, hDc.weaken (fun _ _ _ _ => trivial)⟩⟩ rfl rfl hl.1 rfl (lv_room (Nat.le_of_ble_eq_true rfl)) d_Y_fuse_5 ⟨Nat.zero_le _, Nat.zero_le _⟩) hS (fun q _ h => hFc q h) hFc (fun r u t H1 locs ht hvm hw hB hz1 hk1 hS => ?_)
  obtain ⟨hP1, hK1, hD1⟩ := hB
  replace hw := hw.symm
  subst hw
  rw [ht] at hP1
  obtain ⟨hP, hD⟩ := va_join (wr := [cI h_N k_N 8 N_f, cI h_B k_B 8 B_f, cI h_G k_G 30 G_f, cI h_K k_K 30 K_f]) (w1 := [cY h_Y h_O h_N h_B h_G h_K Y_lo Y_ie Y_ra Y_to Y_te Y_re, cL h_O k_O 8 O_f]) hP hD [0, 1] [2, 3, 4, 5] rfl rfl (by decide) (by decide) hk1 hFc hP1 hD1
  generalize H1 = H at hP hS ⊢
  have hP := hP.sub (ws' := [cY h_Y h_O h_N h_B h_G h_K Y_lo Y_ie Y_ra Y_to Y_te Y_re, cL h_O k_O 8 O_f, cI h_N k_N 8 N_f, cI h_B k_B 8 B_f, cI h_G k_G 30 G_f, cI h_K k_K 30 K_f]) [4, 5, 0, 1, 2, 3] rfl
  have hD := hD.sub (ws' := [cY h_Y h_O h_N h_B h_G h_K Y_lo Y_ie Y_ra Y_to Y_te Y_re, cL h_O k_O 8 O_f, cI h_N k_N 8 N_f, cI h_B k_B 8 B_f, cI h_G k_G 30 G_f, cI h_K k_K 30 K_f]) [4, 5, 0, 1, 2, 3] (by decide) rfl
  refine lv_if_ne (tgt := 19) hx hb d_Y_fuse_8 (by decide) (fun c_8 => ?_) (fun c_8 => ?_)
  · replace hF := hif_f c_8 hF
    refine lv_iconst (v := (-1 : Int32)) hx hb d_Y_fuse_19 (by decide) ?_
    refine lv_goto (tgt := 34) hx hb d_Y_fuse_20 (by decide) ?_
    obtain rfl := Option.some.inj hF
    exact W.iret (v := (-1 : Int32)) hx hb hr (fun t ht hW => ⟨⟨(-1 : Int32), (), rfl, rfl, by rw [ht]; exact hP, va_K.moved hW.alike hK, hD⟩, hS.F ht⟩) hS.2.2 d_Y_fuse_34
  · replace hF := hif_t c_8 hF
    refine lv_iload hx hb d_Y_fuse_11 (lv_at hl 4 rfl) ?_
    obtain ⟨q_13, hC_13, hF⟩ := hbd hF
    have hPc := hP.sub (ws' := []) [] rfl
    have hDc := hD.sub (ws' := []) [] (by decide) rfl
    have hKc := hK.sub (tys' := []) [] rfl
    have hFc := va_free (wc := []) hD hS hA [] rfl
    refine va_calli (va_runS (As := [.int a4]) (rest := []) ⟨hx, hb, hml, hown, hts⟩ (c_Y_out l dC dI H.size a4 q_13 hC_13) (cwS 1 hts g_Y_101_Y_out rfl rfl rfl (by decide +kernel) ⟨Nat.le_of_ble_eq_true rfl, Nat.le_of_ble_eq_true rfl⟩) ⟨fun a U g mk q => by obtain ⟨q0, q1, qP, qK, qD⟩ := q; exact ⟨q0, q1, qP, va_K.moved (u := U) (U := U.calling g mk a) (Vm.Alike.refl U.vm) qK, qD⟩, fun U hU hW => ⟨rfl, by rw [hU], by rw [hU]; exact hPc, va_K.moved hW.alike hKc, hDc.weaken (fun _ _ _ _ => trivial)⟩⟩ rfl rfl hl.1 rfl (lv_room (Nat.le_of_ble_eq_true rfl)) d_Y_fuse_13 ⟨Nat.zero_le _, Nat.zero_le _⟩) hS (fun q _ h => hFc q h) hFc (fun r u t H1 locs ht hvm hw hB hz1 hk1 hS => ?_)
    obtain ⟨hP1, hK1, hD1⟩ := hB
    replace hw := hw.symm
    subst hw
    rw [ht] at hP1
    obtain ⟨hP, hD⟩ := va_join (wr := [cY h_Y h_O h_N h_B h_G h_K Y_lo Y_ie Y_ra Y_to Y_te Y_re, cL h_O k_O 8 O_f, cI h_N k_N 8 N_f, cI h_B k_B 8 B_f, cI h_G k_G 30 G_f, cI h_K k_K 30 K_f]) (w1 := []) hP hD [] [0, 1, 2, 3, 4, 5] rfl rfl (by decide) (by decide) hk1 hFc hP1 hD1
    generalize H1 = H at hP hS ⊢
    have hP := hP.sub (ws' := [cY h_Y h_O h_N h_B h_G h_K Y_lo Y_ie Y_ra Y_to Y_te Y_re, cL h_O k_O 8 O_f, cI h_N k_N 8 N_f, cI h_B k_B 8 B_f, cI h_G k_G 30 G_f, cI h_K k_K 30 K_f]) [0, 1, 2, 3, 4, 5] rfl
    have hD := hD.sub (ws' := [cY h_Y h_O h_N h_B h_G h_K Y_lo Y_ie Y_ra Y_to Y_te Y_re, cL h_O k_O 8 O_f, cI h_N k_N 8 N_f, cI h_B k_B 8 B_f, cI h_G k_G 30 G_f, cI h_K k_K 30 K_f]) [0, 1, 2, 3, 4, 5] (by decide) rfl
    refine lv_if_eq (tgt := 23) hx hb d_Y_fuse_16 (by decide) (fun c_16 => ?_) (fun c_16 => ?_)
    · replace hF := hif_t c_16 hF
      refine lv_aload_n hx hb d_Y_fuse_23 rfl (lv_at hl 0 rfl) ?_
      refine lv_iload_n hx hb d_Y_fuse_24 rfl (lv_at hl 1 rfl) ?_
      refine lv_iload_n hx hb d_Y_fuse_25 rfl (lv_at hl 2 rfl) ?_
      refine lv_iload_n hx hb d_Y_fuse_26 rfl (lv_at hl 3 rfl) ?_
      refine lv_iload hx hb d_Y_fuse_27 (lv_at hl 4 rfl) ?_
      refine lv_bipush (v := (53 : Int32)) hx hb d_Y_fuse_29 (by decide) ?_
      obtain ⟨q_31, hC_31, hF⟩ := hbd hF
      have hPc := hP.sub (ws' := [cY h_Y h_O h_N h_B h_G h_K Y_lo Y_ie Y_ra Y_to Y_te Y_re, cL h_O k_O 8 O_f, cI h_N k_N 8 N_f, cI h_B k_B 8 B_f, cI h_G k_G 30 G_f, cI h_K k_K 30 K_f]) [0, 1, 2, 3, 4, 5] rfl
      have hDc := hD.sub (ws' := [cY h_Y h_O h_N h_B h_G h_K Y_lo Y_ie Y_ra Y_to Y_te Y_re, cL h_O k_O 8 O_f, cI h_N k_N 8 N_f, cI h_B k_B 8 B_f, cI h_G k_G 30 G_f, cI h_K k_K 30 K_f]) [0, 1, 2, 3, 4, 5] (by decide) rfl
      have hKc := hK.sub (tys' := [(k_O, .long), (k_N, .int), (k_B, .boolean), (k_G, .int), (k_K, .int)]) [0, 1, 2, 3, 4] rfl
      have hFc := va_free (wc := [cY h_Y h_O h_N h_B h_G h_K Y_lo Y_ie Y_ra Y_to Y_te Y_re, cL h_O k_O 8 O_f, cI h_N k_N 8 N_f, cI h_B k_B 8 B_f, cI h_G k_G 30 G_f, cI h_K k_K 30 K_f]) hD hS hA [0, 1, 2, 3, 4, 5] rfl
      refine va_calli (va_runV (As := [.int a1, .int a2, .int a3, .int a4, .int (53 : Int32)]) (rest := []) ⟨hx, hb, hml, hown, hts⟩ (c_Y_fused l dC dI h_Y h_O h_N h_B h_G h_K k_O k_N k_B k_G k_K H.size Y_lo Y_ie Y_ra Y_to Y_te Y_re O_f N_f B_f G_f K_f a1 a2 a3 a4 (53 : Int32) q_31 hC_31) (cwV 5 hts g_Y_136_Y_fused rfl rfl rfl (by decide +kernel) ⟨Nat.le_of_ble_eq_true rfl, Nat.le_of_ble_eq_true rfl⟩) ⟨fun a U g mk q => by obtain ⟨q0, q1, qP, qK, qD⟩ := q; exact ⟨q0, q1, qP, va_K.moved (u := U) (U := U.calling g mk a) (Vm.Alike.refl U.vm) qK, qD⟩, va_recv hKc hPc (ci := 2) (q0 := 0) rfl rfl, fun U hU hW => ⟨rfl, by rw [hU], by rw [hU]; exact hPc, va_K.moved hW.alike hKc, hDc.weaken (fun _ _ _ _ => trivial)⟩⟩ rfl rfl hl.1 rfl (lv_room (Nat.le_of_ble_eq_true rfl)) d_Y_fuse_31 ⟨Nat.zero_le _, Nat.zero_le _⟩) hS (fun q _ h => hFc q h) hFc (fun r u t H1 locs ht hvm hw hB hz1 hk1 hS => ?_)
      obtain ⟨hP1, hK1, hD1⟩ := hB
      replace hw := hw.symm
      subst hw
      rw [ht] at hP1
      obtain ⟨hP, hD⟩ := va_join (wr := []) (w1 := [cY h_Y h_O h_N h_B h_G h_K q_31.2.1 q_31.2.2.1 q_31.2.2.2.1 q_31.2.2.2.2.1 q_31.2.2.2.2.2.1 q_31.2.2.2.2.2.2.1, cL h_O k_O 8 q_31.2.2.2.2.2.2.2.1, cI h_N k_N 8 q_31.2.2.2.2.2.2.2.2.1, cI h_B k_B 8 q_31.2.2.2.2.2.2.2.2.2.1, cI h_G k_G 30 q_31.2.2.2.2.2.2.2.2.2.2.1, cI h_K k_K 30 q_31.2.2.2.2.2.2.2.2.2.2.2]) hP hD [0, 1, 2, 3, 4, 5] [] rfl rfl (by decide) (by decide) hk1 hFc hP1 hD1
      generalize H1 = H at hP hS ⊢
      have hP := hP.sub (ws' := [cY h_Y h_O h_N h_B h_G h_K q_31.2.1 q_31.2.2.1 q_31.2.2.2.1 q_31.2.2.2.2.1 q_31.2.2.2.2.2.1 q_31.2.2.2.2.2.2.1, cL h_O k_O 8 q_31.2.2.2.2.2.2.2.1, cI h_N k_N 8 q_31.2.2.2.2.2.2.2.2.1, cI h_B k_B 8 q_31.2.2.2.2.2.2.2.2.2.1, cI h_G k_G 30 q_31.2.2.2.2.2.2.2.2.2.2.1, cI h_K k_K 30 q_31.2.2.2.2.2.2.2.2.2.2.2]) [0, 1, 2, 3, 4, 5] rfl
      have hD := hD.sub (ws' := [cY h_Y h_O h_N h_B h_G h_K q_31.2.1 q_31.2.2.1 q_31.2.2.2.1 q_31.2.2.2.2.1 q_31.2.2.2.2.2.1 q_31.2.2.2.2.2.2.1, cL h_O k_O 8 q_31.2.2.2.2.2.2.2.1, cI h_N k_N 8 q_31.2.2.2.2.2.2.2.2.1, cI h_B k_B 8 q_31.2.2.2.2.2.2.2.2.2.1, cI h_G k_G 30 q_31.2.2.2.2.2.2.2.2.2.2.1, cI h_K k_K 30 q_31.2.2.2.2.2.2.2.2.2.2.2]) [0, 1, 2, 3, 4, 5] (by decide) rfl
      obtain rfl := Option.some.inj hF
      exact W.iret (v := q_31.1) hx hb hr (fun t ht hW => ⟨⟨q_31.1, (), rfl, rfl, by rw [ht]; exact hP, va_K.moved hW.alike hK, hD⟩, hS.F ht⟩) hS.2.2 d_Y_fuse_34
    · replace hF := hif_f c_16 hF
      refine lv_iconst (v := (-1 : Int32)) hx hb d_Y_fuse_19 (by decide) ?_
      refine lv_goto (tgt := 34) hx hb d_Y_fuse_20 (by decide) ?_
      obtain rfl := Option.some.inj hF
      exact W.iret (v := (-1 : Int32)) hx hb hr (fun t ht hW => ⟨⟨(-1 : Int32), (), rfl, rfl, by rw [ht]; exact hP, va_K.moved hW.alike hK, hD⟩, hS.F ht⟩) hS.2.2 d_Y_fuse_34
set_option maxHeartbeats 4000000 in
set_option maxRecDepth 100000 in
theorem c_Y_fuseNarrow (l : Launch) (dC : Nat → ClassId) (dI : Nat → Nat → Nat) (h_Y : Nat) (h_O : Nat) (h_N : Nat) (h_B : Nat) (h_G : Nat) (h_K : Nat) (k_O : ClassId) (k_N : ClassId) (k_B : ClassId) (k_G : ClassId) (k_K : ClassId) (sz : Nat) (Y_lo : Int32) (Y_ie : Int32) (Y_ra : Int32) (Y_to : Int64) (Y_te : Int32) (Y_re : Int32) (O_f : Nat → Int64) (N_f : Nat → Int32) (B_f : Nat → Int32) (G_f : Nat → Int32) (K_f : Nat → Int32) (a1 : Int32) (a2 : Int32) (a3 : Int32) (a4 : Int32) (o : Int32 × Int32 × Int32 × Int32 × Int64 × Int32 × Int32 × (Nat → Int64) × (Nat → Int32) × (Nat → Int32) × (Nat → Int32) × (Nat → Int32)) (hF : f_Y_fuseNarrow Y_lo Y_ie Y_ra Y_to Y_te Y_re O_f N_f B_f G_f K_f a1 a2 a3 a4 = some o) : Met l y_Y_fuseNarrow w_Y_fuseNarrow ({ frames := 6, cells := 0, slots := 0, locals := 156 } : Room) (va_Pc [.ref h_Y, .int a1, .int a2, .int a3, .int a4] (fun U => U.heap.size = sz ∧ va_P (dC, dI) classes [cY h_Y h_O h_N h_B h_G h_K Y_lo Y_ie Y_ra Y_to Y_te Y_re, cL h_O k_O 8 O_f, cI h_N k_N 8 N_f, cI h_B k_B 8 B_f, cI h_G k_G 30 G_f, cI h_K k_K 30 K_f] U.heap ∧ va_K (dC, dI) classes [(k_O, .long), (k_N, .int), (k_B, .boolean), (k_G, .int), (k_K, .int)] U ∧ va_D (fun _ => True) [cY h_Y h_O h_N h_B h_G h_K Y_lo Y_ie Y_ra Y_to Y_te Y_re, cL h_O k_O 8 O_f, cI h_N k_N 8 N_f, cI h_B k_B 8 B_f, cI h_G k_G 30 G_f, cI h_K k_K 30 K_f])) (va_Qi (fun (r : Int32) (_ : Unit) => r = o.1) (fun (_ : Unit) (t : State) => va_P (dC, dI) classes [cY h_Y h_O h_N h_B h_G h_K o.2.1 o.2.2.1 o.2.2.2.1 o.2.2.2.2.1 o.2.2.2.2.2.1 o.2.2.2.2.2.2.1, cL h_O k_O 8 o.2.2.2.2.2.2.2.1, cI h_N k_N 8 o.2.2.2.2.2.2.2.2.1, cI h_B k_B 8 o.2.2.2.2.2.2.2.2.2.1, cI h_G k_G 30 o.2.2.2.2.2.2.2.2.2.2.1, cI h_K k_K 30 o.2.2.2.2.2.2.2.2.2.2.2] t.heap ∧ va_K (dC, dI) classes [(k_O, .long), (k_N, .int), (k_B, .boolean), (k_G, .int), (k_K, .int)] t ∧ va_D (va_A [cY h_Y h_O h_N h_B h_G h_K Y_lo Y_ie Y_ra Y_to Y_te Y_re, cL h_O k_O 8 O_f, cI h_N k_N 8 N_f, cI h_B k_B 8 B_f, cI h_G k_G 30 G_f, cI h_K k_K 30 K_f] sz) [cY h_Y h_O h_N h_B h_G h_K o.2.1 o.2.2.1 o.2.2.2.1 o.2.2.2.2.1 o.2.2.2.2.2.1 o.2.2.2.2.2.2.1, cL h_O k_O 8 o.2.2.2.2.2.2.2.1, cI h_N k_N 8 o.2.2.2.2.2.2.2.2.1, cI h_B k_B 8 o.2.2.2.2.2.2.2.2.2.1, cI h_G k_G 30 o.2.2.2.2.2.2.2.2.2.2.1, cI h_K k_K 30 o.2.2.2.2.2.2.2.2.2.2.2]) (va_A [cY h_Y h_O h_N h_B h_G h_K Y_lo Y_ie Y_ra Y_to Y_te Y_re, cL h_O k_O 8 O_f, cI h_N k_N 8 N_f, cI h_B k_B 8 B_f, cI h_G k_G 30 G_f, cI h_K k_K 30 K_f] sz)) 0 0 (va_A [cY h_Y h_O h_N h_B h_G h_K Y_lo Y_ie Y_ra Y_to Y_te Y_re, cL h_O k_O 8 O_f, cI h_N k_N 8 N_f, cI h_B k_B 8 B_f, cI h_G k_G 30 G_f, cI h_K k_K 30 K_f] sz) := by
  refine Met.ofW (cc := prog_4_method_27_code) (maxL := 5) (ret := (some .int)) (by decide) rfl ?_
  intro p e s m args below meth c s₁ B hml hv
  obtain ⟨rfl, hsz, hP, hK, hD0⟩ := hv
  have hx := B.exec
  have hb := B.bytes
  have hr := B.returns
  have hts0 := atoms_spec (ws := w_Y_fuseNarrow) B.pre
  have hts : ∀ w ∈ tb, w.before _ s = true := fun w h => hts0 w (List.mem_cons_of_mem _ h)
  clear hts0
  have hown : s.vm.findClass "RoundedNumbersModel" = some m.cls := findClass_of_methodNamed B.named
  have hlocks := B.notSynchronized
  subst hsz
  have hD := hD0.self (sz := s.heap.size)
  generalize hAe : va_A [cY h_Y h_O h_N h_B h_G h_K Y_lo Y_ie Y_ra Y_to Y_te Y_re, cL h_O k_O 8 O_f, cI h_N k_N 8 N_f, cI h_B k_B 8 B_f, cI h_G k_G 30 G_f, cI h_K k_K 30 K_f] s.heap.size = A at hD ⊢
  have hA : ∀ q : Nat, s.heap.size ≤ q → A q := fun q h => by rw [← hAe]; exact Or.inr h
  clear hAe
  have hS : va_S A s.heap s.heap [] := va_S.rf
  have hP : va_P (dC, dI) classes [cY h_Y h_O h_N h_B h_G h_K Y_lo Y_ie Y_ra Y_to Y_te Y_re, cL h_O k_O 8 O_f, cI h_N k_N 8 N_f, cI h_B k_B 8 B_f, cI h_G k_G 30 G_f, cI h_K k_K 30 K_f] s.heap := hP
  have hl := lv_entry ([.ref h_Y, .int a1, .int a2, .int a3, .int a4]) (n := 5) (Nat.le_of_ble_eq_true rfl)
  rw [lg_entry_eq]
  generalize (lg_sl ([.ref h_Y, .int a1, .int a2, .int a3, .int a4]) ++ List.replicate (5 - (lg_sl ([.ref h_Y, .int a1, .int a2, .int a3, .int a4])).length) Slot.unset).toArray = ls at hl ⊢
  have hl : lv_has ls 5 [(0, .ref h_Y), (1, .int a1), (2, .int a2), (3, .int a3), (4, .int a4)] := hl
  unfold f_Y_fuseNarrow at hF
  refine lv_aload_n hx hb d_Y_fuseNarrow_0 rfl (lv_at hl 0 rfl) ?_
  refine lv_iload_n hx hb d_Y_fuseNarrow_1 rfl (lv_at hl 1 rfl) ?_
  refine lv_iload_n hx hb d_Y_fuseNarrow_2 rfl (lv_at hl 2 rfl) ?_
  refine lv_iload_n hx hb d_Y_fuseNarrow_3 rfl (lv_at hl 3 rfl) ?_
  refine lv_iconst (v := (1 : Int32)) hx hb d_Y_fuseNarrow_4 (by decide) ?_
  obtain ⟨q_5, hC_5, hF⟩ := hbd hF
  have hPc := hP.sub (ws' := [cY h_Y h_O h_N h_B h_G h_K Y_lo Y_ie Y_ra Y_to Y_te Y_re, cL h_O k_O 8 O_f]) [0, 1] rfl
  have hDc := hD.sub (ws' := [cY h_Y h_O h_N h_B h_G h_K Y_lo Y_ie Y_ra Y_to Y_te Y_re, cL h_O k_O 8 O_f]) [0, 1] (by decide) rfl
  have hKc := hK.sub (tys' := [(k_O, .long)]) [0] rfl
  have hFc := va_free (wc := [cY h_Y h_O h_N h_B h_G h_K Y_lo Y_ie Y_ra Y_to Y_te Y_re, cL h_O k_O 8 O_f]) hD hS hA [0, 1] rfl
  refine va_calli (va_runV (As := [.int a1, .int a2, .int a3, .int (1 : Int32)]) (rest := []) ⟨hx, hb, hml, hown, hts⟩ (c_Y_refused l dC dI h_Y h_O h_N h_B h_G h_K k_O s.heap.size Y_lo Y_ie Y_ra Y_to Y_te Y_re O_f a1 a2 a3 (1 : Int32) q_5 hC_5) (cwV 4 hts g_Y_112_Y_refused rfl rfl rfl (by decide +kernel) ⟨Nat.le_of_ble_eq_true rfl, Nat.le_of_ble_eq_true rfl⟩) ⟨fun a U g mk q => by obtain ⟨q0, q1, qP, qK, qD⟩ := q; exact ⟨q0, q1, qP, va_K.moved (u := U) (U := U.calling g mk a) (Vm.Alike.refl U.vm) qK, qD⟩, va_recv hKc hPc (ci := 2) (q0 := 0) rfl rfl, fun U hU hW => ⟨rfl, by rw [hU], by rw [hU]; exact hPc, va_K.moved hW.alike hKc, hDc.weaken (fun _ _ _ _ => trivial)⟩⟩ rfl rfl hl.1 rfl (lv_room (Nat.le_of_ble_eq_true rfl)) d_Y_fuseNarrow_5 ⟨Nat.zero_le _, Nat.zero_le _⟩) hS (fun q _ h => hFc q h) hFc (fun r u t H1 locs ht hvm hw hB hz1 hk1 hS => ?_)
  obtain ⟨hP1, hK1, hD1⟩ := hB
  replace hw := hw.symm
  subst hw
  rw [ht] at hP1
  obtain ⟨hP, hD⟩ := va_join (wr := [cI h_N k_N 8 N_f, cI h_B k_B 8 B_f, cI h_G k_G 30 G_f, cI h_K k_K 30 K_f]) (w1 := [cY h_Y h_O h_N h_B h_G h_K Y_lo Y_ie Y_ra Y_to Y_te Y_re, cL h_O k_O 8 O_f]) hP hD [0, 1] [2, 3, 4, 5] rfl rfl (by decide) (by decide) hk1 hFc hP1 hD1
  generalize H1 = H at hP hS ⊢
  have hP := hP.sub (ws' := [cY h_Y h_O h_N h_B h_G h_K Y_lo Y_ie Y_ra Y_to Y_te Y_re, cL h_O k_O 8 O_f, cI h_N k_N 8 N_f, cI h_B k_B 8 B_f, cI h_G k_G 30 G_f, cI h_K k_K 30 K_f]) [4, 5, 0, 1, 2, 3] rfl
  have hD := hD.sub (ws' := [cY h_Y h_O h_N h_B h_G h_K Y_lo Y_ie Y_ra Y_to Y_te Y_re, cL h_O k_O 8 O_f, cI h_N k_N 8 N_f, cI h_B k_B 8 B_f, cI h_G k_G 30 G_f, cI h_K k_K 30 K_f]) [4, 5, 0, 1, 2, 3] (by decide) rfl
  refine lv_if_ne (tgt := 28) hx hb d_Y_fuseNarrow_8 (by decide) (fun c_8 => ?_) (fun c_8 => ?_)
  · replace hF := hif_f c_8 hF
    refine lv_iconst (v := (-1 : Int32)) hx hb d_Y_fuseNarrow_28 (by decide) ?_
    refine lv_goto (tgt := 43) hx hb d_Y_fuseNarrow_29 (by decide) ?_
    obtain rfl := Option.some.inj hF
    exact W.iret (v := (-1 : Int32)) hx hb hr (fun t ht hW => ⟨⟨(-1 : Int32), (), rfl, rfl, by rw [ht]; exact hP, va_K.moved hW.alike hK, hD⟩, hS.F ht⟩) hS.2.2 d_Y_fuseNarrow_43
  · replace hF := hif_t c_8 hF
    refine lv_iload hx hb d_Y_fuseNarrow_11 (lv_at hl 4 rfl) ?_
    obtain ⟨q_13, hC_13, hF⟩ := hbd hF
    have hPc := hP.sub (ws' := []) [] rfl
    have hDc := hD.sub (ws' := []) [] (by decide) rfl
    have hKc := hK.sub (tys' := []) [] rfl
    have hFc := va_free (wc := []) hD hS hA [] rfl
    refine va_calli (va_runS (As := [.int a4]) (rest := []) ⟨hx, hb, hml, hown, hts⟩ (c_Y_out l dC dI H.size a4 q_13 hC_13) (cwS 1 hts g_Y_101_Y_out rfl rfl rfl (by decide +kernel) ⟨Nat.le_of_ble_eq_true rfl, Nat.le_of_ble_eq_true rfl⟩) ⟨fun a U g mk q => by obtain ⟨q0, q1, qP, qK, qD⟩ := q; exact ⟨q0, q1, qP, va_K.moved (u := U) (U := U.calling g mk a) (Vm.Alike.refl U.vm) qK, qD⟩, fun U hU hW => ⟨rfl, by rw [hU], by rw [hU]; exact hPc, va_K.moved hW.alike hKc, hDc.weaken (fun _ _ _ _ => trivial)⟩⟩ rfl rfl hl.1 rfl (lv_room (Nat.le_of_ble_eq_true rfl)) d_Y_fuseNarrow_13 ⟨Nat.zero_le _, Nat.zero_le _⟩) hS (fun q _ h => hFc q h) hFc (fun r u t H1 locs ht hvm hw hB hz1 hk1 hS => ?_)
    obtain ⟨hP1, hK1, hD1⟩ := hB
    replace hw := hw.symm
    subst hw
    rw [ht] at hP1
    obtain ⟨hP, hD⟩ := va_join (wr := [cY h_Y h_O h_N h_B h_G h_K Y_lo Y_ie Y_ra Y_to Y_te Y_re, cL h_O k_O 8 O_f, cI h_N k_N 8 N_f, cI h_B k_B 8 B_f, cI h_G k_G 30 G_f, cI h_K k_K 30 K_f]) (w1 := []) hP hD [] [0, 1, 2, 3, 4, 5] rfl rfl (by decide) (by decide) hk1 hFc hP1 hD1
    generalize H1 = H at hP hS ⊢
    have hP := hP.sub (ws' := [cY h_Y h_O h_N h_B h_G h_K Y_lo Y_ie Y_ra Y_to Y_te Y_re, cL h_O k_O 8 O_f, cI h_N k_N 8 N_f, cI h_B k_B 8 B_f, cI h_G k_G 30 G_f, cI h_K k_K 30 K_f]) [0, 1, 2, 3, 4, 5] rfl
    have hD := hD.sub (ws' := [cY h_Y h_O h_N h_B h_G h_K Y_lo Y_ie Y_ra Y_to Y_te Y_re, cL h_O k_O 8 O_f, cI h_N k_N 8 N_f, cI h_B k_B 8 B_f, cI h_G k_G 30 G_f, cI h_K k_K 30 K_f]) [0, 1, 2, 3, 4, 5] (by decide) rfl
    refine lv_if_ne (tgt := 28) hx hb d_Y_fuseNarrow_16 (by decide) (fun c_16 => ?_) (fun c_16 => ?_)
    · replace hF := hif_f c_16 hF
      refine lv_iconst (v := (-1 : Int32)) hx hb d_Y_fuseNarrow_28 (by decide) ?_
      refine lv_goto (tgt := 43) hx hb d_Y_fuseNarrow_29 (by decide) ?_
      obtain rfl := Option.some.inj hF
      exact W.iret (v := (-1 : Int32)) hx hb hr (fun t ht hW => ⟨⟨(-1 : Int32), (), rfl, rfl, by rw [ht]; exact hP, va_K.moved hW.alike hK, hD⟩, hS.F ht⟩) hS.2.2 d_Y_fuseNarrow_43
    · replace hF := hif_t c_16 hF
      refine lv_aload_n hx hb d_Y_fuseNarrow_19 rfl (lv_at hl 0 rfl) ?_
      refine lv_iload hx hb d_Y_fuseNarrow_20 (lv_at hl 4 rfl) ?_
      obtain ⟨q_22, hC_22, hF⟩ := hbd hF
      have hPc := hP.sub (ws' := [cY h_Y h_O h_N h_B h_G h_K Y_lo Y_ie Y_ra Y_to Y_te Y_re, cL h_O k_O 8 O_f]) [0, 1] rfl
      have hDc := hD.sub (ws' := [cY h_Y h_O h_N h_B h_G h_K Y_lo Y_ie Y_ra Y_to Y_te Y_re, cL h_O k_O 8 O_f]) [0, 1] (by decide) rfl
      have hKc := hK.sub (tys' := [(k_O, .long)]) [0] rfl
      have hFc := va_free (wc := [cY h_Y h_O h_N h_B h_G h_K Y_lo Y_ie Y_ra Y_to Y_te Y_re, cL h_O k_O 8 O_f]) hD hS hA [0, 1] rfl
      refine va_calli (va_runV (As := [.int a4]) (rest := []) ⟨hx, hb, hml, hown, hts⟩ (c_Y_narrow l dC dI h_Y h_O h_N h_B h_G h_K k_O H.size Y_lo Y_ie Y_ra Y_to Y_te Y_re O_f a4 q_22 hC_22) (cwV 1 hts g_Y_109_Y_narrow rfl rfl rfl (by decide +kernel) ⟨Nat.le_of_ble_eq_true rfl, Nat.le_of_ble_eq_true rfl⟩) ⟨fun a U g mk q => by obtain ⟨q0, q1, qP, qK, qD⟩ := q; exact ⟨q0, q1, qP, va_K.moved (u := U) (U := U.calling g mk a) (Vm.Alike.refl U.vm) qK, qD⟩, va_recv hKc hPc (ci := 2) (q0 := 0) rfl rfl, fun U hU hW => ⟨rfl, by rw [hU], by rw [hU]; exact hPc, va_K.moved hW.alike hKc, hDc.weaken (fun _ _ _ _ => trivial)⟩⟩ rfl rfl hl.1 rfl (lv_room (Nat.le_of_ble_eq_true rfl)) d_Y_fuseNarrow_22 ⟨Nat.zero_le _, Nat.zero_le _⟩) hS (fun q _ h => hFc q h) hFc (fun r u t H1 locs ht hvm hw hB hz1 hk1 hS => ?_)
      obtain ⟨hP1, hK1, hD1⟩ := hB
      replace hw := hw.symm
      subst hw
      rw [ht] at hP1
      obtain ⟨hP, hD⟩ := va_join (wr := [cI h_N k_N 8 N_f, cI h_B k_B 8 B_f, cI h_G k_G 30 G_f, cI h_K k_K 30 K_f]) (w1 := [cY h_Y h_O h_N h_B h_G h_K Y_lo Y_ie Y_ra Y_to Y_te Y_re, cL h_O k_O 8 O_f]) hP hD [0, 1] [2, 3, 4, 5] rfl rfl (by decide) (by decide) hk1 hFc hP1 hD1
      generalize H1 = H at hP hS ⊢
      have hP := hP.sub (ws' := [cY h_Y h_O h_N h_B h_G h_K Y_lo Y_ie Y_ra Y_to Y_te Y_re, cL h_O k_O 8 O_f, cI h_N k_N 8 N_f, cI h_B k_B 8 B_f, cI h_G k_G 30 G_f, cI h_K k_K 30 K_f]) [4, 5, 0, 1, 2, 3] rfl
      have hD := hD.sub (ws' := [cY h_Y h_O h_N h_B h_G h_K Y_lo Y_ie Y_ra Y_to Y_te Y_re, cL h_O k_O 8 O_f, cI h_N k_N 8 N_f, cI h_B k_B 8 B_f, cI h_G k_G 30 G_f, cI h_K k_K 30 K_f]) [4, 5, 0, 1, 2, 3] (by decide) rfl
      refine lv_if_ne (tgt := 32) hx hb d_Y_fuseNarrow_25 (by decide) (fun c_25 => ?_) (fun c_25 => ?_)
      · replace hF := hif_f c_25 hF
        refine lv_aload_n hx hb d_Y_fuseNarrow_32 rfl (lv_at hl 0 rfl) ?_
        refine lv_iload_n hx hb d_Y_fuseNarrow_33 rfl (lv_at hl 1 rfl) ?_
        refine lv_iload_n hx hb d_Y_fuseNarrow_34 rfl (lv_at hl 2 rfl) ?_
        refine lv_iload_n hx hb d_Y_fuseNarrow_35 rfl (lv_at hl 3 rfl) ?_
        refine lv_iload hx hb d_Y_fuseNarrow_36 (lv_at hl 4 rfl) ?_
        refine lv_bipush (v := (24 : Int32)) hx hb d_Y_fuseNarrow_38 (by decide) ?_
        obtain ⟨q_40, hC_40, hF⟩ := hbd hF
        have hPc := hP.sub (ws' := [cY h_Y h_O h_N h_B h_G h_K Y_lo Y_ie Y_ra Y_to Y_te Y_re, cL h_O k_O 8 O_f, cI h_N k_N 8 N_f, cI h_B k_B 8 B_f, cI h_G k_G 30 G_f, cI h_K k_K 30 K_f]) [0, 1, 2, 3, 4, 5] rfl
        have hDc := hD.sub (ws' := [cY h_Y h_O h_N h_B h_G h_K Y_lo Y_ie Y_ra Y_to Y_te Y_re, cL h_O k_O 8 O_f, cI h_N k_N 8 N_f, cI h_B k_B 8 B_f, cI h_G k_G 30 G_f, cI h_K k_K 30 K_f]) [0, 1, 2, 3, 4, 5] (by decide) rfl
        have hKc := hK.sub (tys' := [(k_O, .long), (k_N, .int), (k_B, .boolean), (k_G, .int), (k_K, .int)]) [0, 1, 2, 3, 4] rfl
        have hFc := va_free (wc := [cY h_Y h_O h_N h_B h_G h_K Y_lo Y_ie Y_ra Y_to Y_te Y_re, cL h_O k_O 8 O_f, cI h_N k_N 8 N_f, cI h_B k_B 8 B_f, cI h_G k_G 30 G_f, cI h_K k_K 30 K_f]) hD hS hA [0, 1, 2, 3, 4, 5] rfl
        refine va_calli (va_runV (As := [.int a1, .int a2, .int a3, .int a4, .int (24 : Int32)]) (rest := []) ⟨hx, hb, hml, hown, hts⟩ (c_Y_fused l dC dI h_Y h_O h_N h_B h_G h_K k_O k_N k_B k_G k_K H.size Y_lo Y_ie Y_ra Y_to Y_te Y_re O_f N_f B_f G_f K_f a1 a2 a3 a4 (24 : Int32) q_40 hC_40) (cwV 5 hts g_Y_136_Y_fused rfl rfl rfl (by decide +kernel) ⟨Nat.le_of_ble_eq_true rfl, Nat.le_of_ble_eq_true rfl⟩) ⟨fun a U g mk q => by obtain ⟨q0, q1, qP, qK, qD⟩ := q; exact ⟨q0, q1, qP, va_K.moved (u := U) (U := U.calling g mk a) (Vm.Alike.refl U.vm) qK, qD⟩, va_recv hKc hPc (ci := 2) (q0 := 0) rfl rfl, fun U hU hW => ⟨rfl, by rw [hU], by rw [hU]; exact hPc, va_K.moved hW.alike hKc, hDc.weaken (fun _ _ _ _ => trivial)⟩⟩ rfl rfl hl.1 rfl (lv_room (Nat.le_of_ble_eq_true rfl)) d_Y_fuseNarrow_40 ⟨Nat.zero_le _, Nat.zero_le _⟩) hS (fun q _ h => hFc q h) hFc (fun r u t H1 locs ht hvm hw hB hz1 hk1 hS => ?_)
        obtain ⟨hP1, hK1, hD1⟩ := hB
        replace hw := hw.symm
        subst hw
        rw [ht] at hP1
        obtain ⟨hP, hD⟩ := va_join (wr := []) (w1 := [cY h_Y h_O h_N h_B h_G h_K q_40.2.1 q_40.2.2.1 q_40.2.2.2.1 q_40.2.2.2.2.1 q_40.2.2.2.2.2.1 q_40.2.2.2.2.2.2.1, cL h_O k_O 8 q_40.2.2.2.2.2.2.2.1, cI h_N k_N 8 q_40.2.2.2.2.2.2.2.2.1, cI h_B k_B 8 q_40.2.2.2.2.2.2.2.2.2.1, cI h_G k_G 30 q_40.2.2.2.2.2.2.2.2.2.2.1, cI h_K k_K 30 q_40.2.2.2.2.2.2.2.2.2.2.2]) hP hD [0, 1, 2, 3, 4, 5] [] rfl rfl (by decide) (by decide) hk1 hFc hP1 hD1
        generalize H1 = H at hP hS ⊢
        have hP := hP.sub (ws' := [cY h_Y h_O h_N h_B h_G h_K q_40.2.1 q_40.2.2.1 q_40.2.2.2.1 q_40.2.2.2.2.1 q_40.2.2.2.2.2.1 q_40.2.2.2.2.2.2.1, cL h_O k_O 8 q_40.2.2.2.2.2.2.2.1, cI h_N k_N 8 q_40.2.2.2.2.2.2.2.2.1, cI h_B k_B 8 q_40.2.2.2.2.2.2.2.2.2.1, cI h_G k_G 30 q_40.2.2.2.2.2.2.2.2.2.2.1, cI h_K k_K 30 q_40.2.2.2.2.2.2.2.2.2.2.2]) [0, 1, 2, 3, 4, 5] rfl
        have hD := hD.sub (ws' := [cY h_Y h_O h_N h_B h_G h_K q_40.2.1 q_40.2.2.1 q_40.2.2.2.1 q_40.2.2.2.2.1 q_40.2.2.2.2.2.1 q_40.2.2.2.2.2.2.1, cL h_O k_O 8 q_40.2.2.2.2.2.2.2.1, cI h_N k_N 8 q_40.2.2.2.2.2.2.2.2.1, cI h_B k_B 8 q_40.2.2.2.2.2.2.2.2.2.1, cI h_G k_G 30 q_40.2.2.2.2.2.2.2.2.2.2.1, cI h_K k_K 30 q_40.2.2.2.2.2.2.2.2.2.2.2]) [0, 1, 2, 3, 4, 5] (by decide) rfl
        obtain rfl := Option.some.inj hF
        exact W.iret (v := q_40.1) hx hb hr (fun t ht hW => ⟨⟨q_40.1, (), rfl, rfl, by rw [ht]; exact hP, va_K.moved hW.alike hK, hD⟩, hS.F ht⟩) hS.2.2 d_Y_fuseNarrow_43
      · replace hF := hif_t c_25 hF
        refine lv_iconst (v := (-1 : Int32)) hx hb d_Y_fuseNarrow_28 (by decide) ?_
        refine lv_goto (tgt := 43) hx hb d_Y_fuseNarrow_29 (by decide) ?_
        obtain rfl := Option.some.inj hF
        exact W.iret (v := (-1 : Int32)) hx hb hr (fun t ht hW => ⟨⟨(-1 : Int32), (), rfl, rfl, by rw [ht]; exact hP, va_K.moved hW.alike hK, hD⟩, hS.F ht⟩) hS.2.2 d_Y_fuseNarrow_43
set_option maxHeartbeats 4000000 in
set_option maxRecDepth 100000 in
theorem c_Y_divide (l : Launch) (dC : Nat → ClassId) (dI : Nat → Nat → Nat) (h_Y : Nat) (h_O : Nat) (h_N : Nat) (h_B : Nat) (h_G : Nat) (h_K : Nat) (k_O : ClassId) (k_N : ClassId) (k_B : ClassId) (sz : Nat) (Y_lo : Int32) (Y_ie : Int32) (Y_ra : Int32) (Y_to : Int64) (Y_te : Int32) (Y_re : Int32) (O_f : Nat → Int64) (N_f : Nat → Int32) (B_f : Nat → Int32) (a1 : Int32) (a2 : Int32) (a3 : Int32) (a4 : Int32) (o : Int32 × Int32 × Int32 × Int32 × Int64 × Int32 × Int32 × (Nat → Int64) × (Nat → Int32) × (Nat → Int32)) (hF : f_Y_divide Y_lo Y_ie Y_ra Y_to Y_te Y_re O_f N_f B_f a1 a2 a3 a4 = some o) : Met l y_Y_divide w_Y_divide ({ frames := 4, cells := 0, slots := 0, locals := 104 } : Room) (va_Pc [.ref h_Y, .int a1, .int a2, .int a3, .int a4] (fun U => U.heap.size = sz ∧ va_P (dC, dI) classes [cY h_Y h_O h_N h_B h_G h_K Y_lo Y_ie Y_ra Y_to Y_te Y_re, cL h_O k_O 8 O_f, cI h_N k_N 8 N_f, cI h_B k_B 8 B_f] U.heap ∧ va_K (dC, dI) classes [(k_O, .long), (k_N, .int), (k_B, .boolean)] U ∧ va_D (fun _ => True) [cY h_Y h_O h_N h_B h_G h_K Y_lo Y_ie Y_ra Y_to Y_te Y_re, cL h_O k_O 8 O_f, cI h_N k_N 8 N_f, cI h_B k_B 8 B_f])) (va_Qi (fun (r : Int32) (_ : Unit) => r = o.1) (fun (_ : Unit) (t : State) => va_P (dC, dI) classes [cY h_Y h_O h_N h_B h_G h_K o.2.1 o.2.2.1 o.2.2.2.1 o.2.2.2.2.1 o.2.2.2.2.2.1 o.2.2.2.2.2.2.1, cL h_O k_O 8 o.2.2.2.2.2.2.2.1, cI h_N k_N 8 o.2.2.2.2.2.2.2.2.1, cI h_B k_B 8 o.2.2.2.2.2.2.2.2.2] t.heap ∧ va_K (dC, dI) classes [(k_O, .long), (k_N, .int), (k_B, .boolean)] t ∧ va_D (va_A [cY h_Y h_O h_N h_B h_G h_K Y_lo Y_ie Y_ra Y_to Y_te Y_re, cL h_O k_O 8 O_f, cI h_N k_N 8 N_f, cI h_B k_B 8 B_f] sz) [cY h_Y h_O h_N h_B h_G h_K o.2.1 o.2.2.1 o.2.2.2.1 o.2.2.2.2.1 o.2.2.2.2.2.1 o.2.2.2.2.2.2.1, cL h_O k_O 8 o.2.2.2.2.2.2.2.1, cI h_N k_N 8 o.2.2.2.2.2.2.2.2.1, cI h_B k_B 8 o.2.2.2.2.2.2.2.2.2]) (va_A [cY h_Y h_O h_N h_B h_G h_K Y_lo Y_ie Y_ra Y_to Y_te Y_re, cL h_O k_O 8 O_f, cI h_N k_N 8 N_f, cI h_B k_B 8 B_f] sz)) 0 0 (va_A [cY h_Y h_O h_N h_B h_G h_K Y_lo Y_ie Y_ra Y_to Y_te Y_re, cL h_O k_O 8 O_f, cI h_N k_N 8 N_f, cI h_B k_B 8 B_f] sz) := by
  refine Met.ofW (cc := prog_4_method_28_code) (maxL := 10) (ret := (some .int)) (by decide) rfl ?_
  intro p e s m args below meth c s₁ B hml hv
  obtain ⟨rfl, hsz, hP, hK, hD0⟩ := hv
  have hx := B.exec
  have hb := B.bytes
  have hr := B.returns
  have hts0 := atoms_spec (ws := w_Y_divide) B.pre
  have hts : ∀ w ∈ tb, w.before _ s = true := fun w h => hts0 w (List.mem_cons_of_mem _ h)
  clear hts0
  have hown : s.vm.findClass "RoundedNumbersModel" = some m.cls := findClass_of_methodNamed B.named
  have hlocks := B.notSynchronized
  subst hsz
  have hD := hD0.self (sz := s.heap.size)
  generalize hAe : va_A [cY h_Y h_O h_N h_B h_G h_K Y_lo Y_ie Y_ra Y_to Y_te Y_re, cL h_O k_O 8 O_f, cI h_N k_N 8 N_f, cI h_B k_B 8 B_f] s.heap.size = A at hD ⊢
  have hA : ∀ q : Nat, s.heap.size ≤ q → A q := fun q h => by rw [← hAe]; exact Or.inr h
  clear hAe
  have hS : va_S A s.heap s.heap [] := va_S.rf
  have hP : va_P (dC, dI) classes [cY h_Y h_O h_N h_B h_G h_K Y_lo Y_ie Y_ra Y_to Y_te Y_re, cL h_O k_O 8 O_f, cI h_N k_N 8 N_f, cI h_B k_B 8 B_f] s.heap := hP
  have hl := lv_entry ([.ref h_Y, .int a1, .int a2, .int a3, .int a4]) (n := 10) (Nat.le_of_ble_eq_true rfl)
  rw [lg_entry_eq]
  generalize (lg_sl ([.ref h_Y, .int a1, .int a2, .int a3, .int a4]) ++ List.replicate (10 - (lg_sl ([.ref h_Y, .int a1, .int a2, .int a3, .int a4])).length) Slot.unset).toArray = ls at hl ⊢
  have hl : lv_has ls 10 [(0, .ref h_Y), (1, .int a1), (2, .int a2), (3, .int a3), (4, .int a4)] := hl
  have b_246 : ∀ (x4 : Int32) (y0 : Int32) (y1 : Int32) (Y_lo : Int32) (Y_ie : Int32) (Y_ra : Int32) (Y_to : Int64) (Y_te : Int32) (Y_re : Int32) (O_f : Nat → Int64) (N_f : Nat → Int32) (B_f : Nat → Int32) (H : Heap) (locs : List Loc) (ls : Array Slot), va_P (dC, dI) classes [cY h_Y h_O h_N h_B h_G h_K Y_lo Y_ie Y_ra Y_to Y_te Y_re, cL h_O k_O 8 O_f, cI h_N k_N 8 N_f, cI h_B k_B 8 B_f] H → va_D A [cY h_Y h_O h_N h_B h_G h_K Y_lo Y_ie Y_ra Y_to Y_te Y_re, cL h_O k_O 8 O_f, cI h_N k_N 8 N_f, cI h_B k_B 8 B_f] → va_S A s.heap H locs → lv_has ls 10 [(4, .int x4)] → f_Y_divide_246  x4 y0 y1 Y_lo Y_ie Y_ra Y_to Y_te Y_re O_f N_f B_f = some o → W p l e (headSpec w_Y_divide ({ frames := 4, cells := 0, slots := 0, locals := 104 } : Room)).room s m ([.ref h_Y, .int a1, .int a2, .int a3, .int a4] : List Value).toArray below meth c H locs 0 0 (MQ below (va_Qi (fun (r : Int32) (_ : Unit) => r = o.1) (fun (_ : Unit) (t : State) => va_P (dC, dI) classes [cY h_Y h_O h_N h_B h_G h_K o.2.1 o.2.2.1 o.2.2.2.1 o.2.2.2.2.1 o.2.2.2.2.2.1 o.2.2.2.2.2.2.1, cL h_O k_O 8 o.2.2.2.2.2.2.2.1, cI h_N k_N 8 o.2.2.2.2.2.2.2.2.1, cI h_B k_B 8 o.2.2.2.2.2.2.2.2.2] t.heap ∧ va_K (dC, dI) classes [(k_O, .long), (k_N, .int), (k_B, .boolean)] t ∧ va_D A [cY h_Y h_O h_N h_B h_G h_K o.2.1 o.2.2.1 o.2.2.2.1 o.2.2.2.2.1 o.2.2.2.2.2.1 o.2.2.2.2.2.2.1, cL h_O k_O 8 o.2.2.2.2.2.2.2.1, cI h_N k_N 8 o.2.2.2.2.2.2.2.2.1, cI h_B k_B 8 o.2.2.2.2.2.2.2.2.2]) A) ([.ref h_Y, .int a1, .int a2, .int a3, .int a4] : List Value).toArray s 0 0 A) (F0 m 246 ls [.int y0, .int y1, .ref h_Y]) := by
    intro x4 y0 y1 Y_lo Y_ie Y_ra Y_to Y_te Y_re O_f N_f B_f H locs ls hP hD hS hl hF
    unfold f_Y_divide_246 at hF
    refine lv_iload hx hb d_Y_divide_246 (lv_at hl 0 rfl) ?_
    obtain ⟨q_248, hC_248, hF⟩ := hbd hF
    have hPc := hP.sub (ws' := []) [] rfl
    have hDc := hD.sub (ws' := []) [] (by decide) rfl
    have hKc := hK.sub (tys' := []) [] rfl
    have hFc := va_free (wc := []) hD hS hA [] rfl
    refine va_calli (va_runS (As := [.int x4]) (rest := [.int y0, .int y1, .ref h_Y]) ⟨hx, hb, hml, hown, hts⟩ (c_Y_size l dC dI H.size x4 q_248 hC_248) (cwS 1 hts g_Y_120_Y_size rfl rfl rfl (by decide +kernel) ⟨Nat.le_of_ble_eq_true rfl, Nat.le_of_ble_eq_true rfl⟩) ⟨fun a U g mk q => by obtain ⟨q0, q1, qP, qK, qD⟩ := q; exact ⟨q0, q1, qP, va_K.moved (u := U) (U := U.calling g mk a) (Vm.Alike.refl U.vm) qK, qD⟩, fun U hU hW => ⟨rfl, by rw [hU], by rw [hU]; exact hPc, va_K.moved hW.alike hKc, hDc.weaken (fun _ _ _ _ => trivial)⟩⟩ rfl rfl hl.1 rfl (lv_room (Nat.le_of_ble_eq_true rfl)) d_Y_divide_248 ⟨Nat.zero_le _, Nat.zero_le _⟩) hS (fun q _ h => hFc q h) hFc (fun r u t H1 locs ht hvm hw hB hz1 hk1 hS => ?_)
    obtain ⟨hP1, hK1, hD1⟩ := hB
    replace hw := hw.symm
    subst hw
    rw [ht] at hP1
    obtain ⟨hP, hD⟩ := va_join (wr := [cY h_Y h_O h_N h_B h_G h_K Y_lo Y_ie Y_ra Y_to Y_te Y_re, cL h_O k_O 8 O_f, cI h_N k_N 8 N_f, cI h_B k_B 8 B_f]) (w1 := []) hP hD [] [0, 1, 2, 3] rfl rfl (by decide) (by decide) hk1 hFc hP1 hD1
    generalize H1 = H at hP hS ⊢
    have hP := hP.sub (ws' := [cY h_Y h_O h_N h_B h_G h_K Y_lo Y_ie Y_ra Y_to Y_te Y_re, cL h_O k_O 8 O_f, cI h_N k_N 8 N_f, cI h_B k_B 8 B_f]) [0, 1, 2, 3] rfl
    have hD := hD.sub (ws' := [cY h_Y h_O h_N h_B h_G h_K Y_lo Y_ie Y_ra Y_to Y_te Y_re, cL h_O k_O 8 O_f, cI h_N k_N 8 N_f, cI h_B k_B 8 B_f]) [0, 1, 2, 3] (by decide) rfl
    obtain ⟨q_251, hC_251, hF⟩ := hbd hF
    have hPc := hP.sub (ws' := [cY h_Y h_O h_N h_B h_G h_K Y_lo Y_ie Y_ra Y_to Y_te Y_re, cL h_O k_O 8 O_f, cI h_N k_N 8 N_f, cI h_B k_B 8 B_f]) [0, 1, 2, 3] rfl
    have hDc := hD.sub (ws' := [cY h_Y h_O h_N h_B h_G h_K Y_lo Y_ie Y_ra Y_to Y_te Y_re, cL h_O k_O 8 O_f, cI h_N k_N 8 N_f, cI h_B k_B 8 B_f]) [0, 1, 2, 3] (by decide) rfl
    have hKc := hK.sub (tys' := [(k_O, .long), (k_N, .int), (k_B, .boolean)]) [0, 1, 2] rfl
    have hFc := va_free (wc := [cY h_Y h_O h_N h_B h_G h_K Y_lo Y_ie Y_ra Y_to Y_te Y_re, cL h_O k_O 8 O_f, cI h_N k_N 8 N_f, cI h_B k_B 8 B_f]) hD hS hA [0, 1, 2, 3] rfl
    refine va_calli (va_runV (As := [.int y1, .int y0, .int q_248]) (rest := []) ⟨hx, hb, hml, hown, hts⟩ (c_Y_round l dC dI h_Y h_O h_N h_B h_G h_K k_O k_N k_B H.size Y_lo Y_ie Y_ra Y_to Y_te Y_re O_f N_f B_f y1 y0 q_248 q_251 hC_251) (cwV 3 hts g_Y_97_Y_round rfl rfl rfl (by decide +kernel) ⟨Nat.le_of_ble_eq_true rfl, Nat.le_of_ble_eq_true rfl⟩) ⟨fun a U g mk q => by obtain ⟨q0, q1, qP, qK, qD⟩ := q; exact ⟨q0, q1, qP, va_K.moved (u := U) (U := U.calling g mk a) (Vm.Alike.refl U.vm) qK, qD⟩, va_recv hKc hPc (ci := 2) (q0 := 0) rfl rfl, fun U hU hW => ⟨rfl, by rw [hU], by rw [hU]; exact hPc, va_K.moved hW.alike hKc, hDc.weaken (fun _ _ _ _ => trivial)⟩⟩ rfl rfl hl.1 rfl (lv_room (Nat.le_of_ble_eq_true rfl)) d_Y_divide_251 ⟨Nat.zero_le _, Nat.zero_le _⟩) hS (fun q _ h => hFc q h) hFc (fun r u t H1 locs ht hvm hw hB hz1 hk1 hS => ?_)
    obtain ⟨hP1, hK1, hD1⟩ := hB
    replace hw := hw.symm
    subst hw
    rw [ht] at hP1
    obtain ⟨hP, hD⟩ := va_join (wr := []) (w1 := [cY h_Y h_O h_N h_B h_G h_K q_251.2.1 q_251.2.2.1 q_251.2.2.2.1 Y_to Y_te Y_re, cL h_O k_O 8 q_251.2.2.2.2.1, cI h_N k_N 8 q_251.2.2.2.2.2.1, cI h_B k_B 8 q_251.2.2.2.2.2.2]) hP hD [0, 1, 2, 3] [] rfl rfl (by decide) (by decide) hk1 hFc hP1 hD1
    generalize H1 = H at hP hS ⊢
    have hP := hP.sub (ws' := [cY h_Y h_O h_N h_B h_G h_K q_251.2.1 q_251.2.2.1 q_251.2.2.2.1 Y_to Y_te Y_re, cL h_O k_O 8 q_251.2.2.2.2.1, cI h_N k_N 8 q_251.2.2.2.2.2.1, cI h_B k_B 8 q_251.2.2.2.2.2.2]) [0, 1, 2, 3] rfl
    have hD := hD.sub (ws' := [cY h_Y h_O h_N h_B h_G h_K q_251.2.1 q_251.2.2.1 q_251.2.2.2.1 Y_to Y_te Y_re, cL h_O k_O 8 q_251.2.2.2.2.1, cI h_N k_N 8 q_251.2.2.2.2.2.1, cI h_B k_B 8 q_251.2.2.2.2.2.2]) [0, 1, 2, 3] (by decide) rfl
    obtain rfl := Option.some.inj hF
    exact W.iret (v := q_251.1) hx hb hr (fun t ht hW => ⟨⟨q_251.1, (), rfl, rfl, by rw [ht]; exact hP, va_K.moved hW.alike hK, hD⟩, hS.F ht⟩) hS.2.2 d_Y_divide_254
  have b_201 : ∀ (x1 : Int32) (x2 : Int32) (x3 : Int32) (x4 : Int32) (x8 : Int32) (y0 : Int32) (Y_lo : Int32) (Y_ie : Int32) (Y_ra : Int32) (Y_to : Int64) (Y_te : Int32) (Y_re : Int32) (O_f : Nat → Int64) (N_f : Nat → Int32) (B_f : Nat → Int32) (H : Heap) (locs : List Loc) (ls : Array Slot), va_P (dC, dI) classes [cY h_Y h_O h_N h_B h_G h_K Y_lo Y_ie Y_ra Y_to Y_te Y_re, cL h_O k_O 8 O_f, cI h_N k_N 8 N_f, cI h_B k_B 8 B_f] H → va_D A [cY h_Y h_O h_N h_B h_G h_K Y_lo Y_ie Y_ra Y_to Y_te Y_re, cL h_O k_O 8 O_f, cI h_N k_N 8 N_f, cI h_B k_B 8 B_f] → va_S A s.heap H locs → lv_has ls 10 [(0, .ref h_Y), (1, .int x1), (2, .int x2), (3, .int x3), (4, .int x4), (8, .int x8)] → f_Y_divide_201  x1 x2 x3 x4 x8 y0 Y_lo Y_ie Y_ra Y_to Y_te Y_re O_f N_f B_f = some o → W p l e (headSpec w_Y_divide ({ frames := 4, cells := 0, slots := 0, locals := 104 } : Room)).room s m ([.ref h_Y, .int a1, .int a2, .int a3, .int a4] : List Value).toArray below meth c H locs 0 0 (MQ below (va_Qi (fun (r : Int32) (_ : Unit) => r = o.1) (fun (_ : Unit) (t : State) => va_P (dC, dI) classes [cY h_Y h_O h_N h_B h_G h_K o.2.1 o.2.2.1 o.2.2.2.1 o.2.2.2.2.1 o.2.2.2.2.2.1 o.2.2.2.2.2.2.1, cL h_O k_O 8 o.2.2.2.2.2.2.2.1, cI h_N k_N 8 o.2.2.2.2.2.2.2.2.1, cI h_B k_B 8 o.2.2.2.2.2.2.2.2.2] t.heap ∧ va_K (dC, dI) classes [(k_O, .long), (k_N, .int), (k_B, .boolean)] t ∧ va_D A [cY h_Y h_O h_N h_B h_G h_K o.2.1 o.2.2.1 o.2.2.2.1 o.2.2.2.2.1 o.2.2.2.2.2.1 o.2.2.2.2.2.2.1, cL h_O k_O 8 o.2.2.2.2.2.2.2.1, cI h_N k_N 8 o.2.2.2.2.2.2.2.2.1, cI h_B k_B 8 o.2.2.2.2.2.2.2.2.2]) A) ([.ref h_Y, .int a1, .int a2, .int a3, .int a4] : List Value).toArray s 0 0 A) (F0 m 201 ls [.int y0, .ref h_Y]) := by
    intro x1 x2 x3 x4 x8 y0 Y_lo Y_ie Y_ra Y_to Y_te Y_re O_f N_f B_f H locs ls hP hD hS hl hF
    unfold f_Y_divide_201 at hF
    have c_201 : y0 = 0 ∨ y0 = 1 := hif_y hF
    replace hF := hif_t c_201 hF
    refine va_put (D := (dC, dI)) (ci := 2) (v := .int y0) (ty := .boolean) (C := "RoundedNumbersModel") (T := F_Y) (N := 11) hx hb hts in_Y t_Y t_Y_ok n_Y hown hK hP hD hS 0 rfl rfl 10 (by decide) (hts _ tw_324) (fun _ h9 => h9) rfl (by decide +kernel) (zb_nar c_201) (zb_fit c_201) (Nat.le_of_ble_eq_true rfl) d_Y_divide_201 (fun H locs hP hD hS => ?_)
    have hP : va_P (dC, dI) classes [cY h_Y h_O h_N h_B h_G h_K Y_lo Y_ie Y_ra Y_to Y_te y0, cL h_O k_O 8 O_f, cI h_N k_N 8 N_f, cI h_B k_B 8 B_f] H := hP
    have hD : va_D A [cY h_Y h_O h_N h_B h_G h_K Y_lo Y_ie Y_ra Y_to Y_te y0, cL h_O k_O 8 O_f, cI h_N k_N 8 N_f, cI h_B k_B 8 B_f] := hD
    refine lv_aload_n hx hb d_Y_divide_204 rfl (lv_at hl 0 rfl) ?_
    refine lv_aload_n hx hb d_Y_divide_205 rfl (lv_at hl 0 rfl) ?_
    refine va_get (D := (dC, dI)) (ci := 2) (v := .ref h_N) (C := "RoundedNumbersModel") (T := F_Y) (N := 11) hx hb hts in_Y hown hK hP 0 rfl rfl 1 (by decide) (hts _ tw_315) (fun _ h9 => h9) rfl d_Y_divide_206 ?_
    refine lv_iload_n hx hb d_Y_divide_209 rfl (lv_at hl 2 rfl) ?_
    have c_210 : ¬ (x2 < 0 ∨ 8 ≤ x2.toNatClampNeg) := hif_n hF
    replace hF := hif_f c_210 hF
    refine va_iald hx hb hK hP 2 1 rfl rfl c_210 d_Y_divide_210 ?_
    refine lv_aload_n hx hb d_Y_divide_211 rfl (lv_at hl 0 rfl) ?_
    refine va_get (D := (dC, dI)) (ci := 2) (v := .ref h_N) (C := "RoundedNumbersModel") (T := F_Y) (N := 11) hx hb hts in_Y hown hK hP 0 rfl rfl 1 (by decide) (hts _ tw_315) (fun _ h9 => h9) rfl d_Y_divide_212 ?_
    refine lv_iload_n hx hb d_Y_divide_215 rfl (lv_at hl 3 rfl) ?_
    have c_216 : ¬ (x3 < 0 ∨ 8 ≤ x3.toNatClampNeg) := hif_n hF
    replace hF := hif_f c_216 hF
    refine va_iald hx hb hK hP 2 1 rfl rfl c_216 d_Y_divide_216 ?_
    refine lv_isub hx hb d_Y_divide_217 ?_
    refine lv_iload hx hb d_Y_divide_218 (lv_at hl 5 rfl) ?_
    refine lv_iadd hx hb d_Y_divide_220 ?_
    refine va_put (D := (dC, dI)) (ci := 2) (v := .int (((N_f x2.toNatClampNeg) - (N_f x3.toNatClampNeg)) + x8)) (ty := .int) (C := "RoundedNumbersModel") (T := F_Y) (N := 11) hx hb hts in_Y t_Y t_Y_ok n_Y hown hK hP hD hS 0 rfl rfl 9 (by decide) (hts _ tw_323) (fun _ h9 => h9) rfl (by decide +kernel) rfl rfl (Nat.le_of_ble_eq_true rfl) d_Y_divide_221 (fun H locs hP hD hS => ?_)
    have hP : va_P (dC, dI) classes [cY h_Y h_O h_N h_B h_G h_K Y_lo Y_ie Y_ra Y_to (((N_f x2.toNatClampNeg) - (N_f x3.toNatClampNeg)) + x8) y0, cL h_O k_O 8 O_f, cI h_N k_N 8 N_f, cI h_B k_B 8 B_f] H := hP
    have hD : va_D A [cY h_Y h_O h_N h_B h_G h_K Y_lo Y_ie Y_ra Y_to (((N_f x2.toNatClampNeg) - (N_f x3.toNatClampNeg)) + x8) y0, cL h_O k_O 8 O_f, cI h_N k_N 8 N_f, cI h_B k_B 8 B_f] := hD
    refine lv_aload_n hx hb d_Y_divide_224 rfl (lv_at hl 0 rfl) ?_
    refine lv_iload_n hx hb d_Y_divide_225 rfl (lv_at hl 1 rfl) ?_
    refine lv_aload_n hx hb d_Y_divide_226 rfl (lv_at hl 0 rfl) ?_
    refine va_get (D := (dC, dI)) (ci := 2) (v := .ref h_B) (C := "RoundedNumbersModel") (T := F_Y) (N := 11) hx hb hts in_Y hown hK hP 0 rfl rfl 2 (by decide) (hts _ tw_316) (fun _ h9 => h9) rfl d_Y_divide_227 ?_
    refine lv_iload_n hx hb d_Y_divide_230 rfl (lv_at hl 2 rfl) ?_
    have c_231 : ¬ (x2 < 0 ∨ 8 ≤ x2.toNatClampNeg) := hif_n hF
    replace hF := hif_f c_231 hF
    refine va_zald hx hb hK hP 3 2 rfl rfl c_231 d_Y_divide_231 ?_
    refine lv_aload_n hx hb d_Y_divide_232 rfl (lv_at hl 0 rfl) ?_
    refine va_get (D := (dC, dI)) (ci := 2) (v := .ref h_B) (C := "RoundedNumbersModel") (T := F_Y) (N := 11) hx hb hts in_Y hown hK hP 0 rfl rfl 2 (by decide) (hts _ tw_316) (fun _ h9 => h9) rfl d_Y_divide_233 ?_
    refine lv_iload_n hx hb d_Y_divide_236 rfl (lv_at hl 3 rfl) ?_
    have c_237 : ¬ (x3 < 0 ∨ 8 ≤ x3.toNatClampNeg) := hif_n hF
    replace hF := hif_f c_237 hF
    refine va_zald hx hb hK hP 3 2 rfl rfl c_237 d_Y_divide_237 ?_
    refine lv_icmp_eq (tgt := 245) hx hb d_Y_divide_238 (by decide) (fun c_238 => ?_) (fun c_238 => ?_)
    · replace hF := hif_t c_238 hF
      refine lv_iconst (v := (0 : Int32)) hx hb d_Y_divide_245 (by decide) ?_
      exact b_246 x4 (0 : Int32) x1 Y_lo Y_ie Y_ra Y_to (((N_f x2.toNatClampNeg) - (N_f x3.toNatClampNeg)) + x8) y0 O_f N_f B_f _ _ _ hP hD hS (lv_sub hl [4] rfl) hF
    · replace hF := hif_f c_238 hF
      refine lv_iconst (v := (1 : Int32)) hx hb d_Y_divide_241 (by decide) ?_
      refine lv_goto (tgt := 246) hx hb d_Y_divide_242 (by decide) ?_
      exact b_246 x4 (1 : Int32) x1 Y_lo Y_ie Y_ra Y_to (((N_f x2.toNatClampNeg) - (N_f x3.toNatClampNeg)) + x8) y0 O_f N_f B_f _ _ _ hP hD hS (lv_sub hl [4] rfl) hF
  have b_165 : ∀ (x1 : Int32) (x2 : Int32) (x3 : Int32) (x4 : Int32) (x5 : Int64) (x8 : Int32) (Y_lo : Int32) (Y_ie : Int32) (Y_ra : Int32) (Y_to : Int64) (Y_te : Int32) (Y_re : Int32) (O_f : Nat → Int64) (N_f : Nat → Int32) (B_f : Nat → Int32) (H : Heap) (locs : List Loc) (ls : Array Slot), va_P (dC, dI) classes [cY h_Y h_O h_N h_B h_G h_K Y_lo Y_ie Y_ra Y_to Y_te Y_re, cL h_O k_O 8 O_f, cI h_N k_N 8 N_f, cI h_B k_B 8 B_f] H → va_D A [cY h_Y h_O h_N h_B h_G h_K Y_lo Y_ie Y_ra Y_to Y_te Y_re, cL h_O k_O 8 O_f, cI h_N k_N 8 N_f, cI h_B k_B 8 B_f] → va_S A s.heap H locs → lv_has ls 10 [(0, .ref h_Y), (1, .int x1), (2, .int x2), (3, .int x3), (4, .int x4), (5, .long x5), (8, .int x8)] → f_Y_divide_165  x1 x2 x3 x4 x5 x8 Y_lo Y_ie Y_ra Y_to Y_te Y_re O_f N_f B_f = some o → W p l e (headSpec w_Y_divide ({ frames := 4, cells := 0, slots := 0, locals := 104 } : Room)).room s m ([.ref h_Y, .int a1, .int a2, .int a3, .int a4] : List Value).toArray below meth c H locs 0 0 (MQ below (va_Qi (fun (r : Int32) (_ : Unit) => r = o.1) (fun (_ : Unit) (t : State) => va_P (dC, dI) classes [cY h_Y h_O h_N h_B h_G h_K o.2.1 o.2.2.1 o.2.2.2.1 o.2.2.2.2.1 o.2.2.2.2.2.1 o.2.2.2.2.2.2.1, cL h_O k_O 8 o.2.2.2.2.2.2.2.1, cI h_N k_N 8 o.2.2.2.2.2.2.2.2.1, cI h_B k_B 8 o.2.2.2.2.2.2.2.2.2] t.heap ∧ va_K (dC, dI) classes [(k_O, .long), (k_N, .int), (k_B, .boolean)] t ∧ va_D A [cY h_Y h_O h_N h_B h_G h_K o.2.1 o.2.2.1 o.2.2.2.1 o.2.2.2.2.1 o.2.2.2.2.2.1 o.2.2.2.2.2.2.1, cL h_O k_O 8 o.2.2.2.2.2.2.2.1, cI h_N k_N 8 o.2.2.2.2.2.2.2.2.1, cI h_B k_B 8 o.2.2.2.2.2.2.2.2.2]) A) ([.ref h_Y, .int a1, .int a2, .int a3, .int a4] : List Value).toArray s 0 0 A) (F0 m 165 ls []) := by
    intro x1 x2 x3 x4 x5 x8 Y_lo Y_ie Y_ra Y_to Y_te Y_re O_f N_f B_f H locs ls hP hD hS hl hF
    unfold f_Y_divide_165 at hF
    refine lv_aload_n hx hb d_Y_divide_165 rfl (lv_at hl 0 rfl) ?_
    refine lv_lload hx hb d_Y_divide_166 (lv_at hl 5 rfl) ?_
    refine lv_lconst (v := (0 : Int64)) hx hb d_Y_divide_168 (by decide) ?_
    refine W.lcmp hx hb d_Y_divide_169 ?_
    refine lv_if_gt (tgt := 196) hx hb d_Y_divide_170 (by decide) (fun c_170 => ?_) (fun c_170 => ?_)
    · replace hF := hif_t c_170 hF
      refine lv_iconst (v := (1 : Int32)) hx hb d_Y_divide_196 (by decide) ?_
      refine lv_goto (tgt := 201) hx hb d_Y_divide_197 (by decide) ?_
      exact b_201 x1 x2 x3 x4 x8 (1 : Int32) Y_lo Y_ie Y_ra Y_to Y_te Y_re O_f N_f B_f _ _ _ hP hD hS (lv_sub hl [0, 1, 2, 3, 4, 6] rfl) hF
    · replace hF := hif_f c_170 hF
      refine lv_iload hx hb d_Y_divide_173 (lv_at hl 6 rfl) ?_
      refine lv_if_le (tgt := 200) hx hb d_Y_divide_175 (by decide) (fun c_175 => ?_) (fun c_175 => ?_)
      · replace hF := hif_t c_175 hF
        refine lv_iconst (v := (0 : Int32)) hx hb d_Y_divide_200 (by decide) ?_
        exact b_201 x1 x2 x3 x4 x8 (0 : Int32) Y_lo Y_ie Y_ra Y_to Y_te Y_re O_f N_f B_f _ _ _ hP hD hS (lv_sub hl [0, 1, 2, 3, 4, 6] rfl) hF
      · replace hF := hif_f c_175 hF
        refine lv_aload_n hx hb d_Y_divide_178 rfl (lv_at hl 0 rfl) ?_
        refine va_get (D := (dC, dI)) (ci := 2) (v := .ref h_O) (C := "RoundedNumbersModel") (T := F_Y) (N := 11) hx hb hts in_Y hown hK hP 0 rfl rfl 0 (by decide) (hts _ tw_314) (fun _ h9 => h9) rfl d_Y_divide_179 ?_
        refine lv_iload_n hx hb d_Y_divide_182 rfl (lv_at hl 2 rfl) ?_
        have c_183 : ¬ (x2 < 0 ∨ 8 ≤ x2.toNatClampNeg) := hif_n hF
        replace hF := hif_f c_183 hF
        refine va_lald hx hb hK hP 1 0 rfl rfl c_183 d_Y_divide_183 ?_
        refine lv_lconst (v := (1 : Int64)) hx hb d_Y_divide_184 (by decide) ?_
        refine lv_iload hx hb d_Y_divide_185 (lv_at hl 6 rfl) ?_
        refine lv_lshl (v := (jshl (1 : Int64) x8)) hx hb d_Y_divide_187 rfl ?_
        refine lv_lconst (v := (1 : Int64)) hx hb d_Y_divide_188 (by decide) ?_
        refine lv_lsub hx hb d_Y_divide_189 ?_
        refine lv_land hx hb d_Y_divide_190 ?_
        refine lv_lconst (v := (0 : Int64)) hx hb d_Y_divide_191 (by decide) ?_
        refine W.lcmp hx hb d_Y_divide_192 ?_
        refine lv_if_le (tgt := 200) hx hb d_Y_divide_193 (by decide) (fun c_193 => ?_) (fun c_193 => ?_)
        · replace hF := hif_t c_193 hF
          refine lv_iconst (v := (0 : Int32)) hx hb d_Y_divide_200 (by decide) ?_
          exact b_201 x1 x2 x3 x4 x8 (0 : Int32) Y_lo Y_ie Y_ra Y_to Y_te Y_re O_f N_f B_f _ _ _ hP hD hS (lv_sub hl [0, 1, 2, 3, 4, 6] rfl) hF
        · replace hF := hif_f c_193 hF
          refine lv_iconst (v := (1 : Int32)) hx hb d_Y_divide_196 (by decide) ?_
          refine lv_goto (tgt := 201) hx hb d_Y_divide_197 (by decide) ?_
          exact b_201 x1 x2 x3 x4 x8 (1 : Int32) Y_lo Y_ie Y_ra Y_to Y_te Y_re O_f N_f B_f _ _ _ hP hD hS (lv_sub hl [0, 1, 2, 3, 4, 6] rfl) hF
  have b_144 : ∀ (k_40 : (Int32) → (Int32) → (Int32) → (Int32) → (Int64) → (Int32) → (Int32) → (Int32) → (Int32) → (Int32) → (Int64) → (Int32) → (Int32) → (Nat → Int64) → (Nat → Int32) → (Nat → Int32) → Option (Int32 × Int32 × Int32 × Int32 × Int64 × Int32 × Int32 × (Nat → Int64) × (Nat → Int32) × (Nat → Int32))), (∀ (x1 : Int32) (x2 : Int32) (x3 : Int32) (x4 : Int32) (x5 : Int64) (x7 : Int32) (x8 : Int32) (Y_lo : Int32) (Y_ie : Int32) (Y_ra : Int32) (Y_to : Int64) (Y_te : Int32) (Y_re : Int32) (O_f : Nat → Int64) (N_f : Nat → Int32) (B_f : Nat → Int32) (H : Heap) (locs : List Loc) (ls : Array Slot), va_P (dC, dI) classes [cY h_Y h_O h_N h_B h_G h_K Y_lo Y_ie Y_ra Y_to Y_te Y_re, cL h_O k_O 8 O_f, cI h_N k_N 8 N_f, cI h_B k_B 8 B_f] H → va_D A [cY h_Y h_O h_N h_B h_G h_K Y_lo Y_ie Y_ra Y_to Y_te Y_re, cL h_O k_O 8 O_f, cI h_N k_N 8 N_f, cI h_B k_B 8 B_f] → va_S A s.heap H locs → lv_has ls 10 [(0, .ref h_Y), (1, .int x1), (2, .int x2), (3, .int x3), (4, .int x4), (5, .long x5), (7, .int x7), (8, .int x8)] → k_40 x1 x2 x3 x4 x5 x7 x8 Y_lo Y_ie Y_ra Y_to Y_te Y_re O_f N_f B_f = some o → W p l e (headSpec w_Y_divide ({ frames := 4, cells := 0, slots := 0, locals := 104 } : Room)).room s m ([.ref h_Y, .int a1, .int a2, .int a3, .int a4] : List Value).toArray below meth c H locs 0 0 (MQ below (va_Qi (fun (r : Int32) (_ : Unit) => r = o.1) (fun (_ : Unit) (t : State) => va_P (dC, dI) classes [cY h_Y h_O h_N h_B h_G h_K o.2.1 o.2.2.1 o.2.2.2.1 o.2.2.2.2.1 o.2.2.2.2.2.1 o.2.2.2.2.2.2.1, cL h_O k_O 8 o.2.2.2.2.2.2.2.1, cI h_N k_N 8 o.2.2.2.2.2.2.2.2.1, cI h_B k_B 8 o.2.2.2.2.2.2.2.2.2] t.heap ∧ va_K (dC, dI) classes [(k_O, .long), (k_N, .int), (k_B, .boolean)] t ∧ va_D A [cY h_Y h_O h_N h_B h_G h_K o.2.1 o.2.2.1 o.2.2.2.1 o.2.2.2.2.1 o.2.2.2.2.2.1 o.2.2.2.2.2.2.1, cL h_O k_O 8 o.2.2.2.2.2.2.2.1, cI h_N k_N 8 o.2.2.2.2.2.2.2.2.1, cI h_B k_B 8 o.2.2.2.2.2.2.2.2.2]) A) ([.ref h_Y, .int a1, .int a2, .int a3, .int a4] : List Value).toArray s 0 0 A) (F0 m 40 ls [])) → ∀ (x1 : Int32) (x2 : Int32) (x3 : Int32) (x4 : Int32) (x5 : Int64) (x7 : Int32) (x8 : Int32) (x9 : Int32) (y0 : Int32) (y1 : Int64) (Y_lo : Int32) (Y_ie : Int32) (Y_ra : Int32) (Y_to : Int64) (Y_te : Int32) (Y_re : Int32) (O_f : Nat → Int64) (N_f : Nat → Int32) (B_f : Nat → Int32) (H : Heap) (locs : List Loc) (ls : Array Slot), va_P (dC, dI) classes [cY h_Y h_O h_N h_B h_G h_K Y_lo Y_ie Y_ra Y_to Y_te Y_re, cL h_O k_O 8 O_f, cI h_N k_N 8 N_f, cI h_B k_B 8 B_f] H → va_D A [cY h_Y h_O h_N h_B h_G h_K Y_lo Y_ie Y_ra Y_to Y_te Y_re, cL h_O k_O 8 O_f, cI h_N k_N 8 N_f, cI h_B k_B 8 B_f] → va_S A s.heap H locs → lv_has ls 10 [(0, .ref h_Y), (1, .int x1), (2, .int x2), (3, .int x3), (4, .int x4), (5, .long x5), (7, .int x7), (8, .int x8), (9, .int x9)] → f_Y_divide_144 k_40 x1 x2 x3 x4 x5 x7 x8 x9 y0 y1 Y_lo Y_ie Y_ra Y_to Y_te Y_re O_f N_f B_f = some o → W p l e (headSpec w_Y_divide ({ frames := 4, cells := 0, slots := 0, locals := 104 } : Room)).room s m ([.ref h_Y, .int a1, .int a2, .int a3, .int a4] : List Value).toArray below meth c H locs 0 0 (MQ below (va_Qi (fun (r : Int32) (_ : Unit) => r = o.1) (fun (_ : Unit) (t : State) => va_P (dC, dI) classes [cY h_Y h_O h_N h_B h_G h_K o.2.1 o.2.2.1 o.2.2.2.1 o.2.2.2.2.1 o.2.2.2.2.2.1 o.2.2.2.2.2.2.1, cL h_O k_O 8 o.2.2.2.2.2.2.2.1, cI h_N k_N 8 o.2.2.2.2.2.2.2.2.1, cI h_B k_B 8 o.2.2.2.2.2.2.2.2.2] t.heap ∧ va_K (dC, dI) classes [(k_O, .long), (k_N, .int), (k_B, .boolean)] t ∧ va_D A [cY h_Y h_O h_N h_B h_G h_K o.2.1 o.2.2.1 o.2.2.2.1 o.2.2.2.2.1 o.2.2.2.2.2.1 o.2.2.2.2.2.2.1, cL h_O k_O 8 o.2.2.2.2.2.2.2.1, cI h_N k_N 8 o.2.2.2.2.2.2.2.2.1, cI h_B k_B 8 o.2.2.2.2.2.2.2.2.2]) A) ([.ref h_Y, .int a1, .int a2, .int a3, .int a4] : List Value).toArray s 0 0 A) (F0 m 144 ls [.int y0, .long y1, .ref h_Y]) := by
    intro k_40 hk_40 x1 x2 x3 x4 x5 x7 x8 x9 y0 y1 Y_lo Y_ie Y_ra Y_to Y_te Y_re O_f N_f B_f H locs ls hP hD hS hl hF
    unfold f_Y_divide_144 at hF
    refine lv_i2l (v := y0.toInt64) hx hb d_Y_divide_144 rfl ?_
    refine lv_ladd hx hb d_Y_divide_145 ?_
    refine va_put (D := (dC, dI)) (ci := 2) (v := .long (y1 + y0.toInt64)) (ty := .long) (C := "RoundedNumbersModel") (T := F_Y) (N := 11) hx hb hts in_Y t_Y t_Y_ok n_Y hown hK hP hD hS 0 rfl rfl 8 (by decide) (hts _ tw_322) (fun _ h9 => h9) rfl (by decide +kernel) rfl rfl (Nat.le_of_ble_eq_true rfl) d_Y_divide_146 (fun H locs hP hD hS => ?_)
    have hP : va_P (dC, dI) classes [cY h_Y h_O h_N h_B h_G h_K Y_lo Y_ie Y_ra (y1 + y0.toInt64) Y_te Y_re, cL h_O k_O 8 O_f, cI h_N k_N 8 N_f, cI h_B k_B 8 B_f] H := hP
    have hD : va_D A [cY h_Y h_O h_N h_B h_G h_K Y_lo Y_ie Y_ra (y1 + y0.toInt64) Y_te Y_re, cL h_O k_O 8 O_f, cI h_N k_N 8 N_f, cI h_B k_B 8 B_f] := hD
    refine lv_iload hx hb d_Y_divide_149 (lv_at hl 6 rfl) ?_
    refine lv_if_gt (tgt := 159) hx hb d_Y_divide_151 (by decide) (fun c_151 => ?_) (fun c_151 => ?_)
    · replace hF := hif_t c_151 hF
      refine lv_iinc (v := (x7 + (1 : Int32))) (lv' := [(7, .int (x7 + (1 : Int32))), (0, .ref h_Y), (1, .int x1), (2, .int x2), (3, .int x3), (4, .int x4), (5, .long x5), (8, .int x8), (9, .int x9)]) hx hb d_Y_divide_159 hl (k := 6) rfl rfl (by decide) rfl (fun ls hl => ?_)
      refine lv_goto (tgt := 40) hx hb d_Y_divide_162 (by decide) ?_
      exact hk_40 x1 x2 x3 x4 x5 (x7 + (1 : Int32)) x8 Y_lo Y_ie Y_ra (y1 + y0.toInt64) Y_te Y_re O_f N_f B_f _ _ _ hP hD hS (lv_sub hl [1, 2, 3, 4, 5, 6, 0, 7] rfl) hF
    · replace hF := hif_f c_151 hF
      refine lv_iload hx hb d_Y_divide_154 (lv_at hl 8 rfl) ?_
      refine lv_if_eq (tgt := 162) hx hb d_Y_divide_156 (by decide) (fun c_156 => ?_) (fun c_156 => ?_)
      · replace hF := hif_t c_156 hF
        refine lv_goto (tgt := 40) hx hb d_Y_divide_162 (by decide) ?_
        exact hk_40 x1 x2 x3 x4 x5 x7 x8 Y_lo Y_ie Y_ra (y1 + y0.toInt64) Y_te Y_re O_f N_f B_f _ _ _ hP hD hS (lv_sub hl [0, 1, 2, 3, 4, 5, 6, 7] rfl) hF
      · replace hF := hif_f c_156 hF
        refine lv_iinc (v := (x7 + (1 : Int32))) (lv' := [(7, .int (x7 + (1 : Int32))), (0, .ref h_Y), (1, .int x1), (2, .int x2), (3, .int x3), (4, .int x4), (5, .long x5), (8, .int x8), (9, .int x9)]) hx hb d_Y_divide_159 hl (k := 6) rfl rfl (by decide) rfl (fun ls hl => ?_)
        refine lv_goto (tgt := 40) hx hb d_Y_divide_162 (by decide) ?_
        exact hk_40 x1 x2 x3 x4 x5 (x7 + (1 : Int32)) x8 Y_lo Y_ie Y_ra (y1 + y0.toInt64) Y_te Y_re O_f N_f B_f _ _ _ hP hD hS (lv_sub hl [1, 2, 3, 4, 5, 6, 0, 7] rfl) hF
  have b_125 : ∀ (k_40 : (Int32) → (Int32) → (Int32) → (Int32) → (Int64) → (Int32) → (Int32) → (Int32) → (Int32) → (Int32) → (Int64) → (Int32) → (Int32) → (Nat → Int64) → (Nat → Int32) → (Nat → Int32) → Option (Int32 × Int32 × Int32 × Int32 × Int64 × Int32 × Int32 × (Nat → Int64) × (Nat → Int32) × (Nat → Int32))), (∀ (x1 : Int32) (x2 : Int32) (x3 : Int32) (x4 : Int32) (x5 : Int64) (x7 : Int32) (x8 : Int32) (Y_lo : Int32) (Y_ie : Int32) (Y_ra : Int32) (Y_to : Int64) (Y_te : Int32) (Y_re : Int32) (O_f : Nat → Int64) (N_f : Nat → Int32) (B_f : Nat → Int32) (H : Heap) (locs : List Loc) (ls : Array Slot), va_P (dC, dI) classes [cY h_Y h_O h_N h_B h_G h_K Y_lo Y_ie Y_ra Y_to Y_te Y_re, cL h_O k_O 8 O_f, cI h_N k_N 8 N_f, cI h_B k_B 8 B_f] H → va_D A [cY h_Y h_O h_N h_B h_G h_K Y_lo Y_ie Y_ra Y_to Y_te Y_re, cL h_O k_O 8 O_f, cI h_N k_N 8 N_f, cI h_B k_B 8 B_f] → va_S A s.heap H locs → lv_has ls 10 [(0, .ref h_Y), (1, .int x1), (2, .int x2), (3, .int x3), (4, .int x4), (5, .long x5), (7, .int x7), (8, .int x8)] → k_40 x1 x2 x3 x4 x5 x7 x8 Y_lo Y_ie Y_ra Y_to Y_te Y_re O_f N_f B_f = some o → W p l e (headSpec w_Y_divide ({ frames := 4, cells := 0, slots := 0, locals := 104 } : Room)).room s m ([.ref h_Y, .int a1, .int a2, .int a3, .int a4] : List Value).toArray below meth c H locs 0 0 (MQ below (va_Qi (fun (r : Int32) (_ : Unit) => r = o.1) (fun (_ : Unit) (t : State) => va_P (dC, dI) classes [cY h_Y h_O h_N h_B h_G h_K o.2.1 o.2.2.1 o.2.2.2.1 o.2.2.2.2.1 o.2.2.2.2.2.1 o.2.2.2.2.2.2.1, cL h_O k_O 8 o.2.2.2.2.2.2.2.1, cI h_N k_N 8 o.2.2.2.2.2.2.2.2.1, cI h_B k_B 8 o.2.2.2.2.2.2.2.2.2] t.heap ∧ va_K (dC, dI) classes [(k_O, .long), (k_N, .int), (k_B, .boolean)] t ∧ va_D A [cY h_Y h_O h_N h_B h_G h_K o.2.1 o.2.2.1 o.2.2.2.1 o.2.2.2.2.1 o.2.2.2.2.2.1 o.2.2.2.2.2.2.1, cL h_O k_O 8 o.2.2.2.2.2.2.2.1, cI h_N k_N 8 o.2.2.2.2.2.2.2.2.1, cI h_B k_B 8 o.2.2.2.2.2.2.2.2.2]) A) ([.ref h_Y, .int a1, .int a2, .int a3, .int a4] : List Value).toArray s 0 0 A) (F0 m 40 ls [])) → ∀ (x1 : Int32) (x2 : Int32) (x3 : Int32) (x4 : Int32) (x5 : Int64) (x7 : Int32) (x8 : Int32) (x9 : Int32) (Y_lo : Int32) (Y_ie : Int32) (Y_ra : Int32) (Y_to : Int64) (Y_te : Int32) (Y_re : Int32) (O_f : Nat → Int64) (N_f : Nat → Int32) (B_f : Nat → Int32) (H : Heap) (locs : List Loc) (ls : Array Slot), va_P (dC, dI) classes [cY h_Y h_O h_N h_B h_G h_K Y_lo Y_ie Y_ra Y_to Y_te Y_re, cL h_O k_O 8 O_f, cI h_N k_N 8 N_f, cI h_B k_B 8 B_f] H → va_D A [cY h_Y h_O h_N h_B h_G h_K Y_lo Y_ie Y_ra Y_to Y_te Y_re, cL h_O k_O 8 O_f, cI h_N k_N 8 N_f, cI h_B k_B 8 B_f] → va_S A s.heap H locs → lv_has ls 10 [(0, .ref h_Y), (1, .int x1), (2, .int x2), (3, .int x3), (4, .int x4), (5, .long x5), (7, .int x7), (8, .int x8), (9, .int x9)] → f_Y_divide_125 k_40 x1 x2 x3 x4 x5 x7 x8 x9 Y_lo Y_ie Y_ra Y_to Y_te Y_re O_f N_f B_f = some o → W p l e (headSpec w_Y_divide ({ frames := 4, cells := 0, slots := 0, locals := 104 } : Room)).room s m ([.ref h_Y, .int a1, .int a2, .int a3, .int a4] : List Value).toArray below meth c H locs 0 0 (MQ below (va_Qi (fun (r : Int32) (_ : Unit) => r = o.1) (fun (_ : Unit) (t : State) => va_P (dC, dI) classes [cY h_Y h_O h_N h_B h_G h_K o.2.1 o.2.2.1 o.2.2.2.1 o.2.2.2.2.1 o.2.2.2.2.2.1 o.2.2.2.2.2.2.1, cL h_O k_O 8 o.2.2.2.2.2.2.2.1, cI h_N k_N 8 o.2.2.2.2.2.2.2.2.1, cI h_B k_B 8 o.2.2.2.2.2.2.2.2.2] t.heap ∧ va_K (dC, dI) classes [(k_O, .long), (k_N, .int), (k_B, .boolean)] t ∧ va_D A [cY h_Y h_O h_N h_B h_G h_K o.2.1 o.2.2.1 o.2.2.2.1 o.2.2.2.2.1 o.2.2.2.2.2.1 o.2.2.2.2.2.2.1, cL h_O k_O 8 o.2.2.2.2.2.2.2.1, cI h_N k_N 8 o.2.2.2.2.2.2.2.2.1, cI h_B k_B 8 o.2.2.2.2.2.2.2.2.2]) A) ([.ref h_Y, .int a1, .int a2, .int a3, .int a4] : List Value).toArray s 0 0 A) (F0 m 125 ls []) := by
    intro k_40 hk_40 x1 x2 x3 x4 x5 x7 x8 x9 Y_lo Y_ie Y_ra Y_to Y_te Y_re O_f N_f B_f H locs ls hP hD hS hl hF
    unfold f_Y_divide_125 at hF
    refine lv_aload_n hx hb d_Y_divide_125 rfl (lv_at hl 0 rfl) ?_
    refine lv_ldc2 (v := (2 : Int64)) hx hb hown (hts _ tw_372) d_Y_divide_126 ?_
    refine lv_aload_n hx hb d_Y_divide_129 rfl (lv_at hl 0 rfl) ?_
    refine va_get (D := (dC, dI)) (ci := 2) (v := .long Y_to) (C := "RoundedNumbersModel") (T := F_Y) (N := 11) hx hb hts in_Y hown hK hP 0 rfl rfl 8 (by decide) (hts _ tw_322) (fun _ h9 => h9) rfl d_Y_divide_130 ?_
    refine lv_lmul hx hb d_Y_divide_133 ?_
    refine lv_iload hx hb d_Y_divide_134 (lv_at hl 8 rfl) ?_
    refine lv_if_eq (tgt := 143) hx hb d_Y_divide_136 (by decide) (fun c_136 => ?_) (fun c_136 => ?_)
    · replace hF := hif_t c_136 hF
      refine lv_iconst (v := (0 : Int32)) hx hb d_Y_divide_143 (by decide) ?_
      exact b_144 k_40 hk_40 x1 x2 x3 x4 x5 x7 x8 x9 (0 : Int32) ((2 : Int64) * Y_to) Y_lo Y_ie Y_ra Y_to Y_te Y_re O_f N_f B_f _ _ _ hP hD hS (lv_sub hl [0, 1, 2, 3, 4, 5, 6, 7, 8] rfl) hF
    · replace hF := hif_f c_136 hF
      refine lv_iconst (v := (1 : Int32)) hx hb d_Y_divide_139 (by decide) ?_
      refine lv_goto (tgt := 144) hx hb d_Y_divide_140 (by decide) ?_
      exact b_144 k_40 hk_40 x1 x2 x3 x4 x5 x7 x8 x9 (1 : Int32) ((2 : Int64) * Y_to) Y_lo Y_ie Y_ra Y_to Y_te Y_re O_f N_f B_f _ _ _ hP hD hS (lv_sub hl [0, 1, 2, 3, 4, 5, 6, 7, 8] rfl) hF
  have b_107 : ∀ (k_40 : (Int32) → (Int32) → (Int32) → (Int32) → (Int64) → (Int32) → (Int32) → (Int32) → (Int32) → (Int32) → (Int64) → (Int32) → (Int32) → (Nat → Int64) → (Nat → Int32) → (Nat → Int32) → Option (Int32 × Int32 × Int32 × Int32 × Int64 × Int32 × Int32 × (Nat → Int64) × (Nat → Int32) × (Nat → Int32))), (∀ (x1 : Int32) (x2 : Int32) (x3 : Int32) (x4 : Int32) (x5 : Int64) (x7 : Int32) (x8 : Int32) (Y_lo : Int32) (Y_ie : Int32) (Y_ra : Int32) (Y_to : Int64) (Y_te : Int32) (Y_re : Int32) (O_f : Nat → Int64) (N_f : Nat → Int32) (B_f : Nat → Int32) (H : Heap) (locs : List Loc) (ls : Array Slot), va_P (dC, dI) classes [cY h_Y h_O h_N h_B h_G h_K Y_lo Y_ie Y_ra Y_to Y_te Y_re, cL h_O k_O 8 O_f, cI h_N k_N 8 N_f, cI h_B k_B 8 B_f] H → va_D A [cY h_Y h_O h_N h_B h_G h_K Y_lo Y_ie Y_ra Y_to Y_te Y_re, cL h_O k_O 8 O_f, cI h_N k_N 8 N_f, cI h_B k_B 8 B_f] → va_S A s.heap H locs → lv_has ls 10 [(0, .ref h_Y), (1, .int x1), (2, .int x2), (3, .int x3), (4, .int x4), (5, .long x5), (7, .int x7), (8, .int x8)] → k_40 x1 x2 x3 x4 x5 x7 x8 Y_lo Y_ie Y_ra Y_to Y_te Y_re O_f N_f B_f = some o → W p l e (headSpec w_Y_divide ({ frames := 4, cells := 0, slots := 0, locals := 104 } : Room)).room s m ([.ref h_Y, .int a1, .int a2, .int a3, .int a4] : List Value).toArray below meth c H locs 0 0 (MQ below (va_Qi (fun (r : Int32) (_ : Unit) => r = o.1) (fun (_ : Unit) (t : State) => va_P (dC, dI) classes [cY h_Y h_O h_N h_B h_G h_K o.2.1 o.2.2.1 o.2.2.2.1 o.2.2.2.2.1 o.2.2.2.2.2.1 o.2.2.2.2.2.2.1, cL h_O k_O 8 o.2.2.2.2.2.2.2.1, cI h_N k_N 8 o.2.2.2.2.2.2.2.2.1, cI h_B k_B 8 o.2.2.2.2.2.2.2.2.2] t.heap ∧ va_K (dC, dI) classes [(k_O, .long), (k_N, .int), (k_B, .boolean)] t ∧ va_D A [cY h_Y h_O h_N h_B h_G h_K o.2.1 o.2.2.1 o.2.2.2.1 o.2.2.2.2.1 o.2.2.2.2.2.1 o.2.2.2.2.2.2.1, cL h_O k_O 8 o.2.2.2.2.2.2.2.1, cI h_N k_N 8 o.2.2.2.2.2.2.2.2.1, cI h_B k_B 8 o.2.2.2.2.2.2.2.2.2]) A) ([.ref h_Y, .int a1, .int a2, .int a3, .int a4] : List Value).toArray s 0 0 A) (F0 m 40 ls [])) → ∀ (x1 : Int32) (x2 : Int32) (x3 : Int32) (x4 : Int32) (x5 : Int64) (x7 : Int32) (x8 : Int32) (y0 : Int32) (Y_lo : Int32) (Y_ie : Int32) (Y_ra : Int32) (Y_to : Int64) (Y_te : Int32) (Y_re : Int32) (O_f : Nat → Int64) (N_f : Nat → Int32) (B_f : Nat → Int32) (H : Heap) (locs : List Loc) (ls : Array Slot), va_P (dC, dI) classes [cY h_Y h_O h_N h_B h_G h_K Y_lo Y_ie Y_ra Y_to Y_te Y_re, cL h_O k_O 8 O_f, cI h_N k_N 8 N_f, cI h_B k_B 8 B_f] H → va_D A [cY h_Y h_O h_N h_B h_G h_K Y_lo Y_ie Y_ra Y_to Y_te Y_re, cL h_O k_O 8 O_f, cI h_N k_N 8 N_f, cI h_B k_B 8 B_f] → va_S A s.heap H locs → lv_has ls 10 [(0, .ref h_Y), (1, .int x1), (2, .int x2), (3, .int x3), (4, .int x4), (5, .long x5), (7, .int x7), (8, .int x8)] → f_Y_divide_107 k_40 x1 x2 x3 x4 x5 x7 x8 y0 Y_lo Y_ie Y_ra Y_to Y_te Y_re O_f N_f B_f = some o → W p l e (headSpec w_Y_divide ({ frames := 4, cells := 0, slots := 0, locals := 104 } : Room)).room s m ([.ref h_Y, .int a1, .int a2, .int a3, .int a4] : List Value).toArray below meth c H locs 0 0 (MQ below (va_Qi (fun (r : Int32) (_ : Unit) => r = o.1) (fun (_ : Unit) (t : State) => va_P (dC, dI) classes [cY h_Y h_O h_N h_B h_G h_K o.2.1 o.2.2.1 o.2.2.2.1 o.2.2.2.2.1 o.2.2.2.2.2.1 o.2.2.2.2.2.2.1, cL h_O k_O 8 o.2.2.2.2.2.2.2.1, cI h_N k_N 8 o.2.2.2.2.2.2.2.2.1, cI h_B k_B 8 o.2.2.2.2.2.2.2.2.2] t.heap ∧ va_K (dC, dI) classes [(k_O, .long), (k_N, .int), (k_B, .boolean)] t ∧ va_D A [cY h_Y h_O h_N h_B h_G h_K o.2.1 o.2.2.1 o.2.2.2.1 o.2.2.2.2.1 o.2.2.2.2.2.1 o.2.2.2.2.2.2.1, cL h_O k_O 8 o.2.2.2.2.2.2.2.1, cI h_N k_N 8 o.2.2.2.2.2.2.2.2.1, cI h_B k_B 8 o.2.2.2.2.2.2.2.2.2]) A) ([.ref h_Y, .int a1, .int a2, .int a3, .int a4] : List Value).toArray s 0 0 A) (F0 m 107 ls [.int y0]) := by
    intro k_40 hk_40 x1 x2 x3 x4 x5 x7 x8 y0 Y_lo Y_ie Y_ra Y_to Y_te Y_re O_f N_f B_f H locs ls hP hD hS hl hF
    unfold f_Y_divide_107 at hF
    refine lv_istore (lv' := [(9, .int y0), (0, .ref h_Y), (1, .int x1), (2, .int x2), (3, .int x3), (4, .int x4), (5, .long x5), (7, .int x7), (8, .int x8)]) hx hb d_Y_divide_107 hl (by decide) rfl (fun ls hl => ?_)
    refine lv_iload hx hb d_Y_divide_109 (lv_at hl 0 rfl) ?_
    refine lv_if_eq (tgt := 125) hx hb d_Y_divide_111 (by decide) (fun c_111 => ?_) (fun c_111 => ?_)
    · replace hF := hif_t c_111 hF
      exact b_125 k_40 hk_40 x1 x2 x3 x4 x5 x7 x8 y0 Y_lo Y_ie Y_ra Y_to Y_te Y_re O_f N_f B_f _ _ _ hP hD hS (lv_sub hl [1, 2, 3, 4, 5, 6, 7, 8, 0] rfl) hF
    · replace hF := hif_f c_111 hF
      refine lv_lload hx hb d_Y_divide_114 (lv_at hl 6 rfl) ?_
      refine lv_aload_n hx hb d_Y_divide_116 rfl (lv_at hl 1 rfl) ?_
      refine va_get (D := (dC, dI)) (ci := 2) (v := .ref h_O) (C := "RoundedNumbersModel") (T := F_Y) (N := 11) hx hb hts in_Y hown hK hP 0 rfl rfl 0 (by decide) (hts _ tw_314) (fun _ h9 => h9) rfl d_Y_divide_117 ?_
      refine lv_iload_n hx hb d_Y_divide_120 rfl (lv_at hl 4 rfl) ?_
      have c_121 : ¬ (x3 < 0 ∨ 8 ≤ x3.toNatClampNeg) := hif_n hF
      replace hF := hif_f c_121 hF
      refine va_lald hx hb hK hP 1 0 rfl rfl c_121 d_Y_divide_121 ?_
      refine lv_lsub hx hb d_Y_divide_122 ?_
      refine lv_lstore (lv' := [(5, .long (x5 - (O_f x3.toNatClampNeg))), (9, .int y0), (0, .ref h_Y), (1, .int x1), (2, .int x2), (3, .int x3), (4, .int x4), (7, .int x7), (8, .int x8)]) hx hb d_Y_divide_123 hl (by decide) rfl (fun ls hl => ?_)
      exact b_125 k_40 hk_40 x1 x2 x3 x4 (x5 - (O_f x3.toNatClampNeg)) x7 x8 y0 Y_lo Y_ie Y_ra Y_to Y_te Y_re O_f N_f B_f _ _ _ hP hD hS (lv_sub hl [2, 3, 4, 5, 6, 0, 7, 8, 1] rfl) hF
  have b_87 : ∀ (k_40 : (Int32) → (Int32) → (Int32) → (Int32) → (Int64) → (Int32) → (Int32) → (Int32) → (Int32) → (Int32) → (Int64) → (Int32) → (Int32) → (Nat → Int64) → (Nat → Int32) → (Nat → Int32) → Option (Int32 × Int32 × Int32 × Int32 × Int64 × Int32 × Int32 × (Nat → Int64) × (Nat → Int32) × (Nat → Int32))), (∀ (x1 : Int32) (x2 : Int32) (x3 : Int32) (x4 : Int32) (x5 : Int64) (x7 : Int32) (x8 : Int32) (Y_lo : Int32) (Y_ie : Int32) (Y_ra : Int32) (Y_to : Int64) (Y_te : Int32) (Y_re : Int32) (O_f : Nat → Int64) (N_f : Nat → Int32) (B_f : Nat → Int32) (H : Heap) (locs : List Loc) (ls : Array Slot), va_P (dC, dI) classes [cY h_Y h_O h_N h_B h_G h_K Y_lo Y_ie Y_ra Y_to Y_te Y_re, cL h_O k_O 8 O_f, cI h_N k_N 8 N_f, cI h_B k_B 8 B_f] H → va_D A [cY h_Y h_O h_N h_B h_G h_K Y_lo Y_ie Y_ra Y_to Y_te Y_re, cL h_O k_O 8 O_f, cI h_N k_N 8 N_f, cI h_B k_B 8 B_f] → va_S A s.heap H locs → lv_has ls 10 [(0, .ref h_Y), (1, .int x1), (2, .int x2), (3, .int x3), (4, .int x4), (5, .long x5), (7, .int x7), (8, .int x8)] → k_40 x1 x2 x3 x4 x5 x7 x8 Y_lo Y_ie Y_ra Y_to Y_te Y_re O_f N_f B_f = some o → W p l e (headSpec w_Y_divide ({ frames := 4, cells := 0, slots := 0, locals := 104 } : Room)).room s m ([.ref h_Y, .int a1, .int a2, .int a3, .int a4] : List Value).toArray below meth c H locs 0 0 (MQ below (va_Qi (fun (r : Int32) (_ : Unit) => r = o.1) (fun (_ : Unit) (t : State) => va_P (dC, dI) classes [cY h_Y h_O h_N h_B h_G h_K o.2.1 o.2.2.1 o.2.2.2.1 o.2.2.2.2.1 o.2.2.2.2.2.1 o.2.2.2.2.2.2.1, cL h_O k_O 8 o.2.2.2.2.2.2.2.1, cI h_N k_N 8 o.2.2.2.2.2.2.2.2.1, cI h_B k_B 8 o.2.2.2.2.2.2.2.2.2] t.heap ∧ va_K (dC, dI) classes [(k_O, .long), (k_N, .int), (k_B, .boolean)] t ∧ va_D A [cY h_Y h_O h_N h_B h_G h_K o.2.1 o.2.2.1 o.2.2.2.1 o.2.2.2.2.1 o.2.2.2.2.2.1 o.2.2.2.2.2.2.1, cL h_O k_O 8 o.2.2.2.2.2.2.2.1, cI h_N k_N 8 o.2.2.2.2.2.2.2.2.1, cI h_B k_B 8 o.2.2.2.2.2.2.2.2.2]) A) ([.ref h_Y, .int a1, .int a2, .int a3, .int a4] : List Value).toArray s 0 0 A) (F0 m 40 ls [])) → ∀ (x1 : Int32) (x2 : Int32) (x3 : Int32) (x4 : Int32) (x7 : Int32) (x8 : Int32) (y0 : Int64) (y1 : Int64) (Y_lo : Int32) (Y_ie : Int32) (Y_ra : Int32) (Y_to : Int64) (Y_te : Int32) (Y_re : Int32) (O_f : Nat → Int64) (N_f : Nat → Int32) (B_f : Nat → Int32) (H : Heap) (locs : List Loc) (ls : Array Slot), va_P (dC, dI) classes [cY h_Y h_O h_N h_B h_G h_K Y_lo Y_ie Y_ra Y_to Y_te Y_re, cL h_O k_O 8 O_f, cI h_N k_N 8 N_f, cI h_B k_B 8 B_f] H → va_D A [cY h_Y h_O h_N h_B h_G h_K Y_lo Y_ie Y_ra Y_to Y_te Y_re, cL h_O k_O 8 O_f, cI h_N k_N 8 N_f, cI h_B k_B 8 B_f] → va_S A s.heap H locs → lv_has ls 10 [(0, .ref h_Y), (1, .int x1), (2, .int x2), (3, .int x3), (4, .int x4), (7, .int x7), (8, .int x8)] → f_Y_divide_87 k_40 x1 x2 x3 x4 x7 x8 y0 y1 Y_lo Y_ie Y_ra Y_to Y_te Y_re O_f N_f B_f = some o → W p l e (headSpec w_Y_divide ({ frames := 4, cells := 0, slots := 0, locals := 104 } : Room)).room s m ([.ref h_Y, .int a1, .int a2, .int a3, .int a4] : List Value).toArray below meth c H locs 0 0 (MQ below (va_Qi (fun (r : Int32) (_ : Unit) => r = o.1) (fun (_ : Unit) (t : State) => va_P (dC, dI) classes [cY h_Y h_O h_N h_B h_G h_K o.2.1 o.2.2.1 o.2.2.2.1 o.2.2.2.2.1 o.2.2.2.2.2.1 o.2.2.2.2.2.2.1, cL h_O k_O 8 o.2.2.2.2.2.2.2.1, cI h_N k_N 8 o.2.2.2.2.2.2.2.2.1, cI h_B k_B 8 o.2.2.2.2.2.2.2.2.2] t.heap ∧ va_K (dC, dI) classes [(k_O, .long), (k_N, .int), (k_B, .boolean)] t ∧ va_D A [cY h_Y h_O h_N h_B h_G h_K o.2.1 o.2.2.1 o.2.2.2.1 o.2.2.2.2.1 o.2.2.2.2.2.1 o.2.2.2.2.2.2.1, cL h_O k_O 8 o.2.2.2.2.2.2.2.1, cI h_N k_N 8 o.2.2.2.2.2.2.2.2.1, cI h_B k_B 8 o.2.2.2.2.2.2.2.2.2]) A) ([.ref h_Y, .int a1, .int a2, .int a3, .int a4] : List Value).toArray s 0 0 A) (F0 m 87 ls [.long y0, .long y1]) := by
    intro k_40 hk_40 x1 x2 x3 x4 x7 x8 y0 y1 Y_lo Y_ie Y_ra Y_to Y_te Y_re O_f N_f B_f H locs ls hP hD hS hl hF
    unfold f_Y_divide_87 at hF
    refine lv_ladd hx hb d_Y_divide_87 ?_
    refine lv_lstore (lv' := [(5, .long (y1 + y0)), (0, .ref h_Y), (1, .int x1), (2, .int x2), (3, .int x3), (4, .int x4), (7, .int x7), (8, .int x8)]) hx hb d_Y_divide_88 hl (by decide) rfl (fun ls hl => ?_)
    refine lv_lload hx hb d_Y_divide_90 (lv_at hl 0 rfl) ?_
    refine lv_aload_n hx hb d_Y_divide_92 rfl (lv_at hl 1 rfl) ?_
    refine va_get (D := (dC, dI)) (ci := 2) (v := .ref h_O) (C := "RoundedNumbersModel") (T := F_Y) (N := 11) hx hb hts in_Y hown hK hP 0 rfl rfl 0 (by decide) (hts _ tw_314) (fun _ h9 => h9) rfl d_Y_divide_93 ?_
    refine lv_iload_n hx hb d_Y_divide_96 rfl (lv_at hl 4 rfl) ?_
    have c_97 : ¬ (x3 < 0 ∨ 8 ≤ x3.toNatClampNeg) := hif_n hF
    replace hF := hif_f c_97 hF
    refine va_lald hx hb hK hP 1 0 rfl rfl c_97 d_Y_divide_97 ?_
    refine W.lcmp hx hb d_Y_divide_98 ?_
    refine lv_if_lt (tgt := 106) hx hb d_Y_divide_99 (by decide) (fun c_99 => ?_) (fun c_99 => ?_)
    · replace hF := hif_t c_99 hF
      refine lv_iconst (v := (0 : Int32)) hx hb d_Y_divide_106 (by decide) ?_
      exact b_107 k_40 hk_40 x1 x2 x3 x4 (y1 + y0) x7 x8 (0 : Int32) Y_lo Y_ie Y_ra Y_to Y_te Y_re O_f N_f B_f _ _ _ hP hD hS (lv_sub hl [1, 2, 3, 4, 5, 0, 6, 7] rfl) hF
    · replace hF := hif_f c_99 hF
      refine lv_iconst (v := (1 : Int32)) hx hb d_Y_divide_102 (by decide) ?_
      refine lv_goto (tgt := 107) hx hb d_Y_divide_103 (by decide) ?_
      exact b_107 k_40 hk_40 x1 x2 x3 x4 (y1 + y0) x7 x8 (1 : Int32) Y_lo Y_ie Y_ra Y_to Y_te Y_re O_f N_f B_f _ _ _ hP hD hS (lv_sub hl [1, 2, 3, 4, 5, 0, 6, 7] rfl) hF
  have b_40 : ∀ n_ : Nat, ∀ (x1 : Int32) (x2 : Int32) (x3 : Int32) (x4 : Int32) (x5 : Int64) (x7 : Int32) (x8 : Int32) (Y_lo : Int32) (Y_ie : Int32) (Y_ra : Int32) (Y_to : Int64) (Y_te : Int32) (Y_re : Int32) (O_f : Nat → Int64) (N_f : Nat → Int32) (B_f : Nat → Int32) (H : Heap) (locs : List Loc) (ls : Array Slot), va_P (dC, dI) classes [cY h_Y h_O h_N h_B h_G h_K Y_lo Y_ie Y_ra Y_to Y_te Y_re, cL h_O k_O 8 O_f, cI h_N k_N 8 N_f, cI h_B k_B 8 B_f] H → va_D A [cY h_Y h_O h_N h_B h_G h_K Y_lo Y_ie Y_ra Y_to Y_te Y_re, cL h_O k_O 8 O_f, cI h_N k_N 8 N_f, cI h_B k_B 8 B_f] → va_S A s.heap H locs → lv_has ls 10 [(0, .ref h_Y), (1, .int x1), (2, .int x2), (3, .int x3), (4, .int x4), (5, .long x5), (7, .int x7), (8, .int x8)] → f_Y_divide_40 n_ x1 x2 x3 x4 x5 x7 x8 Y_lo Y_ie Y_ra Y_to Y_te Y_re O_f N_f B_f = some o → W p l e (headSpec w_Y_divide ({ frames := 4, cells := 0, slots := 0, locals := 104 } : Room)).room s m ([.ref h_Y, .int a1, .int a2, .int a3, .int a4] : List Value).toArray below meth c H locs 0 0 (MQ below (va_Qi (fun (r : Int32) (_ : Unit) => r = o.1) (fun (_ : Unit) (t : State) => va_P (dC, dI) classes [cY h_Y h_O h_N h_B h_G h_K o.2.1 o.2.2.1 o.2.2.2.1 o.2.2.2.2.1 o.2.2.2.2.2.1 o.2.2.2.2.2.2.1, cL h_O k_O 8 o.2.2.2.2.2.2.2.1, cI h_N k_N 8 o.2.2.2.2.2.2.2.2.1, cI h_B k_B 8 o.2.2.2.2.2.2.2.2.2] t.heap ∧ va_K (dC, dI) classes [(k_O, .long), (k_N, .int), (k_B, .boolean)] t ∧ va_D A [cY h_Y h_O h_N h_B h_G h_K o.2.1 o.2.2.1 o.2.2.2.1 o.2.2.2.2.1 o.2.2.2.2.2.1 o.2.2.2.2.2.2.1, cL h_O k_O 8 o.2.2.2.2.2.2.2.1, cI h_N k_N 8 o.2.2.2.2.2.2.2.2.1, cI h_B k_B 8 o.2.2.2.2.2.2.2.2.2]) A) ([.ref h_Y, .int a1, .int a2, .int a3, .int a4] : List Value).toArray s 0 0 A) (F0 m 40 ls []) := by
    intro n_
    induction n_ with
    | zero =>
      intro x1 x2 x3 x4 x5 x7 x8 Y_lo Y_ie Y_ra Y_to Y_te Y_re O_f N_f B_f H locs ls hP hD hS hl hF
      rw [f_Y_divide_40] at hF
      exact absurd hF (by simp)
    | succ n_ ih =>
      obtain ⟨k_40, ek_40⟩ : ∃ k, k = f_Y_divide_40 n_ := ⟨_, rfl⟩
      rw [← ek_40] at ih
      have hk_40 := ih
      intro x1 x2 x3 x4 x5 x7 x8 Y_lo Y_ie Y_ra Y_to Y_te Y_re O_f N_f B_f H locs ls hP hD hS hl hF
      rw [f_Y_divide_40, ← ek_40] at hF
      refine lv_aload_n hx hb d_Y_divide_40 rfl (lv_at hl 0 rfl) ?_
      refine va_get (D := (dC, dI)) (ci := 2) (v := .ref h_O) (C := "RoundedNumbersModel") (T := F_Y) (N := 11) hx hb hts in_Y hown hK hP 0 rfl rfl 0 (by decide) (hts _ tw_314) (fun _ h9 => h9) rfl d_Y_divide_41 ?_
      refine lv_iload_n hx hb d_Y_divide_44 rfl (lv_at hl 2 rfl) ?_
      have c_45 : ¬ (x2 < 0 ∨ 8 ≤ x2.toNatClampNeg) := hif_n hF
      replace hF := hif_f c_45 hF
      refine va_lald hx hb hK hP 1 0 rfl rfl c_45 d_Y_divide_45 ?_
      refine lv_lconst (v := (0 : Int64)) hx hb d_Y_divide_46 (by decide) ?_
      refine W.lcmp hx hb d_Y_divide_47 ?_
      refine lv_if_le (tgt := 165) hx hb d_Y_divide_48 (by decide) (fun c_48 => ?_) (fun c_48 => ?_)
      · replace hF := hif_t c_48 hF
        exact b_165 x1 x2 x3 x4 x5 x8 Y_lo Y_ie Y_ra Y_to Y_te Y_re O_f N_f B_f _ _ _ hP hD hS (lv_sub hl [0, 1, 2, 3, 4, 5, 7] rfl) hF
      · replace hF := hif_f c_48 hF
        refine lv_iload hx hb d_Y_divide_51 (lv_at hl 6 rfl) ?_
        refine lv_bipush (v := (60 : Int32)) hx hb d_Y_divide_53 (by decide) ?_
        refine lv_icmp_ge (tgt := 165) hx hb d_Y_divide_55 (by decide) (fun c_55 => ?_) (fun c_55 => ?_)
        · replace hF := hif_t c_55 hF
          exact b_165 x1 x2 x3 x4 x5 x8 Y_lo Y_ie Y_ra Y_to Y_te Y_re O_f N_f B_f _ _ _ hP hD hS (lv_sub hl [0, 1, 2, 3, 4, 5, 7] rfl) hF
        · replace hF := hif_f c_55 hF
          refine lv_iinc (v := (x8 + (-1 : Int32))) (lv' := [(8, .int (x8 + (-1 : Int32))), (0, .ref h_Y), (1, .int x1), (2, .int x2), (3, .int x3), (4, .int x4), (5, .long x5), (7, .int x7)]) hx hb d_Y_divide_58 hl (k := 7) rfl rfl (by decide) rfl (fun ls hl => ?_)
          refine lv_ldc2 (v := (2 : Int64)) hx hb hown (hts _ tw_372) d_Y_divide_61 ?_
          refine lv_lload hx hb d_Y_divide_64 (lv_at hl 6 rfl) ?_
          refine lv_lmul hx hb d_Y_divide_66 ?_
          refine lv_iload hx hb d_Y_divide_67 (lv_at hl 0 rfl) ?_
          refine lv_if_lt (tgt := 86) hx hb d_Y_divide_69 (by decide) (fun c_69 => ?_) (fun c_69 => ?_)
          · replace hF := hif_t c_69 hF
            refine lv_lconst (v := (0 : Int64)) hx hb d_Y_divide_86 (by decide) ?_
            exact b_87 k_40 hk_40 x1 x2 x3 x4 x7 (x8 + (-1 : Int32)) (0 : Int64) ((2 : Int64) * x5) Y_lo Y_ie Y_ra Y_to Y_te Y_re O_f N_f B_f _ _ _ hP hD hS (lv_sub hl [1, 2, 3, 4, 5, 7, 0] rfl) hF
          · replace hF := hif_f c_69 hF
            refine lv_aload_n hx hb d_Y_divide_72 rfl (lv_at hl 1 rfl) ?_
            refine va_get (D := (dC, dI)) (ci := 2) (v := .ref h_O) (C := "RoundedNumbersModel") (T := F_Y) (N := 11) hx hb hts in_Y hown hK hP 0 rfl rfl 0 (by decide) (hts _ tw_314) (fun _ h9 => h9) rfl d_Y_divide_73 ?_
            refine lv_iload_n hx hb d_Y_divide_76 rfl (lv_at hl 3 rfl) ?_
            have c_77 : ¬ (x2 < 0 ∨ 8 ≤ x2.toNatClampNeg) := hif_n hF
            replace hF := hif_f c_77 hF
            refine va_lald hx hb hK hP 1 0 rfl rfl c_77 d_Y_divide_77 ?_
            refine lv_iload hx hb d_Y_divide_78 (lv_at hl 0 rfl) ?_
            refine lv_lshr (v := (jshr (O_f x2.toNatClampNeg) (x8 + (-1 : Int32)))) hx hb d_Y_divide_80 rfl ?_
            refine lv_lconst (v := (1 : Int64)) hx hb d_Y_divide_81 (by decide) ?_
            refine lv_land hx hb d_Y_divide_82 ?_
            refine lv_goto (tgt := 87) hx hb d_Y_divide_83 (by decide) ?_
            exact b_87 k_40 hk_40 x1 x2 x3 x4 x7 (x8 + (-1 : Int32)) ((jshr (O_f x2.toNatClampNeg) (x8 + (-1 : Int32))) &&& (1 : Int64)) ((2 : Int64) * x5) Y_lo Y_ie Y_ra Y_to Y_te Y_re O_f N_f B_f _ _ _ hP hD hS (lv_sub hl [1, 2, 3, 4, 5, 7, 0] rfl) hF
  unfold f_Y_divide at hF
  refine lv_aload_n hx hb d_Y_divide_0 rfl (lv_at hl 0 rfl) ?_
  refine lv_iload_n hx hb d_Y_divide_1 rfl (lv_at hl 1 rfl) ?_
  refine lv_iload_n hx hb d_Y_divide_2 rfl (lv_at hl 2 rfl) ?_
  refine lv_iload_n hx hb d_Y_divide_3 rfl (lv_at hl 3 rfl) ?_
  refine lv_iload hx hb d_Y_divide_4 (lv_at hl 4 rfl) ?_
  obtain ⟨q_6, hC_6, hF⟩ := hbd hF
  have hPc := hP.sub (ws' := [cY h_Y h_O h_N h_B h_G h_K Y_lo Y_ie Y_ra Y_to Y_te Y_re, cL h_O k_O 8 O_f]) [0, 1] rfl
  have hDc := hD.sub (ws' := [cY h_Y h_O h_N h_B h_G h_K Y_lo Y_ie Y_ra Y_to Y_te Y_re, cL h_O k_O 8 O_f]) [0, 1] (by decide) rfl
  have hKc := hK.sub (tys' := [(k_O, .long)]) [0] rfl
  have hFc := va_free (wc := [cY h_Y h_O h_N h_B h_G h_K Y_lo Y_ie Y_ra Y_to Y_te Y_re, cL h_O k_O 8 O_f]) hD hS hA [0, 1] rfl
  refine va_calli (va_runV (As := [.int a1, .int a2, .int a3, .int a4]) (rest := []) ⟨hx, hb, hml, hown, hts⟩ (c_Y_refused l dC dI h_Y h_O h_N h_B h_G h_K k_O s.heap.size Y_lo Y_ie Y_ra Y_to Y_te Y_re O_f a1 a2 a3 a4 q_6 hC_6) (cwV 4 hts g_Y_112_Y_refused rfl rfl rfl (by decide +kernel) ⟨Nat.le_of_ble_eq_true rfl, Nat.le_of_ble_eq_true rfl⟩) ⟨fun a U g mk q => by obtain ⟨q0, q1, qP, qK, qD⟩ := q; exact ⟨q0, q1, qP, va_K.moved (u := U) (U := U.calling g mk a) (Vm.Alike.refl U.vm) qK, qD⟩, va_recv hKc hPc (ci := 2) (q0 := 0) rfl rfl, fun U hU hW => ⟨rfl, by rw [hU], by rw [hU]; exact hPc, va_K.moved hW.alike hKc, hDc.weaken (fun _ _ _ _ => trivial)⟩⟩ rfl rfl hl.1 rfl (lv_room (Nat.le_of_ble_eq_true rfl)) d_Y_divide_6 ⟨Nat.zero_le _, Nat.zero_le _⟩) hS (fun q _ h => hFc q h) hFc (fun r u t H1 locs ht hvm hw hB hz1 hk1 hS => ?_)
  obtain ⟨hP1, hK1, hD1⟩ := hB
  replace hw := hw.symm
  subst hw
  rw [ht] at hP1
  obtain ⟨hP, hD⟩ := va_join (wr := [cI h_N k_N 8 N_f, cI h_B k_B 8 B_f]) (w1 := [cY h_Y h_O h_N h_B h_G h_K Y_lo Y_ie Y_ra Y_to Y_te Y_re, cL h_O k_O 8 O_f]) hP hD [0, 1] [2, 3] rfl rfl (by decide) (by decide) hk1 hFc hP1 hD1
  generalize H1 = H at hP hS ⊢
  have hP := hP.sub (ws' := [cY h_Y h_O h_N h_B h_G h_K Y_lo Y_ie Y_ra Y_to Y_te Y_re, cL h_O k_O 8 O_f, cI h_N k_N 8 N_f, cI h_B k_B 8 B_f]) [2, 3, 0, 1] rfl
  have hD := hD.sub (ws' := [cY h_Y h_O h_N h_B h_G h_K Y_lo Y_ie Y_ra Y_to Y_te Y_re, cL h_O k_O 8 O_f, cI h_N k_N 8 N_f, cI h_B k_B 8 B_f]) [2, 3, 0, 1] (by decide) rfl
  refine lv_if_ne (tgt := 23) hx hb d_Y_divide_9 (by decide) (fun c_9 => ?_) (fun c_9 => ?_)
  · replace hF := hif_f c_9 hF
    refine lv_iconst (v := (-1 : Int32)) hx hb d_Y_divide_23 (by decide) ?_
    obtain rfl := Option.some.inj hF
    exact W.iret (v := (-1 : Int32)) hx hb hr (fun t ht hW => ⟨⟨(-1 : Int32), (), rfl, rfl, by rw [ht]; exact hP, va_K.moved hW.alike hK, hD⟩, hS.F ht⟩) hS.2.2 d_Y_divide_24
  · replace hF := hif_t c_9 hF
    refine lv_aload_n hx hb d_Y_divide_12 rfl (lv_at hl 0 rfl) ?_
    refine va_get (D := (dC, dI)) (ci := 2) (v := .ref h_O) (C := "RoundedNumbersModel") (T := F_Y) (N := 11) hx hb hts in_Y hown hK hP 0 rfl rfl 0 (by decide) (hts _ tw_314) (fun _ h9 => h9) rfl d_Y_divide_13 ?_
    refine lv_iload_n hx hb d_Y_divide_16 rfl (lv_at hl 3 rfl) ?_
    have c_17 : ¬ (a3 < 0 ∨ 8 ≤ a3.toNatClampNeg) := hif_n hF
    replace hF := hif_f c_17 hF
    refine va_lald hx hb hK hP 1 0 rfl rfl c_17 d_Y_divide_17 ?_
    refine lv_lconst (v := (0 : Int64)) hx hb d_Y_divide_18 (by decide) ?_
    refine W.lcmp hx hb d_Y_divide_19 ?_
    refine lv_if_ne (tgt := 25) hx hb d_Y_divide_20 (by decide) (fun c_20 => ?_) (fun c_20 => ?_)
    · replace hF := hif_f c_20 hF
      refine lv_lconst (v := (0 : Int64)) hx hb d_Y_divide_25 (by decide) ?_
      refine lv_lstore (lv' := [(5, .long (0 : Int64)), (0, .ref h_Y), (1, .int a1), (2, .int a2), (3, .int a3), (4, .int a4)]) hx hb d_Y_divide_26 hl (by decide) rfl (fun ls hl => ?_)
      refine lv_aload_n hx hb d_Y_divide_28 rfl (lv_at hl 1 rfl) ?_
      refine lv_lconst (v := (0 : Int64)) hx hb d_Y_divide_29 (by decide) ?_
      refine va_put (D := (dC, dI)) (ci := 2) (v := .long (0 : Int64)) (ty := .long) (C := "RoundedNumbersModel") (T := F_Y) (N := 11) hx hb hts in_Y t_Y t_Y_ok n_Y hown hK hP hD hS 0 rfl rfl 8 (by decide) (hts _ tw_322) (fun _ h9 => h9) rfl (by decide +kernel) rfl rfl (Nat.le_of_ble_eq_true rfl) d_Y_divide_30 (fun H locs hP hD hS => ?_)
      have hP : va_P (dC, dI) classes [cY h_Y h_O h_N h_B h_G h_K Y_lo Y_ie Y_ra (0 : Int64) Y_te Y_re, cL h_O k_O 8 O_f, cI h_N k_N 8 N_f, cI h_B k_B 8 B_f] H := hP
      have hD : va_D A [cY h_Y h_O h_N h_B h_G h_K Y_lo Y_ie Y_ra (0 : Int64) Y_te Y_re, cL h_O k_O 8 O_f, cI h_N k_N 8 N_f, cI h_B k_B 8 B_f] := hD
      refine lv_iconst (v := (0 : Int32)) hx hb d_Y_divide_33 (by decide) ?_
      refine lv_istore (lv' := [(7, .int (0 : Int32)), (5, .long (0 : Int64)), (0, .ref h_Y), (1, .int a1), (2, .int a2), (3, .int a3), (4, .int a4)]) hx hb d_Y_divide_34 hl (by decide) rfl (fun ls hl => ?_)
      refine lv_bipush (v := (53 : Int32)) hx hb d_Y_divide_36 (by decide) ?_
      refine lv_istore (lv' := [(8, .int (53 : Int32)), (7, .int (0 : Int32)), (5, .long (0 : Int64)), (0, .ref h_Y), (1, .int a1), (2, .int a2), (3, .int a3), (4, .int a4)]) hx hb d_Y_divide_38 hl (by decide) rfl (fun ls hl => ?_)
      exact b_40 1000 a1 a2 a3 a4 (0 : Int64) (0 : Int32) (53 : Int32) Y_lo Y_ie Y_ra (0 : Int64) Y_te Y_re O_f N_f B_f _ _ _ hP hD hS (lv_sub hl [3, 4, 5, 6, 7, 2, 1, 0] rfl) hF
    · replace hF := hif_t c_20 hF
      refine lv_iconst (v := (-1 : Int32)) hx hb d_Y_divide_23 (by decide) ?_
      obtain rfl := Option.some.inj hF
      exact W.iret (v := (-1 : Int32)) hx hb hr (fun t ht hW => ⟨⟨(-1 : Int32), (), rfl, rfl, by rw [ht]; exact hP, va_K.moved hW.alike hK, hD⟩, hS.F ht⟩) hS.2.2 d_Y_divide_24
set_option maxHeartbeats 4000000 in
set_option maxRecDepth 100000 in
theorem c_Y_root (l : Launch) (dC : Nat → ClassId) (dI : Nat → Nat → Nat) (h_Y : Nat) (h_O : Nat) (h_N : Nat) (h_B : Nat) (h_G : Nat) (h_K : Nat) (k_O : ClassId) (k_N : ClassId) (k_B : ClassId) (sz : Nat) (Y_lo : Int32) (Y_ie : Int32) (Y_ra : Int32) (Y_to : Int64) (Y_te : Int32) (Y_re : Int32) (O_f : Nat → Int64) (N_f : Nat → Int32) (B_f : Nat → Int32) (a1 : Int32) (a2 : Int32) (a3 : Int32) (o : Int32 × Int32 × Int32 × Int32 × Int64 × Int32 × Int32 × (Nat → Int64) × (Nat → Int32) × (Nat → Int32)) (hF : f_Y_root Y_lo Y_ie Y_ra Y_to Y_te Y_re O_f N_f B_f a1 a2 a3 = some o) : Met l y_Y_root w_Y_root ({ frames := 4, cells := 0, slots := 0, locals := 104 } : Room) (va_Pc [.ref h_Y, .int a1, .int a2, .int a3] (fun U => U.heap.size = sz ∧ va_P (dC, dI) classes [cY h_Y h_O h_N h_B h_G h_K Y_lo Y_ie Y_ra Y_to Y_te Y_re, cL h_O k_O 8 O_f, cI h_N k_N 8 N_f, cI h_B k_B 8 B_f] U.heap ∧ va_K (dC, dI) classes [(k_O, .long), (k_N, .int), (k_B, .boolean)] U ∧ va_D (fun _ => True) [cY h_Y h_O h_N h_B h_G h_K Y_lo Y_ie Y_ra Y_to Y_te Y_re, cL h_O k_O 8 O_f, cI h_N k_N 8 N_f, cI h_B k_B 8 B_f])) (va_Qi (fun (r : Int32) (_ : Unit) => r = o.1) (fun (_ : Unit) (t : State) => va_P (dC, dI) classes [cY h_Y h_O h_N h_B h_G h_K o.2.1 o.2.2.1 o.2.2.2.1 o.2.2.2.2.1 o.2.2.2.2.2.1 o.2.2.2.2.2.2.1, cL h_O k_O 8 o.2.2.2.2.2.2.2.1, cI h_N k_N 8 o.2.2.2.2.2.2.2.2.1, cI h_B k_B 8 o.2.2.2.2.2.2.2.2.2] t.heap ∧ va_K (dC, dI) classes [(k_O, .long), (k_N, .int), (k_B, .boolean)] t ∧ va_D (va_A [cY h_Y h_O h_N h_B h_G h_K Y_lo Y_ie Y_ra Y_to Y_te Y_re, cL h_O k_O 8 O_f, cI h_N k_N 8 N_f, cI h_B k_B 8 B_f] sz) [cY h_Y h_O h_N h_B h_G h_K o.2.1 o.2.2.1 o.2.2.2.1 o.2.2.2.2.1 o.2.2.2.2.2.1 o.2.2.2.2.2.2.1, cL h_O k_O 8 o.2.2.2.2.2.2.2.1, cI h_N k_N 8 o.2.2.2.2.2.2.2.2.1, cI h_B k_B 8 o.2.2.2.2.2.2.2.2.2]) (va_A [cY h_Y h_O h_N h_B h_G h_K Y_lo Y_ie Y_ra Y_to Y_te Y_re, cL h_O k_O 8 O_f, cI h_N k_N 8 N_f, cI h_B k_B 8 B_f] sz)) 0 0 (va_A [cY h_Y h_O h_N h_B h_G h_K Y_lo Y_ie Y_ra Y_to Y_te Y_re, cL h_O k_O 8 O_f, cI h_N k_N 8 N_f, cI h_B k_B 8 B_f] sz) := by
  refine Met.ofW (cc := prog_4_method_29_code) (maxL := 14) (ret := (some .int)) (by decide) rfl ?_
  intro p e s m args below meth c s₁ B hml hv
  obtain ⟨rfl, hsz, hP, hK, hD0⟩ := hv
  have hx := B.exec
  have hb := B.bytes
  have hr := B.returns
  have hts0 := atoms_spec (ws := w_Y_root) B.pre
  have hts : ∀ w ∈ tb, w.before _ s = true := fun w h => hts0 w (List.mem_cons_of_mem _ h)
  clear hts0
  have hown : s.vm.findClass "RoundedNumbersModel" = some m.cls := findClass_of_methodNamed B.named
  have hlocks := B.notSynchronized
  subst hsz
  have hD := hD0.self (sz := s.heap.size)
  generalize hAe : va_A [cY h_Y h_O h_N h_B h_G h_K Y_lo Y_ie Y_ra Y_to Y_te Y_re, cL h_O k_O 8 O_f, cI h_N k_N 8 N_f, cI h_B k_B 8 B_f] s.heap.size = A at hD ⊢
  have hA : ∀ q : Nat, s.heap.size ≤ q → A q := fun q h => by rw [← hAe]; exact Or.inr h
  clear hAe
  have hS : va_S A s.heap s.heap [] := va_S.rf
  have hP : va_P (dC, dI) classes [cY h_Y h_O h_N h_B h_G h_K Y_lo Y_ie Y_ra Y_to Y_te Y_re, cL h_O k_O 8 O_f, cI h_N k_N 8 N_f, cI h_B k_B 8 B_f] s.heap := hP
  have hl := lv_entry ([.ref h_Y, .int a1, .int a2, .int a3]) (n := 14) (Nat.le_of_ble_eq_true rfl)
  rw [lg_entry_eq]
  generalize (lg_sl ([.ref h_Y, .int a1, .int a2, .int a3]) ++ List.replicate (14 - (lg_sl ([.ref h_Y, .int a1, .int a2, .int a3])).length) Slot.unset).toArray = ls at hl ⊢
  have hl : lv_has ls 14 [(0, .ref h_Y), (1, .int a1), (2, .int a2), (3, .int a3)] := hl
  have b_252 : ∀ (x1 : Int32) (x3 : Int32) (x6 : Int32) (x10 : Int32) (y0 : Int32) (Y_lo : Int32) (Y_ie : Int32) (Y_ra : Int32) (Y_to : Int64) (Y_te : Int32) (Y_re : Int32) (O_f : Nat → Int64) (N_f : Nat → Int32) (B_f : Nat → Int32) (H : Heap) (locs : List Loc) (ls : Array Slot), va_P (dC, dI) classes [cY h_Y h_O h_N h_B h_G h_K Y_lo Y_ie Y_ra Y_to Y_te Y_re, cL h_O k_O 8 O_f, cI h_N k_N 8 N_f, cI h_B k_B 8 B_f] H → va_D A [cY h_Y h_O h_N h_B h_G h_K Y_lo Y_ie Y_ra Y_to Y_te Y_re, cL h_O k_O 8 O_f, cI h_N k_N 8 N_f, cI h_B k_B 8 B_f] → va_S A s.heap H locs → lv_has ls 14 [(0, .ref h_Y), (1, .int x1), (3, .int x3), (6, .int x6), (10, .int x10)] → f_Y_root_252  x1 x3 x6 x10 y0 Y_lo Y_ie Y_ra Y_to Y_te Y_re O_f N_f B_f = some o → W p l e (headSpec w_Y_root ({ frames := 4, cells := 0, slots := 0, locals := 104 } : Room)).room s m ([.ref h_Y, .int a1, .int a2, .int a3] : List Value).toArray below meth c H locs 0 0 (MQ below (va_Qi (fun (r : Int32) (_ : Unit) => r = o.1) (fun (_ : Unit) (t : State) => va_P (dC, dI) classes [cY h_Y h_O h_N h_B h_G h_K o.2.1 o.2.2.1 o.2.2.2.1 o.2.2.2.2.1 o.2.2.2.2.2.1 o.2.2.2.2.2.2.1, cL h_O k_O 8 o.2.2.2.2.2.2.2.1, cI h_N k_N 8 o.2.2.2.2.2.2.2.2.1, cI h_B k_B 8 o.2.2.2.2.2.2.2.2.2] t.heap ∧ va_K (dC, dI) classes [(k_O, .long), (k_N, .int), (k_B, .boolean)] t ∧ va_D A [cY h_Y h_O h_N h_B h_G h_K o.2.1 o.2.2.1 o.2.2.2.1 o.2.2.2.2.1 o.2.2.2.2.2.1 o.2.2.2.2.2.2.1, cL h_O k_O 8 o.2.2.2.2.2.2.2.1, cI h_N k_N 8 o.2.2.2.2.2.2.2.2.1, cI h_B k_B 8 o.2.2.2.2.2.2.2.2.2]) A) ([.ref h_Y, .int a1, .int a2, .int a3] : List Value).toArray s 0 0 A) (F0 m 252 ls [.int y0, .ref h_Y]) := by
    intro x1 x3 x6 x10 y0 Y_lo Y_ie Y_ra Y_to Y_te Y_re O_f N_f B_f H locs ls hP hD hS hl hF
    unfold f_Y_root_252 at hF
    have c_252 : y0 = 0 ∨ y0 = 1 := hif_y hF
    replace hF := hif_t c_252 hF
    refine va_put (D := (dC, dI)) (ci := 2) (v := .int y0) (ty := .boolean) (C := "RoundedNumbersModel") (T := F_Y) (N := 11) hx hb hts in_Y t_Y t_Y_ok n_Y hown hK hP hD hS 0 rfl rfl 10 (by decide) (hts _ tw_324) (fun _ h9 => h9) rfl (by decide +kernel) (zb_nar c_252) (zb_fit c_252) (Nat.le_of_ble_eq_true rfl) d_Y_root_252 (fun H locs hP hD hS => ?_)
    have hP : va_P (dC, dI) classes [cY h_Y h_O h_N h_B h_G h_K Y_lo Y_ie Y_ra Y_to Y_te y0, cL h_O k_O 8 O_f, cI h_N k_N 8 N_f, cI h_B k_B 8 B_f] H := hP
    have hD : va_D A [cY h_Y h_O h_N h_B h_G h_K Y_lo Y_ie Y_ra Y_to Y_te y0, cL h_O k_O 8 O_f, cI h_N k_N 8 N_f, cI h_B k_B 8 B_f] := hD
    refine lv_aload_n hx hb d_Y_root_255 rfl (lv_at hl 0 rfl) ?_
    refine lv_iload hx hb d_Y_root_256 (lv_at hl 3 rfl) ?_
    refine lv_iconst (v := (2 : Int32)) hx hb d_Y_root_258 (by decide) ?_
    refine lv_idiv hx hb d_Y_root_259 (by decide) ?_
    refine lv_iload hx hb d_Y_root_260 (lv_at hl 4 rfl) ?_
    refine lv_iadd hx hb d_Y_root_262 ?_
    refine va_put (D := (dC, dI)) (ci := 2) (v := .int ((x6 / (2 : Int32)) + x10)) (ty := .int) (C := "RoundedNumbersModel") (T := F_Y) (N := 11) hx hb hts in_Y t_Y t_Y_ok n_Y hown hK hP hD hS 0 rfl rfl 9 (by decide) (hts _ tw_323) (fun _ h9 => h9) rfl (by decide +kernel) rfl rfl (Nat.le_of_ble_eq_true rfl) d_Y_root_263 (fun H locs hP hD hS => ?_)
    have hP : va_P (dC, dI) classes [cY h_Y h_O h_N h_B h_G h_K Y_lo Y_ie Y_ra Y_to ((x6 / (2 : Int32)) + x10) y0, cL h_O k_O 8 O_f, cI h_N k_N 8 N_f, cI h_B k_B 8 B_f] H := hP
    have hD : va_D A [cY h_Y h_O h_N h_B h_G h_K Y_lo Y_ie Y_ra Y_to ((x6 / (2 : Int32)) + x10) y0, cL h_O k_O 8 O_f, cI h_N k_N 8 N_f, cI h_B k_B 8 B_f] := hD
    refine lv_aload_n hx hb d_Y_root_266 rfl (lv_at hl 0 rfl) ?_
    refine lv_iload_n hx hb d_Y_root_267 rfl (lv_at hl 1 rfl) ?_
    refine lv_iconst (v := (0 : Int32)) hx hb d_Y_root_268 (by decide) ?_
    refine lv_iload_n hx hb d_Y_root_269 rfl (lv_at hl 2 rfl) ?_
    obtain ⟨q_270, hC_270, hF⟩ := hbd hF
    have hPc := hP.sub (ws' := []) [] rfl
    have hDc := hD.sub (ws' := []) [] (by decide) rfl
    have hKc := hK.sub (tys' := []) [] rfl
    have hFc := va_free (wc := []) hD hS hA [] rfl
    refine va_calli (va_runS (As := [.int x3]) (rest := [.int (0 : Int32), .int x1, .ref h_Y]) ⟨hx, hb, hml, hown, hts⟩ (c_Y_size l dC dI H.size x3 q_270 hC_270) (cwS 1 hts g_Y_120_Y_size rfl rfl rfl (by decide +kernel) ⟨Nat.le_of_ble_eq_true rfl, Nat.le_of_ble_eq_true rfl⟩) ⟨fun a U g mk q => by obtain ⟨q0, q1, qP, qK, qD⟩ := q; exact ⟨q0, q1, qP, va_K.moved (u := U) (U := U.calling g mk a) (Vm.Alike.refl U.vm) qK, qD⟩, fun U hU hW => ⟨rfl, by rw [hU], by rw [hU]; exact hPc, va_K.moved hW.alike hKc, hDc.weaken (fun _ _ _ _ => trivial)⟩⟩ rfl rfl hl.1 rfl (lv_room (Nat.le_of_ble_eq_true rfl)) d_Y_root_270 ⟨Nat.zero_le _, Nat.zero_le _⟩) hS (fun q _ h => hFc q h) hFc (fun r u t H1 locs ht hvm hw hB hz1 hk1 hS => ?_)
    obtain ⟨hP1, hK1, hD1⟩ := hB
    replace hw := hw.symm
    subst hw
    rw [ht] at hP1
    obtain ⟨hP, hD⟩ := va_join (wr := [cY h_Y h_O h_N h_B h_G h_K Y_lo Y_ie Y_ra Y_to ((x6 / (2 : Int32)) + x10) y0, cL h_O k_O 8 O_f, cI h_N k_N 8 N_f, cI h_B k_B 8 B_f]) (w1 := []) hP hD [] [0, 1, 2, 3] rfl rfl (by decide) (by decide) hk1 hFc hP1 hD1
    generalize H1 = H at hP hS ⊢
    have hP := hP.sub (ws' := [cY h_Y h_O h_N h_B h_G h_K Y_lo Y_ie Y_ra Y_to ((x6 / (2 : Int32)) + x10) y0, cL h_O k_O 8 O_f, cI h_N k_N 8 N_f, cI h_B k_B 8 B_f]) [0, 1, 2, 3] rfl
    have hD := hD.sub (ws' := [cY h_Y h_O h_N h_B h_G h_K Y_lo Y_ie Y_ra Y_to ((x6 / (2 : Int32)) + x10) y0, cL h_O k_O 8 O_f, cI h_N k_N 8 N_f, cI h_B k_B 8 B_f]) [0, 1, 2, 3] (by decide) rfl
    obtain ⟨q_273, hC_273, hF⟩ := hbd hF
    have hPc := hP.sub (ws' := [cY h_Y h_O h_N h_B h_G h_K Y_lo Y_ie Y_ra Y_to ((x6 / (2 : Int32)) + x10) y0, cL h_O k_O 8 O_f, cI h_N k_N 8 N_f, cI h_B k_B 8 B_f]) [0, 1, 2, 3] rfl
    have hDc := hD.sub (ws' := [cY h_Y h_O h_N h_B h_G h_K Y_lo Y_ie Y_ra Y_to ((x6 / (2 : Int32)) + x10) y0, cL h_O k_O 8 O_f, cI h_N k_N 8 N_f, cI h_B k_B 8 B_f]) [0, 1, 2, 3] (by decide) rfl
    have hKc := hK.sub (tys' := [(k_O, .long), (k_N, .int), (k_B, .boolean)]) [0, 1, 2] rfl
    have hFc := va_free (wc := [cY h_Y h_O h_N h_B h_G h_K Y_lo Y_ie Y_ra Y_to ((x6 / (2 : Int32)) + x10) y0, cL h_O k_O 8 O_f, cI h_N k_N 8 N_f, cI h_B k_B 8 B_f]) hD hS hA [0, 1, 2, 3] rfl
    refine va_calli (va_runV (As := [.int x1, .int (0 : Int32), .int q_270]) (rest := []) ⟨hx, hb, hml, hown, hts⟩ (c_Y_round l dC dI h_Y h_O h_N h_B h_G h_K k_O k_N k_B H.size Y_lo Y_ie Y_ra Y_to ((x6 / (2 : Int32)) + x10) y0 O_f N_f B_f x1 (0 : Int32) q_270 q_273 hC_273) (cwV 3 hts g_Y_97_Y_round rfl rfl rfl (by decide +kernel) ⟨Nat.le_of_ble_eq_true rfl, Nat.le_of_ble_eq_true rfl⟩) ⟨fun a U g mk q => by obtain ⟨q0, q1, qP, qK, qD⟩ := q; exact ⟨q0, q1, qP, va_K.moved (u := U) (U := U.calling g mk a) (Vm.Alike.refl U.vm) qK, qD⟩, va_recv hKc hPc (ci := 2) (q0 := 0) rfl rfl, fun U hU hW => ⟨rfl, by rw [hU], by rw [hU]; exact hPc, va_K.moved hW.alike hKc, hDc.weaken (fun _ _ _ _ => trivial)⟩⟩ rfl rfl hl.1 rfl (lv_room (Nat.le_of_ble_eq_true rfl)) d_Y_root_273 ⟨Nat.zero_le _, Nat.zero_le _⟩) hS (fun q _ h => hFc q h) hFc (fun r u t H1 locs ht hvm hw hB hz1 hk1 hS => ?_)
    obtain ⟨hP1, hK1, hD1⟩ := hB
    replace hw := hw.symm
    subst hw
    rw [ht] at hP1
    obtain ⟨hP, hD⟩ := va_join (wr := []) (w1 := [cY h_Y h_O h_N h_B h_G h_K q_273.2.1 q_273.2.2.1 q_273.2.2.2.1 Y_to ((x6 / (2 : Int32)) + x10) y0, cL h_O k_O 8 q_273.2.2.2.2.1, cI h_N k_N 8 q_273.2.2.2.2.2.1, cI h_B k_B 8 q_273.2.2.2.2.2.2]) hP hD [0, 1, 2, 3] [] rfl rfl (by decide) (by decide) hk1 hFc hP1 hD1
    generalize H1 = H at hP hS ⊢
    have hP := hP.sub (ws' := [cY h_Y h_O h_N h_B h_G h_K q_273.2.1 q_273.2.2.1 q_273.2.2.2.1 Y_to ((x6 / (2 : Int32)) + x10) y0, cL h_O k_O 8 q_273.2.2.2.2.1, cI h_N k_N 8 q_273.2.2.2.2.2.1, cI h_B k_B 8 q_273.2.2.2.2.2.2]) [0, 1, 2, 3] rfl
    have hD := hD.sub (ws' := [cY h_Y h_O h_N h_B h_G h_K q_273.2.1 q_273.2.2.1 q_273.2.2.2.1 Y_to ((x6 / (2 : Int32)) + x10) y0, cL h_O k_O 8 q_273.2.2.2.2.1, cI h_N k_N 8 q_273.2.2.2.2.2.1, cI h_B k_B 8 q_273.2.2.2.2.2.2]) [0, 1, 2, 3] (by decide) rfl
    obtain rfl := Option.some.inj hF
    exact W.iret (v := q_273.1) hx hb hr (fun t ht hW => ⟨⟨q_273.1, (), rfl, rfl, by rw [ht]; exact hP, va_K.moved hW.alike hK, hD⟩, hS.F ht⟩) hS.2.2 d_Y_root_276
  have b_239 : ∀ (x1 : Int32) (x3 : Int32) (x6 : Int32) (x7 : Int64) (x10 : Int32) (Y_lo : Int32) (Y_ie : Int32) (Y_ra : Int32) (Y_to : Int64) (Y_te : Int32) (Y_re : Int32) (O_f : Nat → Int64) (N_f : Nat → Int32) (B_f : Nat → Int32) (H : Heap) (locs : List Loc) (ls : Array Slot), va_P (dC, dI) classes [cY h_Y h_O h_N h_B h_G h_K Y_lo Y_ie Y_ra Y_to Y_te Y_re, cL h_O k_O 8 O_f, cI h_N k_N 8 N_f, cI h_B k_B 8 B_f] H → va_D A [cY h_Y h_O h_N h_B h_G h_K Y_lo Y_ie Y_ra Y_to Y_te Y_re, cL h_O k_O 8 O_f, cI h_N k_N 8 N_f, cI h_B k_B 8 B_f] → va_S A s.heap H locs → lv_has ls 14 [(0, .ref h_Y), (1, .int x1), (3, .int x3), (6, .int x6), (7, .long x7), (10, .int x10)] → f_Y_root_239  x1 x3 x6 x7 x10 Y_lo Y_ie Y_ra Y_to Y_te Y_re O_f N_f B_f = some o → W p l e (headSpec w_Y_root ({ frames := 4, cells := 0, slots := 0, locals := 104 } : Room)).room s m ([.ref h_Y, .int a1, .int a2, .int a3] : List Value).toArray below meth c H locs 0 0 (MQ below (va_Qi (fun (r : Int32) (_ : Unit) => r = o.1) (fun (_ : Unit) (t : State) => va_P (dC, dI) classes [cY h_Y h_O h_N h_B h_G h_K o.2.1 o.2.2.1 o.2.2.2.1 o.2.2.2.2.1 o.2.2.2.2.2.1 o.2.2.2.2.2.2.1, cL h_O k_O 8 o.2.2.2.2.2.2.2.1, cI h_N k_N 8 o.2.2.2.2.2.2.2.2.1, cI h_B k_B 8 o.2.2.2.2.2.2.2.2.2] t.heap ∧ va_K (dC, dI) classes [(k_O, .long), (k_N, .int), (k_B, .boolean)] t ∧ va_D A [cY h_Y h_O h_N h_B h_G h_K o.2.1 o.2.2.1 o.2.2.2.1 o.2.2.2.2.1 o.2.2.2.2.2.1 o.2.2.2.2.2.2.1, cL h_O k_O 8 o.2.2.2.2.2.2.2.1, cI h_N k_N 8 o.2.2.2.2.2.2.2.2.1, cI h_B k_B 8 o.2.2.2.2.2.2.2.2.2]) A) ([.ref h_Y, .int a1, .int a2, .int a3] : List Value).toArray s 0 0 A) (F0 m 239 ls []) := by
    intro x1 x3 x6 x7 x10 Y_lo Y_ie Y_ra Y_to Y_te Y_re O_f N_f B_f H locs ls hP hD hS hl hF
    unfold f_Y_root_239 at hF
    refine lv_aload_n hx hb d_Y_root_239 rfl (lv_at hl 0 rfl) ?_
    refine lv_lload hx hb d_Y_root_240 (lv_at hl 4 rfl) ?_
    refine lv_lconst (v := (0 : Int64)) hx hb d_Y_root_242 (by decide) ?_
    refine W.lcmp hx hb d_Y_root_243 ?_
    refine lv_if_le (tgt := 251) hx hb d_Y_root_244 (by decide) (fun c_244 => ?_) (fun c_244 => ?_)
    · replace hF := hif_t c_244 hF
      refine lv_iconst (v := (0 : Int32)) hx hb d_Y_root_251 (by decide) ?_
      exact b_252 x1 x3 x6 x10 (0 : Int32) Y_lo Y_ie Y_ra Y_to Y_te Y_re O_f N_f B_f _ _ _ hP hD hS (lv_sub hl [0, 1, 2, 3, 5] rfl) hF
    · replace hF := hif_f c_244 hF
      refine lv_iconst (v := (1 : Int32)) hx hb d_Y_root_247 (by decide) ?_
      refine lv_goto (tgt := 252) hx hb d_Y_root_248 (by decide) ?_
      exact b_252 x1 x3 x6 x10 (1 : Int32) Y_lo Y_ie Y_ra Y_to Y_te Y_re O_f N_f B_f _ _ _ hP hD hS (lv_sub hl [0, 1, 2, 3, 5] rfl) hF
  have b_218 : ∀ (k_114 : (Int32) → (Int32) → (Int64) → (Int32) → (Int64) → (Int32) → (Int32) → (Int32) → (Int32) → (Int32) → (Int64) → (Int32) → (Int32) → (Nat → Int64) → (Nat → Int32) → (Nat → Int32) → Option (Int32 × Int32 × Int32 × Int32 × Int64 × Int32 × Int32 × (Nat → Int64) × (Nat → Int32) × (Nat → Int32))), (∀ (x1 : Int32) (x3 : Int32) (x4 : Int64) (x6 : Int32) (x7 : Int64) (x9 : Int32) (x10 : Int32) (Y_lo : Int32) (Y_ie : Int32) (Y_ra : Int32) (Y_to : Int64) (Y_te : Int32) (Y_re : Int32) (O_f : Nat → Int64) (N_f : Nat → Int32) (B_f : Nat → Int32) (H : Heap) (locs : List Loc) (ls : Array Slot), va_P (dC, dI) classes [cY h_Y h_O h_N h_B h_G h_K Y_lo Y_ie Y_ra Y_to Y_te Y_re, cL h_O k_O 8 O_f, cI h_N k_N 8 N_f, cI h_B k_B 8 B_f] H → va_D A [cY h_Y h_O h_N h_B h_G h_K Y_lo Y_ie Y_ra Y_to Y_te Y_re, cL h_O k_O 8 O_f, cI h_N k_N 8 N_f, cI h_B k_B 8 B_f] → va_S A s.heap H locs → lv_has ls 14 [(0, .ref h_Y), (1, .int x1), (3, .int x3), (4, .long x4), (6, .int x6), (7, .long x7), (9, .int x9), (10, .int x10)] → k_114 x1 x3 x4 x6 x7 x9 x10 Y_lo Y_ie Y_ra Y_to Y_te Y_re O_f N_f B_f = some o → W p l e (headSpec w_Y_root ({ frames := 4, cells := 0, slots := 0, locals := 104 } : Room)).room s m ([.ref h_Y, .int a1, .int a2, .int a3] : List Value).toArray below meth c H locs 0 0 (MQ below (va_Qi (fun (r : Int32) (_ : Unit) => r = o.1) (fun (_ : Unit) (t : State) => va_P (dC, dI) classes [cY h_Y h_O h_N h_B h_G h_K o.2.1 o.2.2.1 o.2.2.2.1 o.2.2.2.2.1 o.2.2.2.2.2.1 o.2.2.2.2.2.2.1, cL h_O k_O 8 o.2.2.2.2.2.2.2.1, cI h_N k_N 8 o.2.2.2.2.2.2.2.2.1, cI h_B k_B 8 o.2.2.2.2.2.2.2.2.2] t.heap ∧ va_K (dC, dI) classes [(k_O, .long), (k_N, .int), (k_B, .boolean)] t ∧ va_D A [cY h_Y h_O h_N h_B h_G h_K o.2.1 o.2.2.1 o.2.2.2.1 o.2.2.2.2.1 o.2.2.2.2.2.1 o.2.2.2.2.2.2.1, cL h_O k_O 8 o.2.2.2.2.2.2.2.1, cI h_N k_N 8 o.2.2.2.2.2.2.2.2.1, cI h_B k_B 8 o.2.2.2.2.2.2.2.2.2]) A) ([.ref h_Y, .int a1, .int a2, .int a3] : List Value).toArray s 0 0 A) (F0 m 114 ls [])) → ∀ (x1 : Int32) (x3 : Int32) (x4 : Int64) (x6 : Int32) (x7 : Int64) (x9 : Int32) (x10 : Int32) (x13 : Int32) (y0 : Int32) (y1 : Int64) (Y_lo : Int32) (Y_ie : Int32) (Y_ra : Int32) (Y_to : Int64) (Y_te : Int32) (Y_re : Int32) (O_f : Nat → Int64) (N_f : Nat → Int32) (B_f : Nat → Int32) (H : Heap) (locs : List Loc) (ls : Array Slot), va_P (dC, dI) classes [cY h_Y h_O h_N h_B h_G h_K Y_lo Y_ie Y_ra Y_to Y_te Y_re, cL h_O k_O 8 O_f, cI h_N k_N 8 N_f, cI h_B k_B 8 B_f] H → va_D A [cY h_Y h_O h_N h_B h_G h_K Y_lo Y_ie Y_ra Y_to Y_te Y_re, cL h_O k_O 8 O_f, cI h_N k_N 8 N_f, cI h_B k_B 8 B_f] → va_S A s.heap H locs → lv_has ls 14 [(0, .ref h_Y), (1, .int x1), (3, .int x3), (4, .long x4), (6, .int x6), (7, .long x7), (9, .int x9), (10, .int x10), (13, .int x13)] → f_Y_root_218 k_114 x1 x3 x4 x6 x7 x9 x10 x13 y0 y1 Y_lo Y_ie Y_ra Y_to Y_te Y_re O_f N_f B_f = some o → W p l e (headSpec w_Y_root ({ frames := 4, cells := 0, slots := 0, locals := 104 } : Room)).room s m ([.ref h_Y, .int a1, .int a2, .int a3] : List Value).toArray below meth c H locs 0 0 (MQ below (va_Qi (fun (r : Int32) (_ : Unit) => r = o.1) (fun (_ : Unit) (t : State) => va_P (dC, dI) classes [cY h_Y h_O h_N h_B h_G h_K o.2.1 o.2.2.1 o.2.2.2.1 o.2.2.2.2.1 o.2.2.2.2.2.1 o.2.2.2.2.2.2.1, cL h_O k_O 8 o.2.2.2.2.2.2.2.1, cI h_N k_N 8 o.2.2.2.2.2.2.2.2.1, cI h_B k_B 8 o.2.2.2.2.2.2.2.2.2] t.heap ∧ va_K (dC, dI) classes [(k_O, .long), (k_N, .int), (k_B, .boolean)] t ∧ va_D A [cY h_Y h_O h_N h_B h_G h_K o.2.1 o.2.2.1 o.2.2.2.1 o.2.2.2.2.1 o.2.2.2.2.2.1 o.2.2.2.2.2.2.1, cL h_O k_O 8 o.2.2.2.2.2.2.2.1, cI h_N k_N 8 o.2.2.2.2.2.2.2.2.1, cI h_B k_B 8 o.2.2.2.2.2.2.2.2.2]) A) ([.ref h_Y, .int a1, .int a2, .int a3] : List Value).toArray s 0 0 A) (F0 m 218 ls [.int y0, .long y1, .ref h_Y]) := by
    intro k_114 hk_114 x1 x3 x4 x6 x7 x9 x10 x13 y0 y1 Y_lo Y_ie Y_ra Y_to Y_te Y_re O_f N_f B_f H locs ls hP hD hS hl hF
    unfold f_Y_root_218 at hF
    refine lv_i2l (v := y0.toInt64) hx hb d_Y_root_218 rfl ?_
    refine lv_ladd hx hb d_Y_root_219 ?_
    refine va_put (D := (dC, dI)) (ci := 2) (v := .long (y1 + y0.toInt64)) (ty := .long) (C := "RoundedNumbersModel") (T := F_Y) (N := 11) hx hb hts in_Y t_Y t_Y_ok n_Y hown hK hP hD hS 0 rfl rfl 8 (by decide) (hts _ tw_322) (fun _ h9 => h9) rfl (by decide +kernel) rfl rfl (Nat.le_of_ble_eq_true rfl) d_Y_root_220 (fun H locs hP hD hS => ?_)
    have hP : va_P (dC, dI) classes [cY h_Y h_O h_N h_B h_G h_K Y_lo Y_ie Y_ra (y1 + y0.toInt64) Y_te Y_re, cL h_O k_O 8 O_f, cI h_N k_N 8 N_f, cI h_B k_B 8 B_f] H := hP
    have hD : va_D A [cY h_Y h_O h_N h_B h_G h_K Y_lo Y_ie Y_ra (y1 + y0.toInt64) Y_te Y_re, cL h_O k_O 8 O_f, cI h_N k_N 8 N_f, cI h_B k_B 8 B_f] := hD
    refine lv_iload hx hb d_Y_root_223 (lv_at hl 6 rfl) ?_
    refine lv_if_gt (tgt := 233) hx hb d_Y_root_225 (by decide) (fun c_225 => ?_) (fun c_225 => ?_)
    · replace hF := hif_t c_225 hF
      refine lv_iinc (v := (x9 + (1 : Int32))) (lv' := [(9, .int (x9 + (1 : Int32))), (0, .ref h_Y), (1, .int x1), (3, .int x3), (4, .long x4), (6, .int x6), (7, .long x7), (10, .int x10), (13, .int x13)]) hx hb d_Y_root_233 hl (k := 6) rfl rfl (by decide) rfl (fun ls hl => ?_)
      refine lv_goto (tgt := 114) hx hb d_Y_root_236 (by decide) ?_
      exact hk_114 x1 x3 x4 x6 x7 (x9 + (1 : Int32)) x10 Y_lo Y_ie Y_ra (y1 + y0.toInt64) Y_te Y_re O_f N_f B_f _ _ _ hP hD hS (lv_sub hl [1, 2, 3, 4, 5, 6, 0, 7] rfl) hF
    · replace hF := hif_f c_225 hF
      refine lv_iload hx hb d_Y_root_228 (lv_at hl 8 rfl) ?_
      refine lv_if_eq (tgt := 236) hx hb d_Y_root_230 (by decide) (fun c_230 => ?_) (fun c_230 => ?_)
      · replace hF := hif_t c_230 hF
        refine lv_goto (tgt := 114) hx hb d_Y_root_236 (by decide) ?_
        exact hk_114 x1 x3 x4 x6 x7 x9 x10 Y_lo Y_ie Y_ra (y1 + y0.toInt64) Y_te Y_re O_f N_f B_f _ _ _ hP hD hS (lv_sub hl [0, 1, 2, 3, 4, 5, 6, 7] rfl) hF
      · replace hF := hif_f c_230 hF
        refine lv_iinc (v := (x9 + (1 : Int32))) (lv' := [(9, .int (x9 + (1 : Int32))), (0, .ref h_Y), (1, .int x1), (3, .int x3), (4, .long x4), (6, .int x6), (7, .long x7), (10, .int x10), (13, .int x13)]) hx hb d_Y_root_233 hl (k := 6) rfl rfl (by decide) rfl (fun ls hl => ?_)
        refine lv_goto (tgt := 114) hx hb d_Y_root_236 (by decide) ?_
        exact hk_114 x1 x3 x4 x6 x7 (x9 + (1 : Int32)) x10 Y_lo Y_ie Y_ra (y1 + y0.toInt64) Y_te Y_re O_f N_f B_f _ _ _ hP hD hS (lv_sub hl [1, 2, 3, 4, 5, 6, 0, 7] rfl) hF
  have b_199 : ∀ (k_114 : (Int32) → (Int32) → (Int64) → (Int32) → (Int64) → (Int32) → (Int32) → (Int32) → (Int32) → (Int32) → (Int64) → (Int32) → (Int32) → (Nat → Int64) → (Nat → Int32) → (Nat → Int32) → Option (Int32 × Int32 × Int32 × Int32 × Int64 × Int32 × Int32 × (Nat → Int64) × (Nat → Int32) × (Nat → Int32))), (∀ (x1 : Int32) (x3 : Int32) (x4 : Int64) (x6 : Int32) (x7 : Int64) (x9 : Int32) (x10 : Int32) (Y_lo : Int32) (Y_ie : Int32) (Y_ra : Int32) (Y_to : Int64) (Y_te : Int32) (Y_re : Int32) (O_f : Nat → Int64) (N_f : Nat → Int32) (B_f : Nat → Int32) (H : Heap) (locs : List Loc) (ls : Array Slot), va_P (dC, dI) classes [cY h_Y h_O h_N h_B h_G h_K Y_lo Y_ie Y_ra Y_to Y_te Y_re, cL h_O k_O 8 O_f, cI h_N k_N 8 N_f, cI h_B k_B 8 B_f] H → va_D A [cY h_Y h_O h_N h_B h_G h_K Y_lo Y_ie Y_ra Y_to Y_te Y_re, cL h_O k_O 8 O_f, cI h_N k_N 8 N_f, cI h_B k_B 8 B_f] → va_S A s.heap H locs → lv_has ls 14 [(0, .ref h_Y), (1, .int x1), (3, .int x3), (4, .long x4), (6, .int x6), (7, .long x7), (9, .int x9), (10, .int x10)] → k_114 x1 x3 x4 x6 x7 x9 x10 Y_lo Y_ie Y_ra Y_to Y_te Y_re O_f N_f B_f = some o → W p l e (headSpec w_Y_root ({ frames := 4, cells := 0, slots := 0, locals := 104 } : Room)).room s m ([.ref h_Y, .int a1, .int a2, .int a3] : List Value).toArray below meth c H locs 0 0 (MQ below (va_Qi (fun (r : Int32) (_ : Unit) => r = o.1) (fun (_ : Unit) (t : State) => va_P (dC, dI) classes [cY h_Y h_O h_N h_B h_G h_K o.2.1 o.2.2.1 o.2.2.2.1 o.2.2.2.2.1 o.2.2.2.2.2.1 o.2.2.2.2.2.2.1, cL h_O k_O 8 o.2.2.2.2.2.2.2.1, cI h_N k_N 8 o.2.2.2.2.2.2.2.2.1, cI h_B k_B 8 o.2.2.2.2.2.2.2.2.2] t.heap ∧ va_K (dC, dI) classes [(k_O, .long), (k_N, .int), (k_B, .boolean)] t ∧ va_D A [cY h_Y h_O h_N h_B h_G h_K o.2.1 o.2.2.1 o.2.2.2.1 o.2.2.2.2.1 o.2.2.2.2.2.1 o.2.2.2.2.2.2.1, cL h_O k_O 8 o.2.2.2.2.2.2.2.1, cI h_N k_N 8 o.2.2.2.2.2.2.2.2.1, cI h_B k_B 8 o.2.2.2.2.2.2.2.2.2]) A) ([.ref h_Y, .int a1, .int a2, .int a3] : List Value).toArray s 0 0 A) (F0 m 114 ls [])) → ∀ (x1 : Int32) (x3 : Int32) (x4 : Int64) (x6 : Int32) (x7 : Int64) (x9 : Int32) (x10 : Int32) (x13 : Int32) (Y_lo : Int32) (Y_ie : Int32) (Y_ra : Int32) (Y_to : Int64) (Y_te : Int32) (Y_re : Int32) (O_f : Nat → Int64) (N_f : Nat → Int32) (B_f : Nat → Int32) (H : Heap) (locs : List Loc) (ls : Array Slot), va_P (dC, dI) classes [cY h_Y h_O h_N h_B h_G h_K Y_lo Y_ie Y_ra Y_to Y_te Y_re, cL h_O k_O 8 O_f, cI h_N k_N 8 N_f, cI h_B k_B 8 B_f] H → va_D A [cY h_Y h_O h_N h_B h_G h_K Y_lo Y_ie Y_ra Y_to Y_te Y_re, cL h_O k_O 8 O_f, cI h_N k_N 8 N_f, cI h_B k_B 8 B_f] → va_S A s.heap H locs → lv_has ls 14 [(0, .ref h_Y), (1, .int x1), (3, .int x3), (4, .long x4), (6, .int x6), (7, .long x7), (9, .int x9), (10, .int x10), (13, .int x13)] → f_Y_root_199 k_114 x1 x3 x4 x6 x7 x9 x10 x13 Y_lo Y_ie Y_ra Y_to Y_te Y_re O_f N_f B_f = some o → W p l e (headSpec w_Y_root ({ frames := 4, cells := 0, slots := 0, locals := 104 } : Room)).room s m ([.ref h_Y, .int a1, .int a2, .int a3] : List Value).toArray below meth c H locs 0 0 (MQ below (va_Qi (fun (r : Int32) (_ : Unit) => r = o.1) (fun (_ : Unit) (t : State) => va_P (dC, dI) classes [cY h_Y h_O h_N h_B h_G h_K o.2.1 o.2.2.1 o.2.2.2.1 o.2.2.2.2.1 o.2.2.2.2.2.1 o.2.2.2.2.2.2.1, cL h_O k_O 8 o.2.2.2.2.2.2.2.1, cI h_N k_N 8 o.2.2.2.2.2.2.2.2.1, cI h_B k_B 8 o.2.2.2.2.2.2.2.2.2] t.heap ∧ va_K (dC, dI) classes [(k_O, .long), (k_N, .int), (k_B, .boolean)] t ∧ va_D A [cY h_Y h_O h_N h_B h_G h_K o.2.1 o.2.2.1 o.2.2.2.1 o.2.2.2.2.1 o.2.2.2.2.2.1 o.2.2.2.2.2.2.1, cL h_O k_O 8 o.2.2.2.2.2.2.2.1, cI h_N k_N 8 o.2.2.2.2.2.2.2.2.1, cI h_B k_B 8 o.2.2.2.2.2.2.2.2.2]) A) ([.ref h_Y, .int a1, .int a2, .int a3] : List Value).toArray s 0 0 A) (F0 m 199 ls []) := by
    intro k_114 hk_114 x1 x3 x4 x6 x7 x9 x10 x13 Y_lo Y_ie Y_ra Y_to Y_te Y_re O_f N_f B_f H locs ls hP hD hS hl hF
    unfold f_Y_root_199 at hF
    refine lv_aload_n hx hb d_Y_root_199 rfl (lv_at hl 0 rfl) ?_
    refine lv_ldc2 (v := (2 : Int64)) hx hb hown (hts _ tw_372) d_Y_root_200 ?_
    refine lv_aload_n hx hb d_Y_root_203 rfl (lv_at hl 0 rfl) ?_
    refine va_get (D := (dC, dI)) (ci := 2) (v := .long Y_to) (C := "RoundedNumbersModel") (T := F_Y) (N := 11) hx hb hts in_Y hown hK hP 0 rfl rfl 8 (by decide) (hts _ tw_322) (fun _ h9 => h9) rfl d_Y_root_204 ?_
    refine lv_lmul hx hb d_Y_root_207 ?_
    refine lv_iload hx hb d_Y_root_208 (lv_at hl 8 rfl) ?_
    refine lv_if_eq (tgt := 217) hx hb d_Y_root_210 (by decide) (fun c_210 => ?_) (fun c_210 => ?_)
    · replace hF := hif_t c_210 hF
      refine lv_iconst (v := (0 : Int32)) hx hb d_Y_root_217 (by decide) ?_
      exact b_218 k_114 hk_114 x1 x3 x4 x6 x7 x9 x10 x13 (0 : Int32) ((2 : Int64) * Y_to) Y_lo Y_ie Y_ra Y_to Y_te Y_re O_f N_f B_f _ _ _ hP hD hS (lv_sub hl [0, 1, 2, 3, 4, 5, 6, 7, 8] rfl) hF
    · replace hF := hif_f c_210 hF
      refine lv_iconst (v := (1 : Int32)) hx hb d_Y_root_213 (by decide) ?_
      refine lv_goto (tgt := 218) hx hb d_Y_root_214 (by decide) ?_
      exact b_218 k_114 hk_114 x1 x3 x4 x6 x7 x9 x10 x13 (1 : Int32) ((2 : Int64) * Y_to) Y_lo Y_ie Y_ra Y_to Y_te Y_re O_f N_f B_f _ _ _ hP hD hS (lv_sub hl [0, 1, 2, 3, 4, 5, 6, 7, 8] rfl) hF
  have b_185 : ∀ (k_114 : (Int32) → (Int32) → (Int64) → (Int32) → (Int64) → (Int32) → (Int32) → (Int32) → (Int32) → (Int32) → (Int64) → (Int32) → (Int32) → (Nat → Int64) → (Nat → Int32) → (Nat → Int32) → Option (Int32 × Int32 × Int32 × Int32 × Int64 × Int32 × Int32 × (Nat → Int64) × (Nat → Int32) × (Nat → Int32))), (∀ (x1 : Int32) (x3 : Int32) (x4 : Int64) (x6 : Int32) (x7 : Int64) (x9 : Int32) (x10 : Int32) (Y_lo : Int32) (Y_ie : Int32) (Y_ra : Int32) (Y_to : Int64) (Y_te : Int32) (Y_re : Int32) (O_f : Nat → Int64) (N_f : Nat → Int32) (B_f : Nat → Int32) (H : Heap) (locs : List Loc) (ls : Array Slot), va_P (dC, dI) classes [cY h_Y h_O h_N h_B h_G h_K Y_lo Y_ie Y_ra Y_to Y_te Y_re, cL h_O k_O 8 O_f, cI h_N k_N 8 N_f, cI h_B k_B 8 B_f] H → va_D A [cY h_Y h_O h_N h_B h_G h_K Y_lo Y_ie Y_ra Y_to Y_te Y_re, cL h_O k_O 8 O_f, cI h_N k_N 8 N_f, cI h_B k_B 8 B_f] → va_S A s.heap H locs → lv_has ls 14 [(0, .ref h_Y), (1, .int x1), (3, .int x3), (4, .long x4), (6, .int x6), (7, .long x7), (9, .int x9), (10, .int x10)] → k_114 x1 x3 x4 x6 x7 x9 x10 Y_lo Y_ie Y_ra Y_to Y_te Y_re O_f N_f B_f = some o → W p l e (headSpec w_Y_root ({ frames := 4, cells := 0, slots := 0, locals := 104 } : Room)).room s m ([.ref h_Y, .int a1, .int a2, .int a3] : List Value).toArray below meth c H locs 0 0 (MQ below (va_Qi (fun (r : Int32) (_ : Unit) => r = o.1) (fun (_ : Unit) (t : State) => va_P (dC, dI) classes [cY h_Y h_O h_N h_B h_G h_K o.2.1 o.2.2.1 o.2.2.2.1 o.2.2.2.2.1 o.2.2.2.2.2.1 o.2.2.2.2.2.2.1, cL h_O k_O 8 o.2.2.2.2.2.2.2.1, cI h_N k_N 8 o.2.2.2.2.2.2.2.2.1, cI h_B k_B 8 o.2.2.2.2.2.2.2.2.2] t.heap ∧ va_K (dC, dI) classes [(k_O, .long), (k_N, .int), (k_B, .boolean)] t ∧ va_D A [cY h_Y h_O h_N h_B h_G h_K o.2.1 o.2.2.1 o.2.2.2.1 o.2.2.2.2.1 o.2.2.2.2.2.1 o.2.2.2.2.2.2.1, cL h_O k_O 8 o.2.2.2.2.2.2.2.1, cI h_N k_N 8 o.2.2.2.2.2.2.2.2.1, cI h_B k_B 8 o.2.2.2.2.2.2.2.2.2]) A) ([.ref h_Y, .int a1, .int a2, .int a3] : List Value).toArray s 0 0 A) (F0 m 114 ls [])) → ∀ (x1 : Int32) (x3 : Int32) (x4 : Int64) (x6 : Int32) (x7 : Int64) (x9 : Int32) (x10 : Int32) (x11 : Int64) (y0 : Int32) (Y_lo : Int32) (Y_ie : Int32) (Y_ra : Int32) (Y_to : Int64) (Y_te : Int32) (Y_re : Int32) (O_f : Nat → Int64) (N_f : Nat → Int32) (B_f : Nat → Int32) (H : Heap) (locs : List Loc) (ls : Array Slot), va_P (dC, dI) classes [cY h_Y h_O h_N h_B h_G h_K Y_lo Y_ie Y_ra Y_to Y_te Y_re, cL h_O k_O 8 O_f, cI h_N k_N 8 N_f, cI h_B k_B 8 B_f] H → va_D A [cY h_Y h_O h_N h_B h_G h_K Y_lo Y_ie Y_ra Y_to Y_te Y_re, cL h_O k_O 8 O_f, cI h_N k_N 8 N_f, cI h_B k_B 8 B_f] → va_S A s.heap H locs → lv_has ls 14 [(0, .ref h_Y), (1, .int x1), (3, .int x3), (4, .long x4), (6, .int x6), (7, .long x7), (9, .int x9), (10, .int x10), (11, .long x11)] → f_Y_root_185 k_114 x1 x3 x4 x6 x7 x9 x10 x11 y0 Y_lo Y_ie Y_ra Y_to Y_te Y_re O_f N_f B_f = some o → W p l e (headSpec w_Y_root ({ frames := 4, cells := 0, slots := 0, locals := 104 } : Room)).room s m ([.ref h_Y, .int a1, .int a2, .int a3] : List Value).toArray below meth c H locs 0 0 (MQ below (va_Qi (fun (r : Int32) (_ : Unit) => r = o.1) (fun (_ : Unit) (t : State) => va_P (dC, dI) classes [cY h_Y h_O h_N h_B h_G h_K o.2.1 o.2.2.1 o.2.2.2.1 o.2.2.2.2.1 o.2.2.2.2.2.1 o.2.2.2.2.2.2.1, cL h_O k_O 8 o.2.2.2.2.2.2.2.1, cI h_N k_N 8 o.2.2.2.2.2.2.2.2.1, cI h_B k_B 8 o.2.2.2.2.2.2.2.2.2] t.heap ∧ va_K (dC, dI) classes [(k_O, .long), (k_N, .int), (k_B, .boolean)] t ∧ va_D A [cY h_Y h_O h_N h_B h_G h_K o.2.1 o.2.2.1 o.2.2.2.1 o.2.2.2.2.1 o.2.2.2.2.2.1 o.2.2.2.2.2.2.1, cL h_O k_O 8 o.2.2.2.2.2.2.2.1, cI h_N k_N 8 o.2.2.2.2.2.2.2.2.1, cI h_B k_B 8 o.2.2.2.2.2.2.2.2.2]) A) ([.ref h_Y, .int a1, .int a2, .int a3] : List Value).toArray s 0 0 A) (F0 m 185 ls [.int y0]) := by
    intro k_114 hk_114 x1 x3 x4 x6 x7 x9 x10 x11 y0 Y_lo Y_ie Y_ra Y_to Y_te Y_re O_f N_f B_f H locs ls hP hD hS hl hF
    unfold f_Y_root_185 at hF
    refine lv_istore (lv' := [(13, .int y0), (0, .ref h_Y), (1, .int x1), (3, .int x3), (4, .long x4), (6, .int x6), (7, .long x7), (9, .int x9), (10, .int x10), (11, .long x11)]) hx hb d_Y_root_185 hl (by decide) rfl (fun ls hl => ?_)
    refine lv_iload hx hb d_Y_root_187 (lv_at hl 0 rfl) ?_
    refine lv_if_eq (tgt := 199) hx hb d_Y_root_189 (by decide) (fun c_189 => ?_) (fun c_189 => ?_)
    · replace hF := hif_t c_189 hF
      exact b_199 k_114 hk_114 x1 x3 x4 x6 x7 x9 x10 y0 Y_lo Y_ie Y_ra Y_to Y_te Y_re O_f N_f B_f _ _ _ hP hD hS (lv_sub hl [1, 2, 3, 4, 5, 6, 7, 8, 0] rfl) hF
    · replace hF := hif_f c_189 hF
      refine lv_lload hx hb d_Y_root_192 (lv_at hl 6 rfl) ?_
      refine lv_lload hx hb d_Y_root_194 (lv_at hl 9 rfl) ?_
      refine lv_lsub hx hb d_Y_root_196 ?_
      refine lv_lstore (lv' := [(7, .long (x7 - x11)), (13, .int y0), (0, .ref h_Y), (1, .int x1), (3, .int x3), (4, .long x4), (6, .int x6), (9, .int x9), (10, .int x10), (11, .long x11)]) hx hb d_Y_root_197 hl (by decide) rfl (fun ls hl => ?_)
      exact b_199 k_114 hk_114 x1 x3 x4 x6 (x7 - x11) x9 x10 y0 Y_lo Y_ie Y_ra Y_to Y_te Y_re O_f N_f B_f _ _ _ hP hD hS (lv_sub hl [2, 3, 4, 5, 6, 0, 7, 8, 1] rfl) hF
  have b_157 : ∀ (k_114 : (Int32) → (Int32) → (Int64) → (Int32) → (Int64) → (Int32) → (Int32) → (Int32) → (Int32) → (Int32) → (Int64) → (Int32) → (Int32) → (Nat → Int64) → (Nat → Int32) → (Nat → Int32) → Option (Int32 × Int32 × Int32 × Int32 × Int64 × Int32 × Int32 × (Nat → Int64) × (Nat → Int32) × (Nat → Int32))), (∀ (x1 : Int32) (x3 : Int32) (x4 : Int64) (x6 : Int32) (x7 : Int64) (x9 : Int32) (x10 : Int32) (Y_lo : Int32) (Y_ie : Int32) (Y_ra : Int32) (Y_to : Int64) (Y_te : Int32) (Y_re : Int32) (O_f : Nat → Int64) (N_f : Nat → Int32) (B_f : Nat → Int32) (H : Heap) (locs : List Loc) (ls : Array Slot), va_P (dC, dI) classes [cY h_Y h_O h_N h_B h_G h_K Y_lo Y_ie Y_ra Y_to Y_te Y_re, cL h_O k_O 8 O_f, cI h_N k_N 8 N_f, cI h_B k_B 8 B_f] H → va_D A [cY h_Y h_O h_N h_B h_G h_K Y_lo Y_ie Y_ra Y_to Y_te Y_re, cL h_O k_O 8 O_f, cI h_N k_N 8 N_f, cI h_B k_B 8 B_f] → va_S A s.heap H locs → lv_has ls 14 [(0, .ref h_Y), (1, .int x1), (3, .int x3), (4, .long x4), (6, .int x6), (7, .long x7), (9, .int x9), (10, .int x10)] → k_114 x1 x3 x4 x6 x7 x9 x10 Y_lo Y_ie Y_ra Y_to Y_te Y_re O_f N_f B_f = some o → W p l e (headSpec w_Y_root ({ frames := 4, cells := 0, slots := 0, locals := 104 } : Room)).room s m ([.ref h_Y, .int a1, .int a2, .int a3] : List Value).toArray below meth c H locs 0 0 (MQ below (va_Qi (fun (r : Int32) (_ : Unit) => r = o.1) (fun (_ : Unit) (t : State) => va_P (dC, dI) classes [cY h_Y h_O h_N h_B h_G h_K o.2.1 o.2.2.1 o.2.2.2.1 o.2.2.2.2.1 o.2.2.2.2.2.1 o.2.2.2.2.2.2.1, cL h_O k_O 8 o.2.2.2.2.2.2.2.1, cI h_N k_N 8 o.2.2.2.2.2.2.2.2.1, cI h_B k_B 8 o.2.2.2.2.2.2.2.2.2] t.heap ∧ va_K (dC, dI) classes [(k_O, .long), (k_N, .int), (k_B, .boolean)] t ∧ va_D A [cY h_Y h_O h_N h_B h_G h_K o.2.1 o.2.2.1 o.2.2.2.1 o.2.2.2.2.1 o.2.2.2.2.2.1 o.2.2.2.2.2.2.1, cL h_O k_O 8 o.2.2.2.2.2.2.2.1, cI h_N k_N 8 o.2.2.2.2.2.2.2.2.1, cI h_B k_B 8 o.2.2.2.2.2.2.2.2.2]) A) ([.ref h_Y, .int a1, .int a2, .int a3] : List Value).toArray s 0 0 A) (F0 m 114 ls [])) → ∀ (x1 : Int32) (x3 : Int32) (x4 : Int64) (x6 : Int32) (x9 : Int32) (x10 : Int32) (y0 : Int64) (y1 : Int64) (Y_lo : Int32) (Y_ie : Int32) (Y_ra : Int32) (Y_to : Int64) (Y_te : Int32) (Y_re : Int32) (O_f : Nat → Int64) (N_f : Nat → Int32) (B_f : Nat → Int32) (H : Heap) (locs : List Loc) (ls : Array Slot), va_P (dC, dI) classes [cY h_Y h_O h_N h_B h_G h_K Y_lo Y_ie Y_ra Y_to Y_te Y_re, cL h_O k_O 8 O_f, cI h_N k_N 8 N_f, cI h_B k_B 8 B_f] H → va_D A [cY h_Y h_O h_N h_B h_G h_K Y_lo Y_ie Y_ra Y_to Y_te Y_re, cL h_O k_O 8 O_f, cI h_N k_N 8 N_f, cI h_B k_B 8 B_f] → va_S A s.heap H locs → lv_has ls 14 [(0, .ref h_Y), (1, .int x1), (3, .int x3), (4, .long x4), (6, .int x6), (9, .int x9), (10, .int x10)] → f_Y_root_157 k_114 x1 x3 x4 x6 x9 x10 y0 y1 Y_lo Y_ie Y_ra Y_to Y_te Y_re O_f N_f B_f = some o → W p l e (headSpec w_Y_root ({ frames := 4, cells := 0, slots := 0, locals := 104 } : Room)).room s m ([.ref h_Y, .int a1, .int a2, .int a3] : List Value).toArray below meth c H locs 0 0 (MQ below (va_Qi (fun (r : Int32) (_ : Unit) => r = o.1) (fun (_ : Unit) (t : State) => va_P (dC, dI) classes [cY h_Y h_O h_N h_B h_G h_K o.2.1 o.2.2.1 o.2.2.2.1 o.2.2.2.2.1 o.2.2.2.2.2.1 o.2.2.2.2.2.2.1, cL h_O k_O 8 o.2.2.2.2.2.2.2.1, cI h_N k_N 8 o.2.2.2.2.2.2.2.2.1, cI h_B k_B 8 o.2.2.2.2.2.2.2.2.2] t.heap ∧ va_K (dC, dI) classes [(k_O, .long), (k_N, .int), (k_B, .boolean)] t ∧ va_D A [cY h_Y h_O h_N h_B h_G h_K o.2.1 o.2.2.1 o.2.2.2.1 o.2.2.2.2.1 o.2.2.2.2.2.1 o.2.2.2.2.2.2.1, cL h_O k_O 8 o.2.2.2.2.2.2.2.1, cI h_N k_N 8 o.2.2.2.2.2.2.2.2.1, cI h_B k_B 8 o.2.2.2.2.2.2.2.2.2]) A) ([.ref h_Y, .int a1, .int a2, .int a3] : List Value).toArray s 0 0 A) (F0 m 157 ls [.long y0, .long y1]) := by
    intro k_114 hk_114 x1 x3 x4 x6 x9 x10 y0 y1 Y_lo Y_ie Y_ra Y_to Y_te Y_re O_f N_f B_f H locs ls hP hD hS hl hF
    unfold f_Y_root_157 at hF
    refine lv_ladd hx hb d_Y_root_157 ?_
    refine lv_lstore (lv' := [(7, .long (y1 + y0)), (0, .ref h_Y), (1, .int x1), (3, .int x3), (4, .long x4), (6, .int x6), (9, .int x9), (10, .int x10)]) hx hb d_Y_root_158 hl (by decide) rfl (fun ls hl => ?_)
    refine lv_ldc2 (v := (4 : Int64)) hx hb hown (hts _ tw_458) d_Y_root_160 ?_
    refine lv_aload_n hx hb d_Y_root_163 rfl (lv_at hl 1 rfl) ?_
    refine va_get (D := (dC, dI)) (ci := 2) (v := .long Y_to) (C := "RoundedNumbersModel") (T := F_Y) (N := 11) hx hb hts in_Y hown hK hP 0 rfl rfl 8 (by decide) (hts _ tw_322) (fun _ h9 => h9) rfl d_Y_root_164 ?_
    refine lv_lmul hx hb d_Y_root_167 ?_
    refine lv_lconst (v := (1 : Int64)) hx hb d_Y_root_168 (by decide) ?_
    refine lv_ladd hx hb d_Y_root_169 ?_
    refine lv_lstore (lv' := [(11, .long (((4 : Int64) * Y_to) + (1 : Int64))), (7, .long (y1 + y0)), (0, .ref h_Y), (1, .int x1), (3, .int x3), (4, .long x4), (6, .int x6), (9, .int x9), (10, .int x10)]) hx hb d_Y_root_170 hl (by decide) rfl (fun ls hl => ?_)
    refine lv_lload hx hb d_Y_root_172 (lv_at hl 1 rfl) ?_
    refine lv_lload hx hb d_Y_root_174 (lv_at hl 0 rfl) ?_
    refine W.lcmp hx hb d_Y_root_176 ?_
    refine lv_if_lt (tgt := 184) hx hb d_Y_root_177 (by decide) (fun c_177 => ?_) (fun c_177 => ?_)
    · replace hF := hif_t c_177 hF
      refine lv_iconst (v := (0 : Int32)) hx hb d_Y_root_184 (by decide) ?_
      exact b_185 k_114 hk_114 x1 x3 x4 x6 (y1 + y0) x9 x10 (((4 : Int64) * Y_to) + (1 : Int64)) (0 : Int32) Y_lo Y_ie Y_ra Y_to Y_te Y_re O_f N_f B_f _ _ _ hP hD hS (lv_sub hl [2, 3, 4, 5, 6, 1, 7, 8, 0] rfl) hF
    · replace hF := hif_f c_177 hF
      refine lv_iconst (v := (1 : Int32)) hx hb d_Y_root_180 (by decide) ?_
      refine lv_goto (tgt := 185) hx hb d_Y_root_181 (by decide) ?_
      exact b_185 k_114 hk_114 x1 x3 x4 x6 (y1 + y0) x9 x10 (((4 : Int64) * Y_to) + (1 : Int64)) (1 : Int32) Y_lo Y_ie Y_ra Y_to Y_te Y_re O_f N_f B_f _ _ _ hP hD hS (lv_sub hl [2, 3, 4, 5, 6, 1, 7, 8, 0] rfl) hF
  have b_114 : ∀ n_ : Nat, ∀ (x1 : Int32) (x3 : Int32) (x4 : Int64) (x6 : Int32) (x7 : Int64) (x9 : Int32) (x10 : Int32) (Y_lo : Int32) (Y_ie : Int32) (Y_ra : Int32) (Y_to : Int64) (Y_te : Int32) (Y_re : Int32) (O_f : Nat → Int64) (N_f : Nat → Int32) (B_f : Nat → Int32) (H : Heap) (locs : List Loc) (ls : Array Slot), va_P (dC, dI) classes [cY h_Y h_O h_N h_B h_G h_K Y_lo Y_ie Y_ra Y_to Y_te Y_re, cL h_O k_O 8 O_f, cI h_N k_N 8 N_f, cI h_B k_B 8 B_f] H → va_D A [cY h_Y h_O h_N h_B h_G h_K Y_lo Y_ie Y_ra Y_to Y_te Y_re, cL h_O k_O 8 O_f, cI h_N k_N 8 N_f, cI h_B k_B 8 B_f] → va_S A s.heap H locs → lv_has ls 14 [(0, .ref h_Y), (1, .int x1), (3, .int x3), (4, .long x4), (6, .int x6), (7, .long x7), (9, .int x9), (10, .int x10)] → f_Y_root_114 n_ x1 x3 x4 x6 x7 x9 x10 Y_lo Y_ie Y_ra Y_to Y_te Y_re O_f N_f B_f = some o → W p l e (headSpec w_Y_root ({ frames := 4, cells := 0, slots := 0, locals := 104 } : Room)).room s m ([.ref h_Y, .int a1, .int a2, .int a3] : List Value).toArray below meth c H locs 0 0 (MQ below (va_Qi (fun (r : Int32) (_ : Unit) => r = o.1) (fun (_ : Unit) (t : State) => va_P (dC, dI) classes [cY h_Y h_O h_N h_B h_G h_K o.2.1 o.2.2.1 o.2.2.2.1 o.2.2.2.2.1 o.2.2.2.2.2.1 o.2.2.2.2.2.2.1, cL h_O k_O 8 o.2.2.2.2.2.2.2.1, cI h_N k_N 8 o.2.2.2.2.2.2.2.2.1, cI h_B k_B 8 o.2.2.2.2.2.2.2.2.2] t.heap ∧ va_K (dC, dI) classes [(k_O, .long), (k_N, .int), (k_B, .boolean)] t ∧ va_D A [cY h_Y h_O h_N h_B h_G h_K o.2.1 o.2.2.1 o.2.2.2.1 o.2.2.2.2.1 o.2.2.2.2.2.1 o.2.2.2.2.2.2.1, cL h_O k_O 8 o.2.2.2.2.2.2.2.1, cI h_N k_N 8 o.2.2.2.2.2.2.2.2.1, cI h_B k_B 8 o.2.2.2.2.2.2.2.2.2]) A) ([.ref h_Y, .int a1, .int a2, .int a3] : List Value).toArray s 0 0 A) (F0 m 114 ls []) := by
    intro n_
    induction n_ with
    | zero =>
      intro x1 x3 x4 x6 x7 x9 x10 Y_lo Y_ie Y_ra Y_to Y_te Y_re O_f N_f B_f H locs ls hP hD hS hl hF
      rw [f_Y_root_114] at hF
      exact absurd hF (by simp)
    | succ n_ ih =>
      obtain ⟨k_114, ek_114⟩ : ∃ k, k = f_Y_root_114 n_ := ⟨_, rfl⟩
      rw [← ek_114] at ih
      have hk_114 := ih
      intro x1 x3 x4 x6 x7 x9 x10 Y_lo Y_ie Y_ra Y_to Y_te Y_re O_f N_f B_f H locs ls hP hD hS hl hF
      rw [f_Y_root_114, ← ek_114] at hF
      refine lv_lload hx hb d_Y_root_114 (lv_at hl 3 rfl) ?_
      refine lv_lconst (v := (0 : Int64)) hx hb d_Y_root_116 (by decide) ?_
      refine W.lcmp hx hb d_Y_root_117 ?_
      refine lv_if_le (tgt := 239) hx hb d_Y_root_118 (by decide) (fun c_118 => ?_) (fun c_118 => ?_)
      · replace hF := hif_t c_118 hF
        exact b_239 x1 x3 x6 x7 x10 Y_lo Y_ie Y_ra Y_to Y_te Y_re O_f N_f B_f _ _ _ hP hD hS (lv_sub hl [0, 1, 2, 4, 5, 7] rfl) hF
      · replace hF := hif_f c_118 hF
        refine lv_iload hx hb d_Y_root_121 (lv_at hl 6 rfl) ?_
        refine lv_bipush (v := (58 : Int32)) hx hb d_Y_root_123 (by decide) ?_
        refine lv_icmp_ge (tgt := 239) hx hb d_Y_root_125 (by decide) (fun c_125 => ?_) (fun c_125 => ?_)
        · replace hF := hif_t c_125 hF
          exact b_239 x1 x3 x6 x7 x10 Y_lo Y_ie Y_ra Y_to Y_te Y_re O_f N_f B_f _ _ _ hP hD hS (lv_sub hl [0, 1, 2, 4, 5, 7] rfl) hF
        · replace hF := hif_f c_125 hF
          refine lv_iinc (v := (x10 + (-1 : Int32))) (lv' := [(10, .int (x10 + (-1 : Int32))), (0, .ref h_Y), (1, .int x1), (3, .int x3), (4, .long x4), (6, .int x6), (7, .long x7), (9, .int x9)]) hx hb d_Y_root_128 hl (k := 7) rfl rfl (by decide) rfl (fun ls hl => ?_)
          refine lv_ldc2 (v := (4 : Int64)) hx hb hown (hts _ tw_458) d_Y_root_131 ?_
          refine lv_lload hx hb d_Y_root_134 (lv_at hl 6 rfl) ?_
          refine lv_lmul hx hb d_Y_root_136 ?_
          refine lv_iload hx hb d_Y_root_137 (lv_at hl 0 rfl) ?_
          refine lv_if_lt (tgt := 156) hx hb d_Y_root_139 (by decide) (fun c_139 => ?_) (fun c_139 => ?_)
          · replace hF := hif_t c_139 hF
            refine lv_lconst (v := (0 : Int64)) hx hb d_Y_root_156 (by decide) ?_
            exact b_157 k_114 hk_114 x1 x3 x4 x6 x9 (x10 + (-1 : Int32)) (0 : Int64) ((4 : Int64) * x7) Y_lo Y_ie Y_ra Y_to Y_te Y_re O_f N_f B_f _ _ _ hP hD hS (lv_sub hl [1, 2, 3, 4, 5, 7, 0] rfl) hF
          · replace hF := hif_f c_139 hF
            refine lv_lload hx hb d_Y_root_142 (lv_at hl 4 rfl) ?_
            refine lv_iconst (v := (2 : Int32)) hx hb d_Y_root_144 (by decide) ?_
            refine lv_iload hx hb d_Y_root_145 (lv_at hl 0 rfl) ?_
            refine lv_imul hx hb d_Y_root_147 ?_
            refine lv_lshr (v := (jshr x4 ((2 : Int32) * (x10 + (-1 : Int32))))) hx hb d_Y_root_148 rfl ?_
            refine lv_ldc2 (v := (3 : Int64)) hx hb hown (hts _ tw_459) d_Y_root_149 ?_
            refine lv_land hx hb d_Y_root_152 ?_
            refine lv_goto (tgt := 157) hx hb d_Y_root_153 (by decide) ?_
            exact b_157 k_114 hk_114 x1 x3 x4 x6 x9 (x10 + (-1 : Int32)) ((jshr x4 ((2 : Int32) * (x10 + (-1 : Int32)))) &&& (3 : Int64)) ((4 : Int64) * x7) Y_lo Y_ie Y_ra Y_to Y_te Y_re O_f N_f B_f _ _ _ hP hD hS (lv_sub hl [1, 2, 3, 4, 5, 7, 0] rfl) hF
  have b_67 : ∀ (x1 : Int32) (x2 : Int32) (x3 : Int32) (y0 : Int64) (Y_lo : Int32) (Y_ie : Int32) (Y_ra : Int32) (Y_to : Int64) (Y_te : Int32) (Y_re : Int32) (O_f : Nat → Int64) (N_f : Nat → Int32) (B_f : Nat → Int32) (H : Heap) (locs : List Loc) (ls : Array Slot), va_P (dC, dI) classes [cY h_Y h_O h_N h_B h_G h_K Y_lo Y_ie Y_ra Y_to Y_te Y_re, cL h_O k_O 8 O_f, cI h_N k_N 8 N_f, cI h_B k_B 8 B_f] H → va_D A [cY h_Y h_O h_N h_B h_G h_K Y_lo Y_ie Y_ra Y_to Y_te Y_re, cL h_O k_O 8 O_f, cI h_N k_N 8 N_f, cI h_B k_B 8 B_f] → va_S A s.heap H locs → lv_has ls 14 [(0, .ref h_Y), (1, .int x1), (2, .int x2), (3, .int x3)] → f_Y_root_67  x1 x2 x3 y0 Y_lo Y_ie Y_ra Y_to Y_te Y_re O_f N_f B_f = some o → W p l e (headSpec w_Y_root ({ frames := 4, cells := 0, slots := 0, locals := 104 } : Room)).room s m ([.ref h_Y, .int a1, .int a2, .int a3] : List Value).toArray below meth c H locs 0 0 (MQ below (va_Qi (fun (r : Int32) (_ : Unit) => r = o.1) (fun (_ : Unit) (t : State) => va_P (dC, dI) classes [cY h_Y h_O h_N h_B h_G h_K o.2.1 o.2.2.1 o.2.2.2.1 o.2.2.2.2.1 o.2.2.2.2.2.1 o.2.2.2.2.2.2.1, cL h_O k_O 8 o.2.2.2.2.2.2.2.1, cI h_N k_N 8 o.2.2.2.2.2.2.2.2.1, cI h_B k_B 8 o.2.2.2.2.2.2.2.2.2] t.heap ∧ va_K (dC, dI) classes [(k_O, .long), (k_N, .int), (k_B, .boolean)] t ∧ va_D A [cY h_Y h_O h_N h_B h_G h_K o.2.1 o.2.2.1 o.2.2.2.1 o.2.2.2.2.1 o.2.2.2.2.2.1 o.2.2.2.2.2.2.1, cL h_O k_O 8 o.2.2.2.2.2.2.2.1, cI h_N k_N 8 o.2.2.2.2.2.2.2.2.1, cI h_B k_B 8 o.2.2.2.2.2.2.2.2.2]) A) ([.ref h_Y, .int a1, .int a2, .int a3] : List Value).toArray s 0 0 A) (F0 m 67 ls [.long y0]) := by
    intro x1 x2 x3 y0 Y_lo Y_ie Y_ra Y_to Y_te Y_re O_f N_f B_f H locs ls hP hD hS hl hF
    unfold f_Y_root_67 at hF
    refine lv_lstore (lv' := [(4, .long y0), (0, .ref h_Y), (1, .int x1), (2, .int x2), (3, .int x3)]) hx hb d_Y_root_67 hl (by decide) rfl (fun ls hl => ?_)
    refine lv_aload_n hx hb d_Y_root_69 rfl (lv_at hl 1 rfl) ?_
    refine va_get (D := (dC, dI)) (ci := 2) (v := .ref h_N) (C := "RoundedNumbersModel") (T := F_Y) (N := 11) hx hb hts in_Y hown hK hP 0 rfl rfl 1 (by decide) (hts _ tw_315) (fun _ h9 => h9) rfl d_Y_root_70 ?_
    refine lv_iload_n hx hb d_Y_root_73 rfl (lv_at hl 3 rfl) ?_
    have c_74 : ¬ (x2 < 0 ∨ 8 ≤ x2.toNatClampNeg) := hif_n hF
    replace hF := hif_f c_74 hF
    refine va_iald hx hb hK hP 2 1 rfl rfl c_74 d_Y_root_74 ?_
    refine lv_iconst (v := (2 : Int32)) hx hb d_Y_root_75 (by decide) ?_
    refine lv_irem hx hb d_Y_root_76 (by decide) ?_
    refine lv_if_ne (tgt := 89) hx hb d_Y_root_77 (by decide) (fun c_77 => ?_) (fun c_77 => ?_)
    · replace hF := hif_f c_77 hF
      refine lv_aload_n hx hb d_Y_root_89 rfl (lv_at hl 1 rfl) ?_
      refine va_get (D := (dC, dI)) (ci := 2) (v := .ref h_N) (C := "RoundedNumbersModel") (T := F_Y) (N := 11) hx hb hts in_Y hown hK hP 0 rfl rfl 1 (by decide) (hts _ tw_315) (fun _ h9 => h9) rfl d_Y_root_90 ?_
      refine lv_iload_n hx hb d_Y_root_93 rfl (lv_at hl 3 rfl) ?_
      have c_94 : ¬ (x2 < 0 ∨ 8 ≤ x2.toNatClampNeg) := hif_n hF
      replace hF := hif_f c_94 hF
      refine va_iald hx hb hK hP 2 1 rfl rfl c_94 d_Y_root_94 ?_
      refine lv_iconst (v := (1 : Int32)) hx hb d_Y_root_95 (by decide) ?_
      refine lv_isub hx hb d_Y_root_96 ?_
      refine lv_istore (lv' := [(6, .int ((N_f x2.toNatClampNeg) - (1 : Int32))), (4, .long y0), (0, .ref h_Y), (1, .int x1), (2, .int x2), (3, .int x3)]) hx hb d_Y_root_97 hl (by decide) rfl (fun ls hl => ?_)
      refine lv_lconst (v := (0 : Int64)) hx hb d_Y_root_99 (by decide) ?_
      refine lv_lstore (lv' := [(7, .long (0 : Int64)), (6, .int ((N_f x2.toNatClampNeg) - (1 : Int32))), (4, .long y0), (0, .ref h_Y), (1, .int x1), (2, .int x2), (3, .int x3)]) hx hb d_Y_root_100 hl (by decide) rfl (fun ls hl => ?_)
      refine lv_aload_n hx hb d_Y_root_102 rfl (lv_at hl 3 rfl) ?_
      refine lv_lconst (v := (0 : Int64)) hx hb d_Y_root_103 (by decide) ?_
      refine va_put (D := (dC, dI)) (ci := 2) (v := .long (0 : Int64)) (ty := .long) (C := "RoundedNumbersModel") (T := F_Y) (N := 11) hx hb hts in_Y t_Y t_Y_ok n_Y hown hK hP hD hS 0 rfl rfl 8 (by decide) (hts _ tw_322) (fun _ h9 => h9) rfl (by decide +kernel) rfl rfl (Nat.le_of_ble_eq_true rfl) d_Y_root_104 (fun H locs hP hD hS => ?_)
      have hP : va_P (dC, dI) classes [cY h_Y h_O h_N h_B h_G h_K Y_lo Y_ie Y_ra (0 : Int64) Y_te Y_re, cL h_O k_O 8 O_f, cI h_N k_N 8 N_f, cI h_B k_B 8 B_f] H := hP
      have hD : va_D A [cY h_Y h_O h_N h_B h_G h_K Y_lo Y_ie Y_ra (0 : Int64) Y_te Y_re, cL h_O k_O 8 O_f, cI h_N k_N 8 N_f, cI h_B k_B 8 B_f] := hD
      refine lv_iconst (v := (0 : Int32)) hx hb d_Y_root_107 (by decide) ?_
      refine lv_istore (lv' := [(9, .int (0 : Int32)), (7, .long (0 : Int64)), (6, .int ((N_f x2.toNatClampNeg) - (1 : Int32))), (4, .long y0), (0, .ref h_Y), (1, .int x1), (2, .int x2), (3, .int x3)]) hx hb d_Y_root_108 hl (by decide) rfl (fun ls hl => ?_)
      refine lv_bipush (v := (27 : Int32)) hx hb d_Y_root_110 (by decide) ?_
      refine lv_istore (lv' := [(10, .int (27 : Int32)), (9, .int (0 : Int32)), (7, .long (0 : Int64)), (6, .int ((N_f x2.toNatClampNeg) - (1 : Int32))), (4, .long y0), (0, .ref h_Y), (1, .int x1), (2, .int x2), (3, .int x3)]) hx hb d_Y_root_112 hl (by decide) rfl (fun ls hl => ?_)
      exact b_114 1000 x1 x3 y0 ((N_f x2.toNatClampNeg) - (1 : Int32)) (0 : Int64) (0 : Int32) (27 : Int32) Y_lo Y_ie Y_ra (0 : Int64) Y_te Y_re O_f N_f B_f _ _ _ hP hD hS (lv_sub hl [5, 6, 8, 4, 3, 2, 1, 0] rfl) hF
    · replace hF := hif_t c_77 hF
      refine lv_aload_n hx hb d_Y_root_80 rfl (lv_at hl 1 rfl) ?_
      refine va_get (D := (dC, dI)) (ci := 2) (v := .ref h_N) (C := "RoundedNumbersModel") (T := F_Y) (N := 11) hx hb hts in_Y hown hK hP 0 rfl rfl 1 (by decide) (hts _ tw_315) (fun _ h9 => h9) rfl d_Y_root_81 ?_
      refine lv_iload_n hx hb d_Y_root_84 rfl (lv_at hl 3 rfl) ?_
      have c_85 : ¬ (x2 < 0 ∨ 8 ≤ x2.toNatClampNeg) := hif_n hF
      replace hF := hif_f c_85 hF
      refine va_iald hx hb hK hP 2 1 rfl rfl c_85 d_Y_root_85 ?_
      refine lv_goto (tgt := 97) hx hb d_Y_root_86 (by decide) ?_
      refine lv_istore (lv' := [(6, .int (N_f x2.toNatClampNeg)), (4, .long y0), (0, .ref h_Y), (1, .int x1), (2, .int x2), (3, .int x3)]) hx hb d_Y_root_97 hl (by decide) rfl (fun ls hl => ?_)
      refine lv_lconst (v := (0 : Int64)) hx hb d_Y_root_99 (by decide) ?_
      refine lv_lstore (lv' := [(7, .long (0 : Int64)), (6, .int (N_f x2.toNatClampNeg)), (4, .long y0), (0, .ref h_Y), (1, .int x1), (2, .int x2), (3, .int x3)]) hx hb d_Y_root_100 hl (by decide) rfl (fun ls hl => ?_)
      refine lv_aload_n hx hb d_Y_root_102 rfl (lv_at hl 3 rfl) ?_
      refine lv_lconst (v := (0 : Int64)) hx hb d_Y_root_103 (by decide) ?_
      refine va_put (D := (dC, dI)) (ci := 2) (v := .long (0 : Int64)) (ty := .long) (C := "RoundedNumbersModel") (T := F_Y) (N := 11) hx hb hts in_Y t_Y t_Y_ok n_Y hown hK hP hD hS 0 rfl rfl 8 (by decide) (hts _ tw_322) (fun _ h9 => h9) rfl (by decide +kernel) rfl rfl (Nat.le_of_ble_eq_true rfl) d_Y_root_104 (fun H locs hP hD hS => ?_)
      have hP : va_P (dC, dI) classes [cY h_Y h_O h_N h_B h_G h_K Y_lo Y_ie Y_ra (0 : Int64) Y_te Y_re, cL h_O k_O 8 O_f, cI h_N k_N 8 N_f, cI h_B k_B 8 B_f] H := hP
      have hD : va_D A [cY h_Y h_O h_N h_B h_G h_K Y_lo Y_ie Y_ra (0 : Int64) Y_te Y_re, cL h_O k_O 8 O_f, cI h_N k_N 8 N_f, cI h_B k_B 8 B_f] := hD
      refine lv_iconst (v := (0 : Int32)) hx hb d_Y_root_107 (by decide) ?_
      refine lv_istore (lv' := [(9, .int (0 : Int32)), (7, .long (0 : Int64)), (6, .int (N_f x2.toNatClampNeg)), (4, .long y0), (0, .ref h_Y), (1, .int x1), (2, .int x2), (3, .int x3)]) hx hb d_Y_root_108 hl (by decide) rfl (fun ls hl => ?_)
      refine lv_bipush (v := (27 : Int32)) hx hb d_Y_root_110 (by decide) ?_
      refine lv_istore (lv' := [(10, .int (27 : Int32)), (9, .int (0 : Int32)), (7, .long (0 : Int64)), (6, .int (N_f x2.toNatClampNeg)), (4, .long y0), (0, .ref h_Y), (1, .int x1), (2, .int x2), (3, .int x3)]) hx hb d_Y_root_112 hl (by decide) rfl (fun ls hl => ?_)
      exact b_114 1000 x1 x3 y0 (N_f x2.toNatClampNeg) (0 : Int64) (0 : Int32) (27 : Int32) Y_lo Y_ie Y_ra (0 : Int64) Y_te Y_re O_f N_f B_f _ _ _ hP hD hS (lv_sub hl [5, 6, 8, 4, 3, 2, 1, 0] rfl) hF
  have b_37 : ∀ (x1 : Int32) (x2 : Int32) (x3 : Int32) (Y_lo : Int32) (Y_ie : Int32) (Y_ra : Int32) (Y_to : Int64) (Y_te : Int32) (Y_re : Int32) (O_f : Nat → Int64) (N_f : Nat → Int32) (B_f : Nat → Int32) (H : Heap) (locs : List Loc) (ls : Array Slot), va_P (dC, dI) classes [cY h_Y h_O h_N h_B h_G h_K Y_lo Y_ie Y_ra Y_to Y_te Y_re, cL h_O k_O 8 O_f, cI h_N k_N 8 N_f, cI h_B k_B 8 B_f] H → va_D A [cY h_Y h_O h_N h_B h_G h_K Y_lo Y_ie Y_ra Y_to Y_te Y_re, cL h_O k_O 8 O_f, cI h_N k_N 8 N_f, cI h_B k_B 8 B_f] → va_S A s.heap H locs → lv_has ls 14 [(0, .ref h_Y), (1, .int x1), (2, .int x2), (3, .int x3)] → f_Y_root_37  x1 x2 x3 Y_lo Y_ie Y_ra Y_to Y_te Y_re O_f N_f B_f = some o → W p l e (headSpec w_Y_root ({ frames := 4, cells := 0, slots := 0, locals := 104 } : Room)).room s m ([.ref h_Y, .int a1, .int a2, .int a3] : List Value).toArray below meth c H locs 0 0 (MQ below (va_Qi (fun (r : Int32) (_ : Unit) => r = o.1) (fun (_ : Unit) (t : State) => va_P (dC, dI) classes [cY h_Y h_O h_N h_B h_G h_K o.2.1 o.2.2.1 o.2.2.2.1 o.2.2.2.2.1 o.2.2.2.2.2.1 o.2.2.2.2.2.2.1, cL h_O k_O 8 o.2.2.2.2.2.2.2.1, cI h_N k_N 8 o.2.2.2.2.2.2.2.2.1, cI h_B k_B 8 o.2.2.2.2.2.2.2.2.2] t.heap ∧ va_K (dC, dI) classes [(k_O, .long), (k_N, .int), (k_B, .boolean)] t ∧ va_D A [cY h_Y h_O h_N h_B h_G h_K o.2.1 o.2.2.1 o.2.2.2.1 o.2.2.2.2.1 o.2.2.2.2.2.1 o.2.2.2.2.2.2.1, cL h_O k_O 8 o.2.2.2.2.2.2.2.1, cI h_N k_N 8 o.2.2.2.2.2.2.2.2.1, cI h_B k_B 8 o.2.2.2.2.2.2.2.2.2]) A) ([.ref h_Y, .int a1, .int a2, .int a3] : List Value).toArray s 0 0 A) (F0 m 37 ls []) := by
    intro x1 x2 x3 Y_lo Y_ie Y_ra Y_to Y_te Y_re O_f N_f B_f H locs ls hP hD hS hl hF
    unfold f_Y_root_37 at hF
    refine lv_aload_n hx hb d_Y_root_37 rfl (lv_at hl 0 rfl) ?_
    refine va_get (D := (dC, dI)) (ci := 2) (v := .ref h_N) (C := "RoundedNumbersModel") (T := F_Y) (N := 11) hx hb hts in_Y hown hK hP 0 rfl rfl 1 (by decide) (hts _ tw_315) (fun _ h9 => h9) rfl d_Y_root_38 ?_
    refine lv_iload_n hx hb d_Y_root_41 rfl (lv_at hl 2 rfl) ?_
    have c_42 : ¬ (x2 < 0 ∨ 8 ≤ x2.toNatClampNeg) := hif_n hF
    replace hF := hif_f c_42 hF
    refine va_iald hx hb hK hP 2 1 rfl rfl c_42 d_Y_root_42 ?_
    refine lv_iconst (v := (2 : Int32)) hx hb d_Y_root_43 (by decide) ?_
    refine lv_irem hx hb d_Y_root_44 (by decide) ?_
    refine lv_if_ne (tgt := 57) hx hb d_Y_root_45 (by decide) (fun c_45 => ?_) (fun c_45 => ?_)
    · replace hF := hif_f c_45 hF
      refine lv_ldc2 (v := (2 : Int64)) hx hb hown (hts _ tw_372) d_Y_root_57 ?_
      refine lv_aload_n hx hb d_Y_root_60 rfl (lv_at hl 0 rfl) ?_
      refine va_get (D := (dC, dI)) (ci := 2) (v := .ref h_O) (C := "RoundedNumbersModel") (T := F_Y) (N := 11) hx hb hts in_Y hown hK hP 0 rfl rfl 0 (by decide) (hts _ tw_314) (fun _ h9 => h9) rfl d_Y_root_61 ?_
      refine lv_iload_n hx hb d_Y_root_64 rfl (lv_at hl 2 rfl) ?_
      have c_65 : ¬ (x2 < 0 ∨ 8 ≤ x2.toNatClampNeg) := hif_n hF
      replace hF := hif_f c_65 hF
      refine va_lald hx hb hK hP 1 0 rfl rfl c_65 d_Y_root_65 ?_
      refine lv_lmul hx hb d_Y_root_66 ?_
      exact b_67 x1 x2 x3 ((2 : Int64) * (O_f x2.toNatClampNeg)) Y_lo Y_ie Y_ra Y_to Y_te Y_re O_f N_f B_f _ _ _ hP hD hS (lv_sub hl [0, 1, 2, 3] rfl) hF
    · replace hF := hif_t c_45 hF
      refine lv_aload_n hx hb d_Y_root_48 rfl (lv_at hl 0 rfl) ?_
      refine va_get (D := (dC, dI)) (ci := 2) (v := .ref h_O) (C := "RoundedNumbersModel") (T := F_Y) (N := 11) hx hb hts in_Y hown hK hP 0 rfl rfl 0 (by decide) (hts _ tw_314) (fun _ h9 => h9) rfl d_Y_root_49 ?_
      refine lv_iload_n hx hb d_Y_root_52 rfl (lv_at hl 2 rfl) ?_
      have c_53 : ¬ (x2 < 0 ∨ 8 ≤ x2.toNatClampNeg) := hif_n hF
      replace hF := hif_f c_53 hF
      refine va_lald hx hb hK hP 1 0 rfl rfl c_53 d_Y_root_53 ?_
      refine lv_goto (tgt := 67) hx hb d_Y_root_54 (by decide) ?_
      exact b_67 x1 x2 x3 (O_f x2.toNatClampNeg) Y_lo Y_ie Y_ra Y_to Y_te Y_re O_f N_f B_f _ _ _ hP hD hS (lv_sub hl [0, 1, 2, 3] rfl) hF
  unfold f_Y_root at hF
  refine lv_iload_n hx hb d_Y_root_0 rfl (lv_at hl 1 rfl) ?_
  obtain ⟨q_1, hC_1, hF⟩ := hbd hF
  have hPc := hP.sub (ws' := []) [] rfl
  have hDc := hD.sub (ws' := []) [] (by decide) rfl
  have hKc := hK.sub (tys' := []) [] rfl
  have hFc := va_free (wc := []) hD hS hA [] rfl
  refine va_calli (va_runS (As := [.int a1]) (rest := []) ⟨hx, hb, hml, hown, hts⟩ (c_Y_out l dC dI s.heap.size a1 q_1 hC_1) (cwS 1 hts g_Y_101_Y_out rfl rfl rfl (by decide +kernel) ⟨Nat.le_of_ble_eq_true rfl, Nat.le_of_ble_eq_true rfl⟩) ⟨fun a U g mk q => by obtain ⟨q0, q1, qP, qK, qD⟩ := q; exact ⟨q0, q1, qP, va_K.moved (u := U) (U := U.calling g mk a) (Vm.Alike.refl U.vm) qK, qD⟩, fun U hU hW => ⟨rfl, by rw [hU], by rw [hU]; exact hPc, va_K.moved hW.alike hKc, hDc.weaken (fun _ _ _ _ => trivial)⟩⟩ rfl rfl hl.1 rfl (lv_room (Nat.le_of_ble_eq_true rfl)) d_Y_root_1 ⟨Nat.zero_le _, Nat.zero_le _⟩) hS (fun q _ h => hFc q h) hFc (fun r u t H1 locs ht hvm hw hB hz1 hk1 hS => ?_)
  obtain ⟨hP1, hK1, hD1⟩ := hB
  replace hw := hw.symm
  subst hw
  rw [ht] at hP1
  obtain ⟨hP, hD⟩ := va_join (wr := [cY h_Y h_O h_N h_B h_G h_K Y_lo Y_ie Y_ra Y_to Y_te Y_re, cL h_O k_O 8 O_f, cI h_N k_N 8 N_f, cI h_B k_B 8 B_f]) (w1 := []) hP hD [] [0, 1, 2, 3] rfl rfl (by decide) (by decide) hk1 hFc hP1 hD1
  generalize H1 = H at hP hS ⊢
  have hP := hP.sub (ws' := [cY h_Y h_O h_N h_B h_G h_K Y_lo Y_ie Y_ra Y_to Y_te Y_re, cL h_O k_O 8 O_f, cI h_N k_N 8 N_f, cI h_B k_B 8 B_f]) [0, 1, 2, 3] rfl
  have hD := hD.sub (ws' := [cY h_Y h_O h_N h_B h_G h_K Y_lo Y_ie Y_ra Y_to Y_te Y_re, cL h_O k_O 8 O_f, cI h_N k_N 8 N_f, cI h_B k_B 8 B_f]) [0, 1, 2, 3] (by decide) rfl
  refine lv_if_ne (tgt := 35) hx hb d_Y_root_4 (by decide) (fun c_4 => ?_) (fun c_4 => ?_)
  · replace hF := hif_f c_4 hF
    refine lv_iconst (v := (-1 : Int32)) hx hb d_Y_root_35 (by decide) ?_
    obtain rfl := Option.some.inj hF
    exact W.iret (v := (-1 : Int32)) hx hb hr (fun t ht hW => ⟨⟨(-1 : Int32), (), rfl, rfl, by rw [ht]; exact hP, va_K.moved hW.alike hK, hD⟩, hS.F ht⟩) hS.2.2 d_Y_root_36
  · replace hF := hif_t c_4 hF
    refine lv_iload_n hx hb d_Y_root_7 rfl (lv_at hl 2 rfl) ?_
    obtain ⟨q_8, hC_8, hF⟩ := hbd hF
    have hPc := hP.sub (ws' := []) [] rfl
    have hDc := hD.sub (ws' := []) [] (by decide) rfl
    have hKc := hK.sub (tys' := []) [] rfl
    have hFc := va_free (wc := []) hD hS hA [] rfl
    refine va_calli (va_runS (As := [.int a2]) (rest := []) ⟨hx, hb, hml, hown, hts⟩ (c_Y_out l dC dI H.size a2 q_8 hC_8) (cwS 1 hts g_Y_101_Y_out rfl rfl rfl (by decide +kernel) ⟨Nat.le_of_ble_eq_true rfl, Nat.le_of_ble_eq_true rfl⟩) ⟨fun a U g mk q => by obtain ⟨q0, q1, qP, qK, qD⟩ := q; exact ⟨q0, q1, qP, va_K.moved (u := U) (U := U.calling g mk a) (Vm.Alike.refl U.vm) qK, qD⟩, fun U hU hW => ⟨rfl, by rw [hU], by rw [hU]; exact hPc, va_K.moved hW.alike hKc, hDc.weaken (fun _ _ _ _ => trivial)⟩⟩ rfl rfl hl.1 rfl (lv_room (Nat.le_of_ble_eq_true rfl)) d_Y_root_8 ⟨Nat.zero_le _, Nat.zero_le _⟩) hS (fun q _ h => hFc q h) hFc (fun r u t H1 locs ht hvm hw hB hz1 hk1 hS => ?_)
    obtain ⟨hP1, hK1, hD1⟩ := hB
    replace hw := hw.symm
    subst hw
    rw [ht] at hP1
    obtain ⟨hP, hD⟩ := va_join (wr := [cY h_Y h_O h_N h_B h_G h_K Y_lo Y_ie Y_ra Y_to Y_te Y_re, cL h_O k_O 8 O_f, cI h_N k_N 8 N_f, cI h_B k_B 8 B_f]) (w1 := []) hP hD [] [0, 1, 2, 3] rfl rfl (by decide) (by decide) hk1 hFc hP1 hD1
    generalize H1 = H at hP hS ⊢
    have hP := hP.sub (ws' := [cY h_Y h_O h_N h_B h_G h_K Y_lo Y_ie Y_ra Y_to Y_te Y_re, cL h_O k_O 8 O_f, cI h_N k_N 8 N_f, cI h_B k_B 8 B_f]) [0, 1, 2, 3] rfl
    have hD := hD.sub (ws' := [cY h_Y h_O h_N h_B h_G h_K Y_lo Y_ie Y_ra Y_to Y_te Y_re, cL h_O k_O 8 O_f, cI h_N k_N 8 N_f, cI h_B k_B 8 B_f]) [0, 1, 2, 3] (by decide) rfl
    refine lv_if_ne (tgt := 35) hx hb d_Y_root_11 (by decide) (fun c_11 => ?_) (fun c_11 => ?_)
    · replace hF := hif_f c_11 hF
      refine lv_iconst (v := (-1 : Int32)) hx hb d_Y_root_35 (by decide) ?_
      obtain rfl := Option.some.inj hF
      exact W.iret (v := (-1 : Int32)) hx hb hr (fun t ht hW => ⟨⟨(-1 : Int32), (), rfl, rfl, by rw [ht]; exact hP, va_K.moved hW.alike hK, hD⟩, hS.F ht⟩) hS.2.2 d_Y_root_36
    · replace hF := hif_t c_11 hF
      refine lv_aload_n hx hb d_Y_root_14 rfl (lv_at hl 0 rfl) ?_
      refine va_get (D := (dC, dI)) (ci := 2) (v := .ref h_B) (C := "RoundedNumbersModel") (T := F_Y) (N := 11) hx hb hts in_Y hown hK hP 0 rfl rfl 2 (by decide) (hts _ tw_316) (fun _ h9 => h9) rfl d_Y_root_15 ?_
      refine lv_iload_n hx hb d_Y_root_18 rfl (lv_at hl 2 rfl) ?_
      have c_19 : ¬ (a2 < 0 ∨ 8 ≤ a2.toNatClampNeg) := hif_n hF
      replace hF := hif_f c_19 hF
      refine va_zald hx hb hK hP 3 2 rfl rfl c_19 d_Y_root_19 ?_
      refine lv_if_ne (tgt := 35) hx hb d_Y_root_20 (by decide) (fun c_20 => ?_) (fun c_20 => ?_)
      · replace hF := hif_f c_20 hF
        refine lv_iconst (v := (-1 : Int32)) hx hb d_Y_root_35 (by decide) ?_
        obtain rfl := Option.some.inj hF
        exact W.iret (v := (-1 : Int32)) hx hb hr (fun t ht hW => ⟨⟨(-1 : Int32), (), rfl, rfl, by rw [ht]; exact hP, va_K.moved hW.alike hK, hD⟩, hS.F ht⟩) hS.2.2 d_Y_root_36
      · replace hF := hif_t c_20 hF
        refine lv_iload_n hx hb d_Y_root_23 rfl (lv_at hl 3 rfl) ?_
        refine lv_if_eq (tgt := 37) hx hb d_Y_root_24 (by decide) (fun c_24 => ?_) (fun c_24 => ?_)
        · replace hF := hif_t c_24 hF
          exact b_37 a1 a2 a3 Y_lo Y_ie Y_ra Y_to Y_te Y_re O_f N_f B_f _ _ _ hP hD hS (lv_sub hl [0, 1, 2, 3] rfl) hF
        · replace hF := hif_f c_24 hF
          refine lv_aload_n hx hb d_Y_root_27 rfl (lv_at hl 0 rfl) ?_
          refine lv_iload_n hx hb d_Y_root_28 rfl (lv_at hl 2 rfl) ?_
          obtain ⟨q_29, hC_29, hF⟩ := hbd hF
          have hPc := hP.sub (ws' := [cY h_Y h_O h_N h_B h_G h_K Y_lo Y_ie Y_ra Y_to Y_te Y_re, cL h_O k_O 8 O_f]) [0, 1] rfl
          have hDc := hD.sub (ws' := [cY h_Y h_O h_N h_B h_G h_K Y_lo Y_ie Y_ra Y_to Y_te Y_re, cL h_O k_O 8 O_f]) [0, 1] (by decide) rfl
          have hKc := hK.sub (tys' := [(k_O, .long)]) [0] rfl
          have hFc := va_free (wc := [cY h_Y h_O h_N h_B h_G h_K Y_lo Y_ie Y_ra Y_to Y_te Y_re, cL h_O k_O 8 O_f]) hD hS hA [0, 1] rfl
          refine va_calli (va_runV (As := [.int a2]) (rest := []) ⟨hx, hb, hml, hown, hts⟩ (c_Y_narrow l dC dI h_Y h_O h_N h_B h_G h_K k_O H.size Y_lo Y_ie Y_ra Y_to Y_te Y_re O_f a2 q_29 hC_29) (cwV 1 hts g_Y_109_Y_narrow rfl rfl rfl (by decide +kernel) ⟨Nat.le_of_ble_eq_true rfl, Nat.le_of_ble_eq_true rfl⟩) ⟨fun a U g mk q => by obtain ⟨q0, q1, qP, qK, qD⟩ := q; exact ⟨q0, q1, qP, va_K.moved (u := U) (U := U.calling g mk a) (Vm.Alike.refl U.vm) qK, qD⟩, va_recv hKc hPc (ci := 2) (q0 := 0) rfl rfl, fun U hU hW => ⟨rfl, by rw [hU], by rw [hU]; exact hPc, va_K.moved hW.alike hKc, hDc.weaken (fun _ _ _ _ => trivial)⟩⟩ rfl rfl hl.1 rfl (lv_room (Nat.le_of_ble_eq_true rfl)) d_Y_root_29 ⟨Nat.zero_le _, Nat.zero_le _⟩) hS (fun q _ h => hFc q h) hFc (fun r u t H1 locs ht hvm hw hB hz1 hk1 hS => ?_)
          obtain ⟨hP1, hK1, hD1⟩ := hB
          replace hw := hw.symm
          subst hw
          rw [ht] at hP1
          obtain ⟨hP, hD⟩ := va_join (wr := [cI h_N k_N 8 N_f, cI h_B k_B 8 B_f]) (w1 := [cY h_Y h_O h_N h_B h_G h_K Y_lo Y_ie Y_ra Y_to Y_te Y_re, cL h_O k_O 8 O_f]) hP hD [0, 1] [2, 3] rfl rfl (by decide) (by decide) hk1 hFc hP1 hD1
          generalize H1 = H at hP hS ⊢
          have hP := hP.sub (ws' := [cY h_Y h_O h_N h_B h_G h_K Y_lo Y_ie Y_ra Y_to Y_te Y_re, cL h_O k_O 8 O_f, cI h_N k_N 8 N_f, cI h_B k_B 8 B_f]) [2, 3, 0, 1] rfl
          have hD := hD.sub (ws' := [cY h_Y h_O h_N h_B h_G h_K Y_lo Y_ie Y_ra Y_to Y_te Y_re, cL h_O k_O 8 O_f, cI h_N k_N 8 N_f, cI h_B k_B 8 B_f]) [2, 3, 0, 1] (by decide) rfl
          refine lv_if_ne (tgt := 37) hx hb d_Y_root_32 (by decide) (fun c_32 => ?_) (fun c_32 => ?_)
          · replace hF := hif_f c_32 hF
            exact b_37 a1 a2 a3 Y_lo Y_ie Y_ra Y_to Y_te Y_re O_f N_f B_f _ _ _ hP hD hS (lv_sub hl [0, 1, 2, 3] rfl) hF
          · replace hF := hif_t c_32 hF
            refine lv_iconst (v := (-1 : Int32)) hx hb d_Y_root_35 (by decide) ?_
            obtain rfl := Option.some.inj hF
            exact W.iret (v := (-1 : Int32)) hx hb hr (fun t ht hW => ⟨⟨(-1 : Int32), (), rfl, rfl, by rw [ht]; exact hP, va_K.moved hW.alike hK, hD⟩, hS.F ht⟩) hS.2.2 d_Y_root_36
set_option maxHeartbeats 4000000 in
set_option maxRecDepth 100000 in
theorem c_Y_compareSizes (l : Launch) (dC : Nat → ClassId) (dI : Nat → Nat → Nat) (h_Y : Nat) (h_O : Nat) (h_N : Nat) (h_B : Nat) (h_G : Nat) (h_K : Nat) (k_O : ClassId) (k_N : ClassId) (sz : Nat) (Y_lo : Int32) (Y_ie : Int32) (Y_ra : Int32) (Y_to : Int64) (Y_te : Int32) (Y_re : Int32) (O_f : Nat → Int64) (N_f : Nat → Int32) (a1 : Int32) (a2 : Int32) (a3 : Int32) (o : Int32) (hF : f_Y_compareSizes O_f N_f a1 a2 a3 = some o) : Met l y_Y_compareSizes w_Y_compareSizes ({ frames := 1, cells := 0, slots := 0, locals := 24 } : Room) (va_Pc [.ref h_Y, .int a1, .int a2, .int a3] (fun U => U.heap.size = sz ∧ va_P (dC, dI) classes [cY h_Y h_O h_N h_B h_G h_K Y_lo Y_ie Y_ra Y_to Y_te Y_re, cL h_O k_O 8 O_f, cI h_N k_N 8 N_f] U.heap ∧ va_K (dC, dI) classes [(k_O, .long), (k_N, .int)] U ∧ va_D (fun _ => True) [cY h_Y h_O h_N h_B h_G h_K Y_lo Y_ie Y_ra Y_to Y_te Y_re, cL h_O k_O 8 O_f, cI h_N k_N 8 N_f])) (va_Qi (fun (r : Int32) (_ : Unit) => r = o) (fun (_ : Unit) (t : State) => va_P (dC, dI) classes [cY h_Y h_O h_N h_B h_G h_K Y_lo Y_ie Y_ra Y_to Y_te Y_re, cL h_O k_O 8 O_f, cI h_N k_N 8 N_f] t.heap ∧ va_K (dC, dI) classes [(k_O, .long), (k_N, .int)] t ∧ va_D (va_A [cY h_Y h_O h_N h_B h_G h_K Y_lo Y_ie Y_ra Y_to Y_te Y_re, cL h_O k_O 8 O_f, cI h_N k_N 8 N_f] sz) [cY h_Y h_O h_N h_B h_G h_K Y_lo Y_ie Y_ra Y_to Y_te Y_re, cL h_O k_O 8 O_f, cI h_N k_N 8 N_f]) (va_A [cY h_Y h_O h_N h_B h_G h_K Y_lo Y_ie Y_ra Y_to Y_te Y_re, cL h_O k_O 8 O_f, cI h_N k_N 8 N_f] sz)) 0 0 (va_A [cY h_Y h_O h_N h_B h_G h_K Y_lo Y_ie Y_ra Y_to Y_te Y_re, cL h_O k_O 8 O_f, cI h_N k_N 8 N_f] sz) := by
  refine Met.ofW (cc := prog_4_method_30_code) (maxL := 12) (ret := (some .int)) (by decide) rfl ?_
  intro p e s m args below meth c s₁ B hml hv
  obtain ⟨rfl, hsz, hP, hK, hD0⟩ := hv
  have hx := B.exec
  have hb := B.bytes
  have hr := B.returns
  have hts0 := atoms_spec (ws := w_Y_compareSizes) B.pre
  have hts : ∀ w ∈ tb, w.before _ s = true := fun w h => hts0 w (List.mem_cons_of_mem _ h)
  clear hts0
  have hown : s.vm.findClass "RoundedNumbersModel" = some m.cls := findClass_of_methodNamed B.named
  have hlocks := B.notSynchronized
  subst hsz
  have hD := hD0.self (sz := s.heap.size)
  generalize hAe : va_A [cY h_Y h_O h_N h_B h_G h_K Y_lo Y_ie Y_ra Y_to Y_te Y_re, cL h_O k_O 8 O_f, cI h_N k_N 8 N_f] s.heap.size = A at hD ⊢
  have hA : ∀ q : Nat, s.heap.size ≤ q → A q := fun q h => by rw [← hAe]; exact Or.inr h
  clear hAe
  have hS : va_S A s.heap s.heap [] := va_S.rf
  have hP : va_P (dC, dI) classes [cY h_Y h_O h_N h_B h_G h_K Y_lo Y_ie Y_ra Y_to Y_te Y_re, cL h_O k_O 8 O_f, cI h_N k_N 8 N_f] s.heap := hP
  have hl := lv_entry ([.ref h_Y, .int a1, .int a2, .int a3]) (n := 12) (Nat.le_of_ble_eq_true rfl)
  rw [lg_entry_eq]
  generalize (lg_sl ([.ref h_Y, .int a1, .int a2, .int a3]) ++ List.replicate (12 - (lg_sl ([.ref h_Y, .int a1, .int a2, .int a3])).length) Slot.unset).toArray = ls at hl ⊢
  have hl : lv_has ls 12 [(0, .ref h_Y), (1, .int a1), (2, .int a2), (3, .int a3)] := hl
  have b_30 : ∀ (x4 : Int64) (x6 : Int64) (O_f : Nat → Int64) (N_f : Nat → Int32) (Y_lo : Int32) (Y_ie : Int32) (Y_ra : Int32) (Y_to : Int64) (Y_te : Int32) (Y_re : Int32) (H : Heap) (locs : List Loc) (ls : Array Slot), va_P (dC, dI) classes [cY h_Y h_O h_N h_B h_G h_K Y_lo Y_ie Y_ra Y_to Y_te Y_re, cL h_O k_O 8 O_f, cI h_N k_N 8 N_f] H → va_D A [cY h_Y h_O h_N h_B h_G h_K Y_lo Y_ie Y_ra Y_to Y_te Y_re, cL h_O k_O 8 O_f, cI h_N k_N 8 N_f] → va_S A s.heap H locs → lv_has ls 12 [(4, .long x4), (6, .long x6)] → f_Y_compareSizes_30  x4 x6 O_f N_f = some o → W p l e (headSpec w_Y_compareSizes ({ frames := 1, cells := 0, slots := 0, locals := 24 } : Room)).room s m ([.ref h_Y, .int a1, .int a2, .int a3] : List Value).toArray below meth c H locs 0 0 (MQ below (va_Qi (fun (r : Int32) (_ : Unit) => r = o) (fun (_ : Unit) (t : State) => va_P (dC, dI) classes [cY h_Y h_O h_N h_B h_G h_K Y_lo Y_ie Y_ra Y_to Y_te Y_re, cL h_O k_O 8 O_f, cI h_N k_N 8 N_f] t.heap ∧ va_K (dC, dI) classes [(k_O, .long), (k_N, .int)] t ∧ va_D A [cY h_Y h_O h_N h_B h_G h_K Y_lo Y_ie Y_ra Y_to Y_te Y_re, cL h_O k_O 8 O_f, cI h_N k_N 8 N_f]) A) ([.ref h_Y, .int a1, .int a2, .int a3] : List Value).toArray s 0 0 A) (F0 m 30 ls []) := by
    intro x4 x6 O_f N_f Y_lo Y_ie Y_ra Y_to Y_te Y_re H locs ls hP hD hS hl hF
    unfold f_Y_compareSizes_30 at hF
    refine lv_lload hx hb d_Y_compareSizes_30 (lv_at hl 0 rfl) ?_
    refine lv_lconst (v := (0 : Int64)) hx hb d_Y_compareSizes_32 (by decide) ?_
    refine W.lcmp hx hb d_Y_compareSizes_33 ?_
    refine lv_if_le (tgt := 41) hx hb d_Y_compareSizes_34 (by decide) (fun c_34 => ?_) (fun c_34 => ?_)
    · replace hF := hif_t c_34 hF
      refine lv_lload hx hb d_Y_compareSizes_41 (lv_at hl 1 rfl) ?_
      refine lv_lconst (v := (0 : Int64)) hx hb d_Y_compareSizes_43 (by decide) ?_
      refine W.lcmp hx hb d_Y_compareSizes_44 ?_
      refine lv_if_le (tgt := 52) hx hb d_Y_compareSizes_45 (by decide) (fun c_45 => ?_) (fun c_45 => ?_)
      · replace hF := hif_t c_45 hF
        refine lv_iconst (v := (0 : Int32)) hx hb d_Y_compareSizes_52 (by decide) ?_
        obtain rfl := Option.some.inj hF
        exact W.iret (v := (0 : Int32)) hx hb hr (fun t ht hW => ⟨⟨(0 : Int32), (), rfl, rfl, by rw [ht]; exact hP, va_K.moved hW.alike hK, hD⟩, hS.F ht⟩) hS.2.2 d_Y_compareSizes_53
      · replace hF := hif_f c_45 hF
        refine lv_iconst (v := (-1 : Int32)) hx hb d_Y_compareSizes_48 (by decide) ?_
        refine lv_goto (tgt := 53) hx hb d_Y_compareSizes_49 (by decide) ?_
        obtain rfl := Option.some.inj hF
        exact W.iret (v := (-1 : Int32)) hx hb hr (fun t ht hW => ⟨⟨(-1 : Int32), (), rfl, rfl, by rw [ht]; exact hP, va_K.moved hW.alike hK, hD⟩, hS.F ht⟩) hS.2.2 d_Y_compareSizes_53
    · replace hF := hif_f c_34 hF
      refine lv_iconst (v := (1 : Int32)) hx hb d_Y_compareSizes_37 (by decide) ?_
      refine lv_goto (tgt := 53) hx hb d_Y_compareSizes_38 (by decide) ?_
      obtain rfl := Option.some.inj hF
      exact W.iret (v := (1 : Int32)) hx hb hr (fun t ht hW => ⟨⟨(1 : Int32), (), rfl, rfl, by rw [ht]; exact hP, va_K.moved hW.alike hK, hD⟩, hS.F ht⟩) hS.2.2 d_Y_compareSizes_53
  have b_133 : ∀ n_ : Nat, ∀ (x4 : Int64) (x6 : Int64) (x8 : Int32) (x9 : Int32) (O_f : Nat → Int64) (N_f : Nat → Int32) (Y_lo : Int32) (Y_ie : Int32) (Y_ra : Int32) (Y_to : Int64) (Y_te : Int32) (Y_re : Int32) (H : Heap) (locs : List Loc) (ls : Array Slot), va_P (dC, dI) classes [cY h_Y h_O h_N h_B h_G h_K Y_lo Y_ie Y_ra Y_to Y_te Y_re, cL h_O k_O 8 O_f, cI h_N k_N 8 N_f] H → va_D A [cY h_Y h_O h_N h_B h_G h_K Y_lo Y_ie Y_ra Y_to Y_te Y_re, cL h_O k_O 8 O_f, cI h_N k_N 8 N_f] → va_S A s.heap H locs → lv_has ls 12 [(4, .long x4), (6, .long x6), (8, .int x8), (9, .int x9)] → f_Y_compareSizes_133 n_ x4 x6 x8 x9 O_f N_f = some o → W p l e (headSpec w_Y_compareSizes ({ frames := 1, cells := 0, slots := 0, locals := 24 } : Room)).room s m ([.ref h_Y, .int a1, .int a2, .int a3] : List Value).toArray below meth c H locs 0 0 (MQ below (va_Qi (fun (r : Int32) (_ : Unit) => r = o) (fun (_ : Unit) (t : State) => va_P (dC, dI) classes [cY h_Y h_O h_N h_B h_G h_K Y_lo Y_ie Y_ra Y_to Y_te Y_re, cL h_O k_O 8 O_f, cI h_N k_N 8 N_f] t.heap ∧ va_K (dC, dI) classes [(k_O, .long), (k_N, .int)] t ∧ va_D A [cY h_Y h_O h_N h_B h_G h_K Y_lo Y_ie Y_ra Y_to Y_te Y_re, cL h_O k_O 8 O_f, cI h_N k_N 8 N_f]) A) ([.ref h_Y, .int a1, .int a2, .int a3] : List Value).toArray s 0 0 A) (F0 m 133 ls []) := by
    intro n_
    induction n_ with
    | zero =>
      intro x4 x6 x8 x9 O_f N_f Y_lo Y_ie Y_ra Y_to Y_te Y_re H locs ls hP hD hS hl hF
      rw [f_Y_compareSizes_133] at hF
      exact absurd hF (by simp)
    | succ n_ ih =>
      obtain ⟨k_133, ek_133⟩ : ∃ k, k = f_Y_compareSizes_133 n_ := ⟨_, rfl⟩
      rw [← ek_133] at ih
      have hk_133 := ih
      intro x4 x6 x8 x9 O_f N_f Y_lo Y_ie Y_ra Y_to Y_te Y_re H locs ls hP hD hS hl hF
      rw [f_Y_compareSizes_133, ← ek_133] at hF
      refine lv_iload hx hb d_Y_compareSizes_133 (lv_at hl 3 rfl) ?_
      refine lv_iload hx hb d_Y_compareSizes_135 (lv_at hl 2 rfl) ?_
      refine lv_icmp_le (tgt := 154) hx hb d_Y_compareSizes_137 (by decide) (fun c_137 => ?_) (fun c_137 => ?_)
      · replace hF := hif_t c_137 hF
        refine lv_lload hx hb d_Y_compareSizes_154 (lv_at hl 0 rfl) ?_
        refine lv_lload hx hb d_Y_compareSizes_156 (lv_at hl 1 rfl) ?_
        refine W.lcmp hx hb d_Y_compareSizes_158 ?_
        refine lv_if_ge (tgt := 166) hx hb d_Y_compareSizes_159 (by decide) (fun c_159 => ?_) (fun c_159 => ?_)
        · replace hF := hif_t c_159 hF
          refine lv_lload hx hb d_Y_compareSizes_166 (lv_at hl 0 rfl) ?_
          refine lv_lload hx hb d_Y_compareSizes_168 (lv_at hl 1 rfl) ?_
          refine W.lcmp hx hb d_Y_compareSizes_170 ?_
          refine lv_if_le (tgt := 178) hx hb d_Y_compareSizes_171 (by decide) (fun c_171 => ?_) (fun c_171 => ?_)
          · replace hF := hif_t c_171 hF
            refine lv_iconst (v := (0 : Int32)) hx hb d_Y_compareSizes_178 (by decide) ?_
            obtain rfl := Option.some.inj hF
            exact W.iret (v := (0 : Int32)) hx hb hr (fun t ht hW => ⟨⟨(0 : Int32), (), rfl, rfl, by rw [ht]; exact hP, va_K.moved hW.alike hK, hD⟩, hS.F ht⟩) hS.2.2 d_Y_compareSizes_179
          · replace hF := hif_f c_171 hF
            refine lv_iconst (v := (1 : Int32)) hx hb d_Y_compareSizes_174 (by decide) ?_
            refine lv_goto (tgt := 179) hx hb d_Y_compareSizes_175 (by decide) ?_
            obtain rfl := Option.some.inj hF
            exact W.iret (v := (1 : Int32)) hx hb hr (fun t ht hW => ⟨⟨(1 : Int32), (), rfl, rfl, by rw [ht]; exact hP, va_K.moved hW.alike hK, hD⟩, hS.F ht⟩) hS.2.2 d_Y_compareSizes_179
        · replace hF := hif_f c_159 hF
          refine lv_iconst (v := (-1 : Int32)) hx hb d_Y_compareSizes_162 (by decide) ?_
          refine lv_goto (tgt := 179) hx hb d_Y_compareSizes_163 (by decide) ?_
          obtain rfl := Option.some.inj hF
          exact W.iret (v := (-1 : Int32)) hx hb hr (fun t ht hW => ⟨⟨(-1 : Int32), (), rfl, rfl, by rw [ht]; exact hP, va_K.moved hW.alike hK, hD⟩, hS.F ht⟩) hS.2.2 d_Y_compareSizes_179
      · replace hF := hif_f c_137 hF
        refine lv_lload hx hb d_Y_compareSizes_140 (lv_at hl 1 rfl) ?_
        refine lv_ldc2 (v := (2 : Int64)) hx hb hown (hts _ tw_372) d_Y_compareSizes_142 ?_
        refine lv_lmul hx hb d_Y_compareSizes_145 ?_
        refine lv_lstore (lv' := [(6, .long (x6 * (2 : Int64))), (4, .long x4), (8, .int x8), (9, .int x9)]) hx hb d_Y_compareSizes_146 hl (by decide) rfl (fun ls hl => ?_)
        refine lv_iinc (v := (x9 + (-1 : Int32))) (lv' := [(9, .int (x9 + (-1 : Int32))), (6, .long (x6 * (2 : Int64))), (4, .long x4), (8, .int x8)]) hx hb d_Y_compareSizes_148 hl (k := 3) rfl rfl (by decide) rfl (fun ls hl => ?_)
        refine lv_goto (tgt := 133) hx hb d_Y_compareSizes_151 (by decide) ?_
        exact hk_133 x4 (x6 * (2 : Int64)) x8 (x9 + (-1 : Int32)) O_f N_f Y_lo Y_ie Y_ra Y_to Y_te Y_re _ _ _ hP hD hS (lv_sub hl [2, 1, 3, 0] rfl) hF
  have b_112 : ∀ n_ : Nat, ∀ (x4 : Int64) (x6 : Int64) (x8 : Int32) (x9 : Int32) (O_f : Nat → Int64) (N_f : Nat → Int32) (Y_lo : Int32) (Y_ie : Int32) (Y_ra : Int32) (Y_to : Int64) (Y_te : Int32) (Y_re : Int32) (H : Heap) (locs : List Loc) (ls : Array Slot), va_P (dC, dI) classes [cY h_Y h_O h_N h_B h_G h_K Y_lo Y_ie Y_ra Y_to Y_te Y_re, cL h_O k_O 8 O_f, cI h_N k_N 8 N_f] H → va_D A [cY h_Y h_O h_N h_B h_G h_K Y_lo Y_ie Y_ra Y_to Y_te Y_re, cL h_O k_O 8 O_f, cI h_N k_N 8 N_f] → va_S A s.heap H locs → lv_has ls 12 [(4, .long x4), (6, .long x6), (8, .int x8), (9, .int x9)] → f_Y_compareSizes_112 n_ x4 x6 x8 x9 O_f N_f = some o → W p l e (headSpec w_Y_compareSizes ({ frames := 1, cells := 0, slots := 0, locals := 24 } : Room)).room s m ([.ref h_Y, .int a1, .int a2, .int a3] : List Value).toArray below meth c H locs 0 0 (MQ below (va_Qi (fun (r : Int32) (_ : Unit) => r = o) (fun (_ : Unit) (t : State) => va_P (dC, dI) classes [cY h_Y h_O h_N h_B h_G h_K Y_lo Y_ie Y_ra Y_to Y_te Y_re, cL h_O k_O 8 O_f, cI h_N k_N 8 N_f] t.heap ∧ va_K (dC, dI) classes [(k_O, .long), (k_N, .int)] t ∧ va_D A [cY h_Y h_O h_N h_B h_G h_K Y_lo Y_ie Y_ra Y_to Y_te Y_re, cL h_O k_O 8 O_f, cI h_N k_N 8 N_f]) A) ([.ref h_Y, .int a1, .int a2, .int a3] : List Value).toArray s 0 0 A) (F0 m 112 ls []) := by
    intro n_
    induction n_ with
    | zero =>
      intro x4 x6 x8 x9 O_f N_f Y_lo Y_ie Y_ra Y_to Y_te Y_re H locs ls hP hD hS hl hF
      rw [f_Y_compareSizes_112] at hF
      exact absurd hF (by simp)
    | succ n_ ih =>
      obtain ⟨k_112, ek_112⟩ : ∃ k, k = f_Y_compareSizes_112 n_ := ⟨_, rfl⟩
      rw [← ek_112] at ih
      have hk_112 := ih
      intro x4 x6 x8 x9 O_f N_f Y_lo Y_ie Y_ra Y_to Y_te Y_re H locs ls hP hD hS hl hF
      rw [f_Y_compareSizes_112, ← ek_112] at hF
      refine lv_iload hx hb d_Y_compareSizes_112 (lv_at hl 2 rfl) ?_
      refine lv_iload hx hb d_Y_compareSizes_114 (lv_at hl 3 rfl) ?_
      refine lv_icmp_le (tgt := 133) hx hb d_Y_compareSizes_116 (by decide) (fun c_116 => ?_) (fun c_116 => ?_)
      · replace hF := hif_t c_116 hF
        exact b_133 1000 x4 x6 x8 x9 O_f N_f Y_lo Y_ie Y_ra Y_to Y_te Y_re _ _ _ hP hD hS (lv_sub hl [0, 1, 2, 3] rfl) hF
      · replace hF := hif_f c_116 hF
        refine lv_lload hx hb d_Y_compareSizes_119 (lv_at hl 0 rfl) ?_
        refine lv_ldc2 (v := (2 : Int64)) hx hb hown (hts _ tw_372) d_Y_compareSizes_121 ?_
        refine lv_lmul hx hb d_Y_compareSizes_124 ?_
        refine lv_lstore (lv' := [(4, .long (x4 * (2 : Int64))), (6, .long x6), (8, .int x8), (9, .int x9)]) hx hb d_Y_compareSizes_125 hl (by decide) rfl (fun ls hl => ?_)
        refine lv_iinc (v := (x8 + (-1 : Int32))) (lv' := [(8, .int (x8 + (-1 : Int32))), (4, .long (x4 * (2 : Int64))), (6, .long x6), (9, .int x9)]) hx hb d_Y_compareSizes_127 hl (k := 2) rfl rfl (by decide) rfl (fun ls hl => ?_)
        refine lv_goto (tgt := 112) hx hb d_Y_compareSizes_130 (by decide) ?_
        exact hk_112 (x4 * (2 : Int64)) x6 (x8 + (-1 : Int32)) x9 O_f N_f Y_lo Y_ie Y_ra Y_to Y_te Y_re _ _ _ hP hD hS (lv_sub hl [1, 2, 0, 3] rfl) hF
  unfold f_Y_compareSizes at hF
  refine lv_aload_n hx hb d_Y_compareSizes_0 rfl (lv_at hl 0 rfl) ?_
  refine va_get (D := (dC, dI)) (ci := 2) (v := .ref h_O) (C := "RoundedNumbersModel") (T := F_Y) (N := 11) hx hb hts in_Y hown hK hP 0 rfl rfl 0 (by decide) (hts _ tw_314) (fun _ h9 => h9) rfl d_Y_compareSizes_1 ?_
  refine lv_iload_n hx hb d_Y_compareSizes_4 rfl (lv_at hl 1 rfl) ?_
  have c_5 : ¬ (a1 < 0 ∨ 8 ≤ a1.toNatClampNeg) := hif_n hF
  replace hF := hif_f c_5 hF
  refine va_lald hx hb hK hP 1 0 rfl rfl c_5 d_Y_compareSizes_5 ?_
  refine lv_lstore (lv' := [(4, .long (O_f a1.toNatClampNeg)), (0, .ref h_Y), (1, .int a1), (2, .int a2), (3, .int a3)]) hx hb d_Y_compareSizes_6 hl (by decide) rfl (fun ls hl => ?_)
  refine lv_aload_n hx hb d_Y_compareSizes_8 rfl (lv_at hl 1 rfl) ?_
  refine va_get (D := (dC, dI)) (ci := 2) (v := .ref h_O) (C := "RoundedNumbersModel") (T := F_Y) (N := 11) hx hb hts in_Y hown hK hP 0 rfl rfl 0 (by decide) (hts _ tw_314) (fun _ h9 => h9) rfl d_Y_compareSizes_9 ?_
  refine lv_iload_n hx hb d_Y_compareSizes_12 rfl (lv_at hl 3 rfl) ?_
  have c_13 : ¬ (a2 < 0 ∨ 8 ≤ a2.toNatClampNeg) := hif_n hF
  replace hF := hif_f c_13 hF
  refine va_lald hx hb hK hP 1 0 rfl rfl c_13 d_Y_compareSizes_13 ?_
  refine lv_lstore (lv' := [(6, .long (O_f a2.toNatClampNeg)), (4, .long (O_f a1.toNatClampNeg)), (0, .ref h_Y), (1, .int a1), (2, .int a2), (3, .int a3)]) hx hb d_Y_compareSizes_14 hl (by decide) rfl (fun ls hl => ?_)
  refine lv_lload hx hb d_Y_compareSizes_16 (lv_at hl 1 rfl) ?_
  refine lv_lconst (v := (0 : Int64)) hx hb d_Y_compareSizes_18 (by decide) ?_
  refine W.lcmp hx hb d_Y_compareSizes_19 ?_
  refine lv_if_eq (tgt := 30) hx hb d_Y_compareSizes_20 (by decide) (fun c_20 => ?_) (fun c_20 => ?_)
  · replace hF := hif_t c_20 hF
    exact b_30 (O_f a1.toNatClampNeg) (O_f a2.toNatClampNeg) O_f N_f Y_lo Y_ie Y_ra Y_to Y_te Y_re _ _ _ hP hD hS (lv_sub hl [1, 0] rfl) hF
  · replace hF := hif_f c_20 hF
    refine lv_lload hx hb d_Y_compareSizes_23 (lv_at hl 0 rfl) ?_
    refine lv_lconst (v := (0 : Int64)) hx hb d_Y_compareSizes_25 (by decide) ?_
    refine W.lcmp hx hb d_Y_compareSizes_26 ?_
    refine lv_if_ne (tgt := 54) hx hb d_Y_compareSizes_27 (by decide) (fun c_27 => ?_) (fun c_27 => ?_)
    · replace hF := hif_f c_27 hF
      refine lv_aload_n hx hb d_Y_compareSizes_54 rfl (lv_at hl 2 rfl) ?_
      refine va_get (D := (dC, dI)) (ci := 2) (v := .ref h_N) (C := "RoundedNumbersModel") (T := F_Y) (N := 11) hx hb hts in_Y hown hK hP 0 rfl rfl 1 (by decide) (hts _ tw_315) (fun _ h9 => h9) rfl d_Y_compareSizes_55 ?_
      refine lv_iload_n hx hb d_Y_compareSizes_58 rfl (lv_at hl 3 rfl) ?_
      have c_59 : ¬ (a1 < 0 ∨ 8 ≤ a1.toNatClampNeg) := hif_n hF
      replace hF := hif_f c_59 hF
      refine va_iald hx hb hK hP 2 1 rfl rfl c_59 d_Y_compareSizes_59 ?_
      refine lv_istore (lv' := [(8, .int (N_f a1.toNatClampNeg)), (6, .long (O_f a2.toNatClampNeg)), (4, .long (O_f a1.toNatClampNeg)), (0, .ref h_Y), (1, .int a1), (2, .int a2), (3, .int a3)]) hx hb d_Y_compareSizes_60 hl (by decide) rfl (fun ls hl => ?_)
      refine lv_aload_n hx hb d_Y_compareSizes_62 rfl (lv_at hl 3 rfl) ?_
      refine va_get (D := (dC, dI)) (ci := 2) (v := .ref h_N) (C := "RoundedNumbersModel") (T := F_Y) (N := 11) hx hb hts in_Y hown hK hP 0 rfl rfl 1 (by decide) (hts _ tw_315) (fun _ h9 => h9) rfl d_Y_compareSizes_63 ?_
      refine lv_iload_n hx hb d_Y_compareSizes_66 rfl (lv_at hl 5 rfl) ?_
      have c_67 : ¬ (a2 < 0 ∨ 8 ≤ a2.toNatClampNeg) := hif_n hF
      replace hF := hif_f c_67 hF
      refine va_iald hx hb hK hP 2 1 rfl rfl c_67 d_Y_compareSizes_67 ?_
      refine lv_iload_n hx hb d_Y_compareSizes_68 rfl (lv_at hl 6 rfl) ?_
      refine lv_iadd hx hb d_Y_compareSizes_69 ?_
      refine lv_istore (lv' := [(9, .int ((N_f a2.toNatClampNeg) + a3)), (8, .int (N_f a1.toNatClampNeg)), (6, .long (O_f a2.toNatClampNeg)), (4, .long (O_f a1.toNatClampNeg)), (0, .ref h_Y), (1, .int a1), (2, .int a2), (3, .int a3)]) hx hb d_Y_compareSizes_70 hl (by decide) rfl (fun ls hl => ?_)
      refine lv_lload hx hb d_Y_compareSizes_72 (lv_at hl 3 rfl) ?_
      obtain ⟨q_74, hC_74, hF⟩ := hbd hF
      have hPc := hP.sub (ws' := []) [] rfl
      have hDc := hD.sub (ws' := []) [] (by decide) rfl
      have hKc := hK.sub (tys' := []) [] rfl
      have hFc := va_free (wc := []) hD hS hA [] rfl
      refine va_calli (va_runS (As := [.long (O_f a1.toNatClampNeg)]) (rest := []) ⟨hx, hb, hml, hown, hts⟩ (c_Y_bits l dC dI s.heap.size (O_f a1.toNatClampNeg) q_74 hC_74) (cwS 1 hts g_Y_29_Y_bits rfl rfl rfl (by decide +kernel) ⟨Nat.le_of_ble_eq_true rfl, Nat.le_of_ble_eq_true rfl⟩) ⟨fun a U g mk q => by obtain ⟨q0, q1, qP, qK, qD⟩ := q; exact ⟨q0, q1, qP, va_K.moved (u := U) (U := U.calling g mk a) (Vm.Alike.refl U.vm) qK, qD⟩, fun U hU hW => ⟨rfl, by rw [hU], by rw [hU]; exact hPc, va_K.moved hW.alike hKc, hDc.weaken (fun _ _ _ _ => trivial)⟩⟩ rfl rfl hl.1 rfl (lv_room (Nat.le_of_ble_eq_true rfl)) d_Y_compareSizes_74 ⟨Nat.zero_le _, Nat.zero_le _⟩) hS (fun q _ h => hFc q h) hFc (fun r u t H1 locs ht hvm hw hB hz1 hk1 hS => ?_)
      obtain ⟨hP1, hK1, hD1⟩ := hB
      replace hw := hw.symm
      subst hw
      rw [ht] at hP1
      obtain ⟨hP, hD⟩ := va_join (wr := [cY h_Y h_O h_N h_B h_G h_K Y_lo Y_ie Y_ra Y_to Y_te Y_re, cL h_O k_O 8 O_f, cI h_N k_N 8 N_f]) (w1 := []) hP hD [] [0, 1, 2] rfl rfl (by decide) (by decide) hk1 hFc hP1 hD1
      generalize H1 = H at hP hS ⊢
      have hP := hP.sub (ws' := [cY h_Y h_O h_N h_B h_G h_K Y_lo Y_ie Y_ra Y_to Y_te Y_re, cL h_O k_O 8 O_f, cI h_N k_N 8 N_f]) [0, 1, 2] rfl
      have hD := hD.sub (ws' := [cY h_Y h_O h_N h_B h_G h_K Y_lo Y_ie Y_ra Y_to Y_te Y_re, cL h_O k_O 8 O_f, cI h_N k_N 8 N_f]) [0, 1, 2] (by decide) rfl
      refine lv_iload hx hb d_Y_compareSizes_77 (lv_at hl 1 rfl) ?_
      refine lv_iadd hx hb d_Y_compareSizes_79 ?_
      refine lv_istore (lv' := [(10, .int (q_74 + (N_f a1.toNatClampNeg))), (9, .int ((N_f a2.toNatClampNeg) + a3)), (8, .int (N_f a1.toNatClampNeg)), (6, .long (O_f a2.toNatClampNeg)), (4, .long (O_f a1.toNatClampNeg)), (0, .ref h_Y), (1, .int a1), (2, .int a2), (3, .int a3)]) hx hb d_Y_compareSizes_80 hl (by decide) rfl (fun ls hl => ?_)
      refine lv_lload hx hb d_Y_compareSizes_82 (lv_at hl 3 rfl) ?_
      obtain ⟨q_84, hC_84, hF⟩ := hbd hF
      have hPc := hP.sub (ws' := []) [] rfl
      have hDc := hD.sub (ws' := []) [] (by decide) rfl
      have hKc := hK.sub (tys' := []) [] rfl
      have hFc := va_free (wc := []) hD hS hA [] rfl
      refine va_calli (va_runS (As := [.long (O_f a2.toNatClampNeg)]) (rest := []) ⟨hx, hb, hml, hown, hts⟩ (c_Y_bits l dC dI H.size (O_f a2.toNatClampNeg) q_84 hC_84) (cwS 1 hts g_Y_29_Y_bits rfl rfl rfl (by decide +kernel) ⟨Nat.le_of_ble_eq_true rfl, Nat.le_of_ble_eq_true rfl⟩) ⟨fun a U g mk q => by obtain ⟨q0, q1, qP, qK, qD⟩ := q; exact ⟨q0, q1, qP, va_K.moved (u := U) (U := U.calling g mk a) (Vm.Alike.refl U.vm) qK, qD⟩, fun U hU hW => ⟨rfl, by rw [hU], by rw [hU]; exact hPc, va_K.moved hW.alike hKc, hDc.weaken (fun _ _ _ _ => trivial)⟩⟩ rfl rfl hl.1 rfl (lv_room (Nat.le_of_ble_eq_true rfl)) d_Y_compareSizes_84 ⟨Nat.zero_le _, Nat.zero_le _⟩) hS (fun q _ h => hFc q h) hFc (fun r u t H1 locs ht hvm hw hB hz1 hk1 hS => ?_)
      obtain ⟨hP1, hK1, hD1⟩ := hB
      replace hw := hw.symm
      subst hw
      rw [ht] at hP1
      obtain ⟨hP, hD⟩ := va_join (wr := [cY h_Y h_O h_N h_B h_G h_K Y_lo Y_ie Y_ra Y_to Y_te Y_re, cL h_O k_O 8 O_f, cI h_N k_N 8 N_f]) (w1 := []) hP hD [] [0, 1, 2] rfl rfl (by decide) (by decide) hk1 hFc hP1 hD1
      generalize H1 = H at hP hS ⊢
      have hP := hP.sub (ws' := [cY h_Y h_O h_N h_B h_G h_K Y_lo Y_ie Y_ra Y_to Y_te Y_re, cL h_O k_O 8 O_f, cI h_N k_N 8 N_f]) [0, 1, 2] rfl
      have hD := hD.sub (ws' := [cY h_Y h_O h_N h_B h_G h_K Y_lo Y_ie Y_ra Y_to Y_te Y_re, cL h_O k_O 8 O_f, cI h_N k_N 8 N_f]) [0, 1, 2] (by decide) rfl
      refine lv_iload hx hb d_Y_compareSizes_87 (lv_at hl 1 rfl) ?_
      refine lv_iadd hx hb d_Y_compareSizes_89 ?_
      refine lv_istore (lv' := [(11, .int (q_84 + ((N_f a2.toNatClampNeg) + a3))), (10, .int (q_74 + (N_f a1.toNatClampNeg))), (9, .int ((N_f a2.toNatClampNeg) + a3)), (8, .int (N_f a1.toNatClampNeg)), (6, .long (O_f a2.toNatClampNeg)), (4, .long (O_f a1.toNatClampNeg)), (0, .ref h_Y), (1, .int a1), (2, .int a2), (3, .int a3)]) hx hb d_Y_compareSizes_90 hl (by decide) rfl (fun ls hl => ?_)
      refine lv_iload hx hb d_Y_compareSizes_92 (lv_at hl 1 rfl) ?_
      refine lv_iload hx hb d_Y_compareSizes_94 (lv_at hl 0 rfl) ?_
      refine lv_icmp_eq (tgt := 112) hx hb d_Y_compareSizes_96 (by decide) (fun c_96 => ?_) (fun c_96 => ?_)
      · replace hF := hif_t c_96 hF
        exact b_112 1000 (O_f a1.toNatClampNeg) (O_f a2.toNatClampNeg) (N_f a1.toNatClampNeg) ((N_f a2.toNatClampNeg) + a3) O_f N_f Y_lo Y_ie Y_ra Y_to Y_te Y_re _ _ _ hP hD hS (lv_sub hl [5, 4, 3, 2] rfl) hF
      · replace hF := hif_f c_96 hF
        refine lv_iload hx hb d_Y_compareSizes_99 (lv_at hl 1 rfl) ?_
        refine lv_iload hx hb d_Y_compareSizes_101 (lv_at hl 0 rfl) ?_
        refine lv_icmp_ge (tgt := 110) hx hb d_Y_compareSizes_103 (by decide) (fun c_103 => ?_) (fun c_103 => ?_)
        · replace hF := hif_t c_103 hF
          refine lv_iconst (v := (1 : Int32)) hx hb d_Y_compareSizes_110 (by decide) ?_
          obtain rfl := Option.some.inj hF
          exact W.iret (v := (1 : Int32)) hx hb hr (fun t ht hW => ⟨⟨(1 : Int32), (), rfl, rfl, by rw [ht]; exact hP, va_K.moved hW.alike hK, hD⟩, hS.F ht⟩) hS.2.2 d_Y_compareSizes_111
        · replace hF := hif_f c_103 hF
          refine lv_iconst (v := (-1 : Int32)) hx hb d_Y_compareSizes_106 (by decide) ?_
          refine lv_goto (tgt := 111) hx hb d_Y_compareSizes_107 (by decide) ?_
          obtain rfl := Option.some.inj hF
          exact W.iret (v := (-1 : Int32)) hx hb hr (fun t ht hW => ⟨⟨(-1 : Int32), (), rfl, rfl, by rw [ht]; exact hP, va_K.moved hW.alike hK, hD⟩, hS.F ht⟩) hS.2.2 d_Y_compareSizes_111
    · replace hF := hif_t c_27 hF
      exact b_30 (O_f a1.toNatClampNeg) (O_f a2.toNatClampNeg) O_f N_f Y_lo Y_ie Y_ra Y_to Y_te Y_re _ _ _ hP hD hS (lv_sub hl [1, 0] rfl) hF
set_option maxHeartbeats 4000000 in
set_option maxRecDepth 100000 in
theorem c_Y_remainder (l : Launch) (dC : Nat → ClassId) (dI : Nat → Nat → Nat) (h_Y : Nat) (h_O : Nat) (h_N : Nat) (h_B : Nat) (h_G : Nat) (h_K : Nat) (k_O : ClassId) (k_N : ClassId) (k_B : ClassId) (sz : Nat) (Y_lo : Int32) (Y_ie : Int32) (Y_ra : Int32) (Y_to : Int64) (Y_te : Int32) (Y_re : Int32) (O_f : Nat → Int64) (N_f : Nat → Int32) (B_f : Nat → Int32) (a1 : Int32) (a2 : Int32) (a3 : Int32) (o : Int32 × Int32 × Int32 × Int32 × (Nat → Int64) × (Nat → Int32) × (Nat → Int32)) (hF : f_Y_remainder Y_lo Y_ie Y_ra O_f N_f B_f a1 a2 a3 = some o) : Met l y_Y_remainder w_Y_remainder ({ frames := 3, cells := 0, slots := 0, locals := 73 } : Room) (va_Pc [.ref h_Y, .int a1, .int a2, .int a3] (fun U => U.heap.size = sz ∧ va_P (dC, dI) classes [cY h_Y h_O h_N h_B h_G h_K Y_lo Y_ie Y_ra Y_to Y_te Y_re, cL h_O k_O 8 O_f, cI h_N k_N 8 N_f, cI h_B k_B 8 B_f] U.heap ∧ va_K (dC, dI) classes [(k_O, .long), (k_N, .int), (k_B, .boolean)] U ∧ va_D (fun _ => True) [cY h_Y h_O h_N h_B h_G h_K Y_lo Y_ie Y_ra Y_to Y_te Y_re, cL h_O k_O 8 O_f, cI h_N k_N 8 N_f, cI h_B k_B 8 B_f])) (va_Qi (fun (r : Int32) (_ : Unit) => r = o.1) (fun (_ : Unit) (t : State) => va_P (dC, dI) classes [cY h_Y h_O h_N h_B h_G h_K o.2.1 o.2.2.1 o.2.2.2.1 Y_to Y_te Y_re, cL h_O k_O 8 o.2.2.2.2.1, cI h_N k_N 8 o.2.2.2.2.2.1, cI h_B k_B 8 o.2.2.2.2.2.2] t.heap ∧ va_K (dC, dI) classes [(k_O, .long), (k_N, .int), (k_B, .boolean)] t ∧ va_D (va_A [cY h_Y h_O h_N h_B h_G h_K Y_lo Y_ie Y_ra Y_to Y_te Y_re, cL h_O k_O 8 O_f, cI h_N k_N 8 N_f, cI h_B k_B 8 B_f] sz) [cY h_Y h_O h_N h_B h_G h_K o.2.1 o.2.2.1 o.2.2.2.1 Y_to Y_te Y_re, cL h_O k_O 8 o.2.2.2.2.1, cI h_N k_N 8 o.2.2.2.2.2.1, cI h_B k_B 8 o.2.2.2.2.2.2]) (va_A [cY h_Y h_O h_N h_B h_G h_K Y_lo Y_ie Y_ra Y_to Y_te Y_re, cL h_O k_O 8 O_f, cI h_N k_N 8 N_f, cI h_B k_B 8 B_f] sz)) 0 0 (va_A [cY h_Y h_O h_N h_B h_G h_K Y_lo Y_ie Y_ra Y_to Y_te Y_re, cL h_O k_O 8 O_f, cI h_N k_N 8 N_f, cI h_B k_B 8 B_f] sz) := by
  refine Met.ofW (cc := prog_4_method_31_code) (maxL := 8) (ret := (some .int)) (by decide) rfl ?_
  intro p e s m args below meth c s₁ B hml hv
  obtain ⟨rfl, hsz, hP, hK, hD0⟩ := hv
  have hx := B.exec
  have hb := B.bytes
  have hr := B.returns
  have hts0 := atoms_spec (ws := w_Y_remainder) B.pre
  have hts : ∀ w ∈ tb, w.before _ s = true := fun w h => hts0 w (List.mem_cons_of_mem _ h)
  clear hts0
  have hown : s.vm.findClass "RoundedNumbersModel" = some m.cls := findClass_of_methodNamed B.named
  have hlocks := B.notSynchronized
  subst hsz
  have hD := hD0.self (sz := s.heap.size)
  generalize hAe : va_A [cY h_Y h_O h_N h_B h_G h_K Y_lo Y_ie Y_ra Y_to Y_te Y_re, cL h_O k_O 8 O_f, cI h_N k_N 8 N_f, cI h_B k_B 8 B_f] s.heap.size = A at hD ⊢
  have hA : ∀ q : Nat, s.heap.size ≤ q → A q := fun q h => by rw [← hAe]; exact Or.inr h
  clear hAe
  have hS : va_S A s.heap s.heap [] := va_S.rf
  have hP : va_P (dC, dI) classes [cY h_Y h_O h_N h_B h_G h_K Y_lo Y_ie Y_ra Y_to Y_te Y_re, cL h_O k_O 8 O_f, cI h_N k_N 8 N_f, cI h_B k_B 8 B_f] s.heap := hP
  have hl := lv_entry ([.ref h_Y, .int a1, .int a2, .int a3]) (n := 8) (Nat.le_of_ble_eq_true rfl)
  rw [lg_entry_eq]
  generalize (lg_sl ([.ref h_Y, .int a1, .int a2, .int a3]) ++ List.replicate (8 - (lg_sl ([.ref h_Y, .int a1, .int a2, .int a3])).length) Slot.unset).toArray = ls at hl ⊢
  have hl : lv_has ls 8 [(0, .ref h_Y), (1, .int a1), (2, .int a2), (3, .int a3)] := hl
  have b_154 : ∀ n_ : Nat, ∀ (x1 : Int32) (x2 : Int32) (x3 : Int32) (x4 : Int32) (x5 : Int64) (x7 : Int32) (Y_lo : Int32) (Y_ie : Int32) (Y_ra : Int32) (O_f : Nat → Int64) (N_f : Nat → Int32) (B_f : Nat → Int32) (Y_to : Int64) (Y_te : Int32) (Y_re : Int32) (H : Heap) (locs : List Loc) (ls : Array Slot), va_P (dC, dI) classes [cY h_Y h_O h_N h_B h_G h_K Y_lo Y_ie Y_ra Y_to Y_te Y_re, cL h_O k_O 8 O_f, cI h_N k_N 8 N_f, cI h_B k_B 8 B_f] H → va_D A [cY h_Y h_O h_N h_B h_G h_K Y_lo Y_ie Y_ra Y_to Y_te Y_re, cL h_O k_O 8 O_f, cI h_N k_N 8 N_f, cI h_B k_B 8 B_f] → va_S A s.heap H locs → lv_has ls 8 [(0, .ref h_Y), (1, .int x1), (2, .int x2), (3, .int x3), (4, .int x4), (5, .long x5), (7, .int x7)] → f_Y_remainder_154 n_ x1 x2 x3 x4 x5 x7 Y_lo Y_ie Y_ra O_f N_f B_f = some o → W p l e (headSpec w_Y_remainder ({ frames := 3, cells := 0, slots := 0, locals := 73 } : Room)).room s m ([.ref h_Y, .int a1, .int a2, .int a3] : List Value).toArray below meth c H locs 0 0 (MQ below (va_Qi (fun (r : Int32) (_ : Unit) => r = o.1) (fun (_ : Unit) (t : State) => va_P (dC, dI) classes [cY h_Y h_O h_N h_B h_G h_K o.2.1 o.2.2.1 o.2.2.2.1 Y_to Y_te Y_re, cL h_O k_O 8 o.2.2.2.2.1, cI h_N k_N 8 o.2.2.2.2.2.1, cI h_B k_B 8 o.2.2.2.2.2.2] t.heap ∧ va_K (dC, dI) classes [(k_O, .long), (k_N, .int), (k_B, .boolean)] t ∧ va_D A [cY h_Y h_O h_N h_B h_G h_K o.2.1 o.2.2.1 o.2.2.2.1 Y_to Y_te Y_re, cL h_O k_O 8 o.2.2.2.2.1, cI h_N k_N 8 o.2.2.2.2.2.1, cI h_B k_B 8 o.2.2.2.2.2.2]) A) ([.ref h_Y, .int a1, .int a2, .int a3] : List Value).toArray s 0 0 A) (F0 m 154 ls []) := by
    intro n_
    induction n_ with
    | zero =>
      intro x1 x2 x3 x4 x5 x7 Y_lo Y_ie Y_ra O_f N_f B_f Y_to Y_te Y_re H locs ls hP hD hS hl hF
      rw [f_Y_remainder_154] at hF
      exact absurd hF (by simp)
    | succ n_ ih =>
      obtain ⟨k_154, ek_154⟩ : ∃ k, k = f_Y_remainder_154 n_ := ⟨_, rfl⟩
      rw [← ek_154] at ih
      have hk_154 := ih
      intro x1 x2 x3 x4 x5 x7 Y_lo Y_ie Y_ra O_f N_f B_f Y_to Y_te Y_re H locs ls hP hD hS hl hF
      rw [f_Y_remainder_154, ← ek_154] at hF
      refine lv_iload hx hb d_Y_remainder_154 (lv_at hl 6 rfl) ?_
      refine lv_iload hx hb d_Y_remainder_156 (lv_at hl 4 rfl) ?_
      refine lv_icmp_ge (tgt := 182) hx hb d_Y_remainder_158 (by decide) (fun c_158 => ?_) (fun c_158 => ?_)
      · replace hF := hif_t c_158 hF
        refine lv_aload_n hx hb d_Y_remainder_182 rfl (lv_at hl 0 rfl) ?_
        refine lv_iload_n hx hb d_Y_remainder_183 rfl (lv_at hl 1 rfl) ?_
        refine lv_aload_n hx hb d_Y_remainder_184 rfl (lv_at hl 0 rfl) ?_
        refine va_get (D := (dC, dI)) (ci := 2) (v := .ref h_B) (C := "RoundedNumbersModel") (T := F_Y) (N := 11) hx hb hts in_Y hown hK hP 0 rfl rfl 2 (by decide) (hts _ tw_316) (fun _ h9 => h9) rfl d_Y_remainder_185 ?_
        refine lv_iload_n hx hb d_Y_remainder_188 rfl (lv_at hl 2 rfl) ?_
        have c_189 : ¬ (x2 < 0 ∨ 8 ≤ x2.toNatClampNeg) := hif_n hF
        replace hF := hif_f c_189 hF
        refine va_zald hx hb hK hP 3 2 rfl rfl c_189 d_Y_remainder_189 ?_
        refine lv_lload hx hb d_Y_remainder_190 (lv_at hl 5 rfl) ?_
        refine lv_aload_n hx hb d_Y_remainder_192 rfl (lv_at hl 0 rfl) ?_
        refine va_get (D := (dC, dI)) (ci := 2) (v := .ref h_N) (C := "RoundedNumbersModel") (T := F_Y) (N := 11) hx hb hts in_Y hown hK hP 0 rfl rfl 1 (by decide) (hts _ tw_315) (fun _ h9 => h9) rfl d_Y_remainder_193 ?_
        refine lv_iload_n hx hb d_Y_remainder_196 rfl (lv_at hl 3 rfl) ?_
        have c_197 : ¬ (x3 < 0 ∨ 8 ≤ x3.toNatClampNeg) := hif_n hF
        replace hF := hif_f c_197 hF
        refine va_iald hx hb hK hP 2 1 rfl rfl c_197 d_Y_remainder_197 ?_
        refine lv_iconst (v := (0 : Int32)) hx hb d_Y_remainder_198 (by decide) ?_
        obtain ⟨q_199, hC_199, hF⟩ := hbd hF
        have hPc := hP.sub (ws' := [cY h_Y h_O h_N h_B h_G h_K Y_lo Y_ie Y_ra Y_to Y_te Y_re, cL h_O k_O 8 O_f, cI h_N k_N 8 N_f, cI h_B k_B 8 B_f]) [0, 1, 2, 3] rfl
        have hDc := hD.sub (ws' := [cY h_Y h_O h_N h_B h_G h_K Y_lo Y_ie Y_ra Y_to Y_te Y_re, cL h_O k_O 8 O_f, cI h_N k_N 8 N_f, cI h_B k_B 8 B_f]) [0, 1, 2, 3] (by decide) rfl
        have hKc := hK.sub (tys' := [(k_O, .long), (k_N, .int), (k_B, .boolean)]) [0, 1, 2] rfl
        have hFc := va_free (wc := [cY h_Y h_O h_N h_B h_G h_K Y_lo Y_ie Y_ra Y_to Y_te Y_re, cL h_O k_O 8 O_f, cI h_N k_N 8 N_f, cI h_B k_B 8 B_f]) hD hS hA [0, 1, 2, 3] rfl
        refine va_calli (va_runV (As := [.int x1, .int (B_f x2.toNatClampNeg), .long x5, .int (N_f x3.toNatClampNeg), .int (0 : Int32)]) (rest := []) ⟨hx, hb, hml, hown, hts⟩ (c_Y_finish l dC dI h_Y h_O h_N h_B h_G h_K k_O k_N k_B H.size Y_lo Y_ie Y_ra Y_to Y_te Y_re O_f N_f B_f x1 (B_f x2.toNatClampNeg) x5 (N_f x3.toNatClampNeg) (0 : Int32) q_199 hC_199) (cwV 5 hts g_Y_64_Y_finish rfl rfl rfl (by decide +kernel) ⟨Nat.le_of_ble_eq_true rfl, Nat.le_of_ble_eq_true rfl⟩) ⟨fun a U g mk q => by obtain ⟨q0, q1, qP, qK, qD⟩ := q; exact ⟨q0, q1, qP, va_K.moved (u := U) (U := U.calling g mk a) (Vm.Alike.refl U.vm) qK, qD⟩, va_recv hKc hPc (ci := 2) (q0 := 0) rfl rfl, fun U hU hW => ⟨rfl, by rw [hU], by rw [hU]; exact hPc, va_K.moved hW.alike hKc, hDc.weaken (fun _ _ _ _ => trivial)⟩⟩ rfl rfl hl.1 rfl (lv_room (Nat.le_of_ble_eq_true rfl)) d_Y_remainder_199 ⟨Nat.zero_le _, Nat.zero_le _⟩) hS (fun q _ h => hFc q h) hFc (fun r u t H1 locs ht hvm hw hB hz1 hk1 hS => ?_)
        obtain ⟨hP1, hK1, hD1⟩ := hB
        replace hw := hw.symm
        subst hw
        rw [ht] at hP1
        obtain ⟨hP, hD⟩ := va_join (wr := []) (w1 := [cY h_Y h_O h_N h_B h_G h_K q_199.2.1 q_199.2.2.1 q_199.2.2.2.1 Y_to Y_te Y_re, cL h_O k_O 8 q_199.2.2.2.2.1, cI h_N k_N 8 q_199.2.2.2.2.2.1, cI h_B k_B 8 q_199.2.2.2.2.2.2]) hP hD [0, 1, 2, 3] [] rfl rfl (by decide) (by decide) hk1 hFc hP1 hD1
        generalize H1 = H at hP hS ⊢
        have hP := hP.sub (ws' := [cY h_Y h_O h_N h_B h_G h_K q_199.2.1 q_199.2.2.1 q_199.2.2.2.1 Y_to Y_te Y_re, cL h_O k_O 8 q_199.2.2.2.2.1, cI h_N k_N 8 q_199.2.2.2.2.2.1, cI h_B k_B 8 q_199.2.2.2.2.2.2]) [0, 1, 2, 3] rfl
        have hD := hD.sub (ws' := [cY h_Y h_O h_N h_B h_G h_K q_199.2.1 q_199.2.2.1 q_199.2.2.2.1 Y_to Y_te Y_re, cL h_O k_O 8 q_199.2.2.2.2.1, cI h_N k_N 8 q_199.2.2.2.2.2.1, cI h_B k_B 8 q_199.2.2.2.2.2.2]) [0, 1, 2, 3] (by decide) rfl
        obtain rfl := Option.some.inj hF
        exact W.iret (v := q_199.1) hx hb hr (fun t ht hW => ⟨⟨q_199.1, (), rfl, rfl, by rw [ht]; exact hP, va_K.moved hW.alike hK, hD⟩, hS.F ht⟩) hS.2.2 d_Y_remainder_202
      · replace hF := hif_f c_158 hF
        refine lv_ldc2 (v := (2 : Int64)) hx hb hown (hts _ tw_372) d_Y_remainder_161 ?_
        refine lv_lload hx hb d_Y_remainder_164 (lv_at hl 5 rfl) ?_
        refine lv_lmul hx hb d_Y_remainder_166 ?_
        refine lv_aload_n hx hb d_Y_remainder_167 rfl (lv_at hl 0 rfl) ?_
        refine va_get (D := (dC, dI)) (ci := 2) (v := .ref h_O) (C := "RoundedNumbersModel") (T := F_Y) (N := 11) hx hb hts in_Y hown hK hP 0 rfl rfl 0 (by decide) (hts _ tw_314) (fun _ h9 => h9) rfl d_Y_remainder_168 ?_
        refine lv_iload_n hx hb d_Y_remainder_171 rfl (lv_at hl 3 rfl) ?_
        have c_172 : ¬ (x3 < 0 ∨ 8 ≤ x3.toNatClampNeg) := hif_n hF
        replace hF := hif_f c_172 hF
        refine va_lald hx hb hK hP 1 0 rfl rfl c_172 d_Y_remainder_172 ?_
        have c_173 : ¬ (O_f x3.toNatClampNeg) = 0 := hif_n hF
        replace hF := hif_f c_173 hF
        refine lv_lrem hx hb d_Y_remainder_173 c_173 ?_
        refine lv_lstore (lv' := [(5, .long (((2 : Int64) * x5) - ((2 : Int64) * x5) / (O_f x3.toNatClampNeg) * (O_f x3.toNatClampNeg))), (0, .ref h_Y), (1, .int x1), (2, .int x2), (3, .int x3), (4, .int x4), (7, .int x7)]) hx hb d_Y_remainder_174 hl (by decide) rfl (fun ls hl => ?_)
        refine lv_iinc (v := (x7 + (1 : Int32))) (lv' := [(7, .int (x7 + (1 : Int32))), (5, .long (((2 : Int64) * x5) - ((2 : Int64) * x5) / (O_f x3.toNatClampNeg) * (O_f x3.toNatClampNeg))), (0, .ref h_Y), (1, .int x1), (2, .int x2), (3, .int x3), (4, .int x4)]) hx hb d_Y_remainder_176 hl (k := 6) rfl rfl (by decide) rfl (fun ls hl => ?_)
        refine lv_goto (tgt := 154) hx hb d_Y_remainder_179 (by decide) ?_
        exact hk_154 x1 x2 x3 x4 (((2 : Int64) * x5) - ((2 : Int64) * x5) / (O_f x3.toNatClampNeg) * (O_f x3.toNatClampNeg)) (x7 + (1 : Int32)) Y_lo Y_ie Y_ra O_f N_f B_f Y_to Y_te Y_re _ _ _ hP hD hS (lv_sub hl [2, 3, 4, 5, 6, 1, 0] rfl) hF
  unfold f_Y_remainder at hF
  refine lv_iload_n hx hb d_Y_remainder_0 rfl (lv_at hl 1 rfl) ?_
  obtain ⟨q_1, hC_1, hF⟩ := hbd hF
  have hPc := hP.sub (ws' := []) [] rfl
  have hDc := hD.sub (ws' := []) [] (by decide) rfl
  have hKc := hK.sub (tys' := []) [] rfl
  have hFc := va_free (wc := []) hD hS hA [] rfl
  refine va_calli (va_runS (As := [.int a1]) (rest := []) ⟨hx, hb, hml, hown, hts⟩ (c_Y_out l dC dI s.heap.size a1 q_1 hC_1) (cwS 1 hts g_Y_101_Y_out rfl rfl rfl (by decide +kernel) ⟨Nat.le_of_ble_eq_true rfl, Nat.le_of_ble_eq_true rfl⟩) ⟨fun a U g mk q => by obtain ⟨q0, q1, qP, qK, qD⟩ := q; exact ⟨q0, q1, qP, va_K.moved (u := U) (U := U.calling g mk a) (Vm.Alike.refl U.vm) qK, qD⟩, fun U hU hW => ⟨rfl, by rw [hU], by rw [hU]; exact hPc, va_K.moved hW.alike hKc, hDc.weaken (fun _ _ _ _ => trivial)⟩⟩ rfl rfl hl.1 rfl (lv_room (Nat.le_of_ble_eq_true rfl)) d_Y_remainder_1 ⟨Nat.zero_le _, Nat.zero_le _⟩) hS (fun q _ h => hFc q h) hFc (fun r u t H1 locs ht hvm hw hB hz1 hk1 hS => ?_)
  obtain ⟨hP1, hK1, hD1⟩ := hB
  replace hw := hw.symm
  subst hw
  rw [ht] at hP1
  obtain ⟨hP, hD⟩ := va_join (wr := [cY h_Y h_O h_N h_B h_G h_K Y_lo Y_ie Y_ra Y_to Y_te Y_re, cL h_O k_O 8 O_f, cI h_N k_N 8 N_f, cI h_B k_B 8 B_f]) (w1 := []) hP hD [] [0, 1, 2, 3] rfl rfl (by decide) (by decide) hk1 hFc hP1 hD1
  generalize H1 = H at hP hS ⊢
  have hP := hP.sub (ws' := [cY h_Y h_O h_N h_B h_G h_K Y_lo Y_ie Y_ra Y_to Y_te Y_re, cL h_O k_O 8 O_f, cI h_N k_N 8 N_f, cI h_B k_B 8 B_f]) [0, 1, 2, 3] rfl
  have hD := hD.sub (ws' := [cY h_Y h_O h_N h_B h_G h_K Y_lo Y_ie Y_ra Y_to Y_te Y_re, cL h_O k_O 8 O_f, cI h_N k_N 8 N_f, cI h_B k_B 8 B_f]) [0, 1, 2, 3] (by decide) rfl
  refine lv_if_ne (tgt := 43) hx hb d_Y_remainder_4 (by decide) (fun c_4 => ?_) (fun c_4 => ?_)
  · replace hF := hif_f c_4 hF
    refine lv_iconst (v := (-1 : Int32)) hx hb d_Y_remainder_43 (by decide) ?_
    obtain rfl := Option.some.inj hF
    exact W.iret (v := (-1 : Int32)) hx hb hr (fun t ht hW => ⟨⟨(-1 : Int32), (), rfl, rfl, by rw [ht]; exact hP, va_K.moved hW.alike hK, hD⟩, hS.F ht⟩) hS.2.2 d_Y_remainder_44
  · replace hF := hif_t c_4 hF
    refine lv_iload_n hx hb d_Y_remainder_7 rfl (lv_at hl 2 rfl) ?_
    obtain ⟨q_8, hC_8, hF⟩ := hbd hF
    have hPc := hP.sub (ws' := []) [] rfl
    have hDc := hD.sub (ws' := []) [] (by decide) rfl
    have hKc := hK.sub (tys' := []) [] rfl
    have hFc := va_free (wc := []) hD hS hA [] rfl
    refine va_calli (va_runS (As := [.int a2]) (rest := []) ⟨hx, hb, hml, hown, hts⟩ (c_Y_out l dC dI H.size a2 q_8 hC_8) (cwS 1 hts g_Y_101_Y_out rfl rfl rfl (by decide +kernel) ⟨Nat.le_of_ble_eq_true rfl, Nat.le_of_ble_eq_true rfl⟩) ⟨fun a U g mk q => by obtain ⟨q0, q1, qP, qK, qD⟩ := q; exact ⟨q0, q1, qP, va_K.moved (u := U) (U := U.calling g mk a) (Vm.Alike.refl U.vm) qK, qD⟩, fun U hU hW => ⟨rfl, by rw [hU], by rw [hU]; exact hPc, va_K.moved hW.alike hKc, hDc.weaken (fun _ _ _ _ => trivial)⟩⟩ rfl rfl hl.1 rfl (lv_room (Nat.le_of_ble_eq_true rfl)) d_Y_remainder_8 ⟨Nat.zero_le _, Nat.zero_le _⟩) hS (fun q _ h => hFc q h) hFc (fun r u t H1 locs ht hvm hw hB hz1 hk1 hS => ?_)
    obtain ⟨hP1, hK1, hD1⟩ := hB
    replace hw := hw.symm
    subst hw
    rw [ht] at hP1
    obtain ⟨hP, hD⟩ := va_join (wr := [cY h_Y h_O h_N h_B h_G h_K Y_lo Y_ie Y_ra Y_to Y_te Y_re, cL h_O k_O 8 O_f, cI h_N k_N 8 N_f, cI h_B k_B 8 B_f]) (w1 := []) hP hD [] [0, 1, 2, 3] rfl rfl (by decide) (by decide) hk1 hFc hP1 hD1
    generalize H1 = H at hP hS ⊢
    have hP := hP.sub (ws' := [cY h_Y h_O h_N h_B h_G h_K Y_lo Y_ie Y_ra Y_to Y_te Y_re, cL h_O k_O 8 O_f, cI h_N k_N 8 N_f, cI h_B k_B 8 B_f]) [0, 1, 2, 3] rfl
    have hD := hD.sub (ws' := [cY h_Y h_O h_N h_B h_G h_K Y_lo Y_ie Y_ra Y_to Y_te Y_re, cL h_O k_O 8 O_f, cI h_N k_N 8 N_f, cI h_B k_B 8 B_f]) [0, 1, 2, 3] (by decide) rfl
    refine lv_if_ne (tgt := 43) hx hb d_Y_remainder_11 (by decide) (fun c_11 => ?_) (fun c_11 => ?_)
    · replace hF := hif_f c_11 hF
      refine lv_iconst (v := (-1 : Int32)) hx hb d_Y_remainder_43 (by decide) ?_
      obtain rfl := Option.some.inj hF
      exact W.iret (v := (-1 : Int32)) hx hb hr (fun t ht hW => ⟨⟨(-1 : Int32), (), rfl, rfl, by rw [ht]; exact hP, va_K.moved hW.alike hK, hD⟩, hS.F ht⟩) hS.2.2 d_Y_remainder_44
    · replace hF := hif_t c_11 hF
      refine lv_iload_n hx hb d_Y_remainder_14 rfl (lv_at hl 3 rfl) ?_
      obtain ⟨q_15, hC_15, hF⟩ := hbd hF
      have hPc := hP.sub (ws' := []) [] rfl
      have hDc := hD.sub (ws' := []) [] (by decide) rfl
      have hKc := hK.sub (tys' := []) [] rfl
      have hFc := va_free (wc := []) hD hS hA [] rfl
      refine va_calli (va_runS (As := [.int a3]) (rest := []) ⟨hx, hb, hml, hown, hts⟩ (c_Y_out l dC dI H.size a3 q_15 hC_15) (cwS 1 hts g_Y_101_Y_out rfl rfl rfl (by decide +kernel) ⟨Nat.le_of_ble_eq_true rfl, Nat.le_of_ble_eq_true rfl⟩) ⟨fun a U g mk q => by obtain ⟨q0, q1, qP, qK, qD⟩ := q; exact ⟨q0, q1, qP, va_K.moved (u := U) (U := U.calling g mk a) (Vm.Alike.refl U.vm) qK, qD⟩, fun U hU hW => ⟨rfl, by rw [hU], by rw [hU]; exact hPc, va_K.moved hW.alike hKc, hDc.weaken (fun _ _ _ _ => trivial)⟩⟩ rfl rfl hl.1 rfl (lv_room (Nat.le_of_ble_eq_true rfl)) d_Y_remainder_15 ⟨Nat.zero_le _, Nat.zero_le _⟩) hS (fun q _ h => hFc q h) hFc (fun r u t H1 locs ht hvm hw hB hz1 hk1 hS => ?_)
      obtain ⟨hP1, hK1, hD1⟩ := hB
      replace hw := hw.symm
      subst hw
      rw [ht] at hP1
      obtain ⟨hP, hD⟩ := va_join (wr := [cY h_Y h_O h_N h_B h_G h_K Y_lo Y_ie Y_ra Y_to Y_te Y_re, cL h_O k_O 8 O_f, cI h_N k_N 8 N_f, cI h_B k_B 8 B_f]) (w1 := []) hP hD [] [0, 1, 2, 3] rfl rfl (by decide) (by decide) hk1 hFc hP1 hD1
      generalize H1 = H at hP hS ⊢
      have hP := hP.sub (ws' := [cY h_Y h_O h_N h_B h_G h_K Y_lo Y_ie Y_ra Y_to Y_te Y_re, cL h_O k_O 8 O_f, cI h_N k_N 8 N_f, cI h_B k_B 8 B_f]) [0, 1, 2, 3] rfl
      have hD := hD.sub (ws' := [cY h_Y h_O h_N h_B h_G h_K Y_lo Y_ie Y_ra Y_to Y_te Y_re, cL h_O k_O 8 O_f, cI h_N k_N 8 N_f, cI h_B k_B 8 B_f]) [0, 1, 2, 3] (by decide) rfl
      refine lv_if_ne (tgt := 43) hx hb d_Y_remainder_18 (by decide) (fun c_18 => ?_) (fun c_18 => ?_)
      · replace hF := hif_f c_18 hF
        refine lv_iconst (v := (-1 : Int32)) hx hb d_Y_remainder_43 (by decide) ?_
        obtain rfl := Option.some.inj hF
        exact W.iret (v := (-1 : Int32)) hx hb hr (fun t ht hW => ⟨⟨(-1 : Int32), (), rfl, rfl, by rw [ht]; exact hP, va_K.moved hW.alike hK, hD⟩, hS.F ht⟩) hS.2.2 d_Y_remainder_44
      · replace hF := hif_t c_18 hF
        refine lv_aload_n hx hb d_Y_remainder_21 rfl (lv_at hl 0 rfl) ?_
        refine va_get (D := (dC, dI)) (ci := 2) (v := .ref h_O) (C := "RoundedNumbersModel") (T := F_Y) (N := 11) hx hb hts in_Y hown hK hP 0 rfl rfl 0 (by decide) (hts _ tw_314) (fun _ h9 => h9) rfl d_Y_remainder_22 ?_
        refine lv_iload_n hx hb d_Y_remainder_25 rfl (lv_at hl 3 rfl) ?_
        have c_26 : ¬ (a3 < 0 ∨ 8 ≤ a3.toNatClampNeg) := hif_n hF
        replace hF := hif_f c_26 hF
        refine va_lald hx hb hK hP 1 0 rfl rfl c_26 d_Y_remainder_26 ?_
        refine lv_lconst (v := (0 : Int64)) hx hb d_Y_remainder_27 (by decide) ?_
        refine W.lcmp hx hb d_Y_remainder_28 ?_
        refine lv_if_eq (tgt := 43) hx hb d_Y_remainder_29 (by decide) (fun c_29 => ?_) (fun c_29 => ?_)
        · replace hF := hif_t c_29 hF
          refine lv_iconst (v := (-1 : Int32)) hx hb d_Y_remainder_43 (by decide) ?_
          obtain rfl := Option.some.inj hF
          exact W.iret (v := (-1 : Int32)) hx hb hr (fun t ht hW => ⟨⟨(-1 : Int32), (), rfl, rfl, by rw [ht]; exact hP, va_K.moved hW.alike hK, hD⟩, hS.F ht⟩) hS.2.2 d_Y_remainder_44
        · replace hF := hif_f c_29 hF
          refine lv_aload_n hx hb d_Y_remainder_32 rfl (lv_at hl 0 rfl) ?_
          refine lv_iload_n hx hb d_Y_remainder_33 rfl (lv_at hl 2 rfl) ?_
          refine lv_iload_n hx hb d_Y_remainder_34 rfl (lv_at hl 3 rfl) ?_
          refine lv_bipush (v := (60 : Int32)) hx hb d_Y_remainder_35 (by decide) ?_
          obtain ⟨q_37, hC_37, hF⟩ := hbd hF
          have hPc := hP.sub (ws' := [cY h_Y h_O h_N h_B h_G h_K Y_lo Y_ie Y_ra Y_to Y_te Y_re, cL h_O k_O 8 O_f, cI h_N k_N 8 N_f]) [0, 1, 2] rfl
          have hDc := hD.sub (ws' := [cY h_Y h_O h_N h_B h_G h_K Y_lo Y_ie Y_ra Y_to Y_te Y_re, cL h_O k_O 8 O_f, cI h_N k_N 8 N_f]) [0, 1, 2] (by decide) rfl
          have hKc := hK.sub (tys' := [(k_O, .long), (k_N, .int)]) [0, 1] rfl
          have hFc := va_free (wc := [cY h_Y h_O h_N h_B h_G h_K Y_lo Y_ie Y_ra Y_to Y_te Y_re, cL h_O k_O 8 O_f, cI h_N k_N 8 N_f]) hD hS hA [0, 1, 2] rfl
          refine va_calli (va_runV (As := [.int a2, .int a3, .int (60 : Int32)]) (rest := []) ⟨hx, hb, hml, hown, hts⟩ (c_Y_compareSizes l dC dI h_Y h_O h_N h_B h_G h_K k_O k_N H.size Y_lo Y_ie Y_ra Y_to Y_te Y_re O_f N_f a2 a3 (60 : Int32) q_37 hC_37) (cwV 3 hts g_Y_144_Y_compareSizes rfl rfl rfl (by decide +kernel) ⟨Nat.le_of_ble_eq_true rfl, Nat.le_of_ble_eq_true rfl⟩) ⟨fun a U g mk q => by obtain ⟨q0, q1, qP, qK, qD⟩ := q; exact ⟨q0, q1, qP, va_K.moved (u := U) (U := U.calling g mk a) (Vm.Alike.refl U.vm) qK, qD⟩, va_recv hKc hPc (ci := 2) (q0 := 0) rfl rfl, fun U hU hW => ⟨rfl, by rw [hU], by rw [hU]; exact hPc, va_K.moved hW.alike hKc, hDc.weaken (fun _ _ _ _ => trivial)⟩⟩ rfl rfl hl.1 rfl (lv_room (Nat.le_of_ble_eq_true rfl)) d_Y_remainder_37 ⟨Nat.zero_le _, Nat.zero_le _⟩) hS (fun q _ h => hFc q h) hFc (fun r u t H1 locs ht hvm hw hB hz1 hk1 hS => ?_)
          obtain ⟨hP1, hK1, hD1⟩ := hB
          replace hw := hw.symm
          subst hw
          rw [ht] at hP1
          obtain ⟨hP, hD⟩ := va_join (wr := [cI h_B k_B 8 B_f]) (w1 := [cY h_Y h_O h_N h_B h_G h_K Y_lo Y_ie Y_ra Y_to Y_te Y_re, cL h_O k_O 8 O_f, cI h_N k_N 8 N_f]) hP hD [0, 1, 2] [3] rfl rfl (by decide) (by decide) hk1 hFc hP1 hD1
          generalize H1 = H at hP hS ⊢
          have hP := hP.sub (ws' := [cY h_Y h_O h_N h_B h_G h_K Y_lo Y_ie Y_ra Y_to Y_te Y_re, cL h_O k_O 8 O_f, cI h_N k_N 8 N_f, cI h_B k_B 8 B_f]) [1, 2, 3, 0] rfl
          have hD := hD.sub (ws' := [cY h_Y h_O h_N h_B h_G h_K Y_lo Y_ie Y_ra Y_to Y_te Y_re, cL h_O k_O 8 O_f, cI h_N k_N 8 N_f, cI h_B k_B 8 B_f]) [1, 2, 3, 0] (by decide) rfl
          refine lv_if_lt (tgt := 45) hx hb d_Y_remainder_40 (by decide) (fun c_40 => ?_) (fun c_40 => ?_)
          · replace hF := hif_t c_40 hF
            refine lv_aload_n hx hb d_Y_remainder_45 rfl (lv_at hl 0 rfl) ?_
            refine lv_iload_n hx hb d_Y_remainder_46 rfl (lv_at hl 2 rfl) ?_
            refine lv_iload_n hx hb d_Y_remainder_47 rfl (lv_at hl 3 rfl) ?_
            refine lv_iconst (v := (0 : Int32)) hx hb d_Y_remainder_48 (by decide) ?_
            obtain ⟨q_49, hC_49, hF⟩ := hbd hF
            have hPc := hP.sub (ws' := [cY h_Y h_O h_N h_B h_G h_K Y_lo Y_ie Y_ra Y_to Y_te Y_re, cL h_O k_O 8 O_f, cI h_N k_N 8 N_f]) [0, 1, 2] rfl
            have hDc := hD.sub (ws' := [cY h_Y h_O h_N h_B h_G h_K Y_lo Y_ie Y_ra Y_to Y_te Y_re, cL h_O k_O 8 O_f, cI h_N k_N 8 N_f]) [0, 1, 2] (by decide) rfl
            have hKc := hK.sub (tys' := [(k_O, .long), (k_N, .int)]) [0, 1] rfl
            have hFc := va_free (wc := [cY h_Y h_O h_N h_B h_G h_K Y_lo Y_ie Y_ra Y_to Y_te Y_re, cL h_O k_O 8 O_f, cI h_N k_N 8 N_f]) hD hS hA [0, 1, 2] rfl
            refine va_calli (va_runV (As := [.int a2, .int a3, .int (0 : Int32)]) (rest := []) ⟨hx, hb, hml, hown, hts⟩ (c_Y_compareSizes l dC dI h_Y h_O h_N h_B h_G h_K k_O k_N H.size Y_lo Y_ie Y_ra Y_to Y_te Y_re O_f N_f a2 a3 (0 : Int32) q_49 hC_49) (cwV 3 hts g_Y_144_Y_compareSizes rfl rfl rfl (by decide +kernel) ⟨Nat.le_of_ble_eq_true rfl, Nat.le_of_ble_eq_true rfl⟩) ⟨fun a U g mk q => by obtain ⟨q0, q1, qP, qK, qD⟩ := q; exact ⟨q0, q1, qP, va_K.moved (u := U) (U := U.calling g mk a) (Vm.Alike.refl U.vm) qK, qD⟩, va_recv hKc hPc (ci := 2) (q0 := 0) rfl rfl, fun U hU hW => ⟨rfl, by rw [hU], by rw [hU]; exact hPc, va_K.moved hW.alike hKc, hDc.weaken (fun _ _ _ _ => trivial)⟩⟩ rfl rfl hl.1 rfl (lv_room (Nat.le_of_ble_eq_true rfl)) d_Y_remainder_49 ⟨Nat.zero_le _, Nat.zero_le _⟩) hS (fun q _ h => hFc q h) hFc (fun r u t H1 locs ht hvm hw hB hz1 hk1 hS => ?_)
            obtain ⟨hP1, hK1, hD1⟩ := hB
            replace hw := hw.symm
            subst hw
            rw [ht] at hP1
            obtain ⟨hP, hD⟩ := va_join (wr := [cI h_B k_B 8 B_f]) (w1 := [cY h_Y h_O h_N h_B h_G h_K Y_lo Y_ie Y_ra Y_to Y_te Y_re, cL h_O k_O 8 O_f, cI h_N k_N 8 N_f]) hP hD [0, 1, 2] [3] rfl rfl (by decide) (by decide) hk1 hFc hP1 hD1
            generalize H1 = H at hP hS ⊢
            have hP := hP.sub (ws' := [cY h_Y h_O h_N h_B h_G h_K Y_lo Y_ie Y_ra Y_to Y_te Y_re, cL h_O k_O 8 O_f, cI h_N k_N 8 N_f, cI h_B k_B 8 B_f]) [1, 2, 3, 0] rfl
            have hD := hD.sub (ws' := [cY h_Y h_O h_N h_B h_G h_K Y_lo Y_ie Y_ra Y_to Y_te Y_re, cL h_O k_O 8 O_f, cI h_N k_N 8 N_f, cI h_B k_B 8 B_f]) [1, 2, 3, 0] (by decide) rfl
            refine lv_if_ge (tgt := 80) hx hb d_Y_remainder_52 (by decide) (fun c_52 => ?_) (fun c_52 => ?_)
            · replace hF := hif_t c_52 hF
              refine lv_aload_n hx hb d_Y_remainder_80 rfl (lv_at hl 0 rfl) ?_
              refine va_get (D := (dC, dI)) (ci := 2) (v := .ref h_N) (C := "RoundedNumbersModel") (T := F_Y) (N := 11) hx hb hts in_Y hown hK hP 0 rfl rfl 1 (by decide) (hts _ tw_315) (fun _ h9 => h9) rfl d_Y_remainder_81 ?_
              refine lv_iload_n hx hb d_Y_remainder_84 rfl (lv_at hl 2 rfl) ?_
              have c_85 : ¬ (a2 < 0 ∨ 8 ≤ a2.toNatClampNeg) := hif_n hF
              replace hF := hif_f c_85 hF
              refine va_iald hx hb hK hP 2 1 rfl rfl c_85 d_Y_remainder_85 ?_
              refine lv_aload_n hx hb d_Y_remainder_86 rfl (lv_at hl 0 rfl) ?_
              refine va_get (D := (dC, dI)) (ci := 2) (v := .ref h_N) (C := "RoundedNumbersModel") (T := F_Y) (N := 11) hx hb hts in_Y hown hK hP 0 rfl rfl 1 (by decide) (hts _ tw_315) (fun _ h9 => h9) rfl d_Y_remainder_87 ?_
              refine lv_iload_n hx hb d_Y_remainder_90 rfl (lv_at hl 3 rfl) ?_
              have c_91 : ¬ (a3 < 0 ∨ 8 ≤ a3.toNatClampNeg) := hif_n hF
              replace hF := hif_f c_91 hF
              refine va_iald hx hb hK hP 2 1 rfl rfl c_91 d_Y_remainder_91 ?_
              refine lv_isub hx hb d_Y_remainder_92 ?_
              refine lv_istore (lv' := [(4, .int ((N_f a2.toNatClampNeg) - (N_f a3.toNatClampNeg))), (0, .ref h_Y), (1, .int a1), (2, .int a2), (3, .int a3)]) hx hb d_Y_remainder_93 hl (by decide) rfl (fun ls hl => ?_)
              refine lv_iload hx hb d_Y_remainder_95 (lv_at hl 0 rfl) ?_
              refine lv_if_ge (tgt := 136) hx hb d_Y_remainder_97 (by decide) (fun c_97 => ?_) (fun c_97 => ?_)
              · replace hF := hif_t c_97 hF
                refine lv_aload_n hx hb d_Y_remainder_136 rfl (lv_at hl 1 rfl) ?_
                refine va_get (D := (dC, dI)) (ci := 2) (v := .ref h_O) (C := "RoundedNumbersModel") (T := F_Y) (N := 11) hx hb hts in_Y hown hK hP 0 rfl rfl 0 (by decide) (hts _ tw_314) (fun _ h9 => h9) rfl d_Y_remainder_137 ?_
                refine lv_iload_n hx hb d_Y_remainder_140 rfl (lv_at hl 3 rfl) ?_
                have c_141 : ¬ (a2 < 0 ∨ 8 ≤ a2.toNatClampNeg) := hif_n hF
                replace hF := hif_f c_141 hF
                refine va_lald hx hb hK hP 1 0 rfl rfl c_141 d_Y_remainder_141 ?_
                refine lv_aload_n hx hb d_Y_remainder_142 rfl (lv_at hl 1 rfl) ?_
                refine va_get (D := (dC, dI)) (ci := 2) (v := .ref h_O) (C := "RoundedNumbersModel") (T := F_Y) (N := 11) hx hb hts in_Y hown hK hP 0 rfl rfl 0 (by decide) (hts _ tw_314) (fun _ h9 => h9) rfl d_Y_remainder_143 ?_
                refine lv_iload_n hx hb d_Y_remainder_146 rfl (lv_at hl 4 rfl) ?_
                have c_147 : ¬ (a3 < 0 ∨ 8 ≤ a3.toNatClampNeg) := hif_n hF
                replace hF := hif_f c_147 hF
                refine va_lald hx hb hK hP 1 0 rfl rfl c_147 d_Y_remainder_147 ?_
                have c_148 : ¬ (O_f a3.toNatClampNeg) = 0 := hif_n hF
                replace hF := hif_f c_148 hF
                refine lv_lrem hx hb d_Y_remainder_148 c_148 ?_
                refine lv_lstore (lv' := [(5, .long ((O_f a2.toNatClampNeg) - (O_f a2.toNatClampNeg) / (O_f a3.toNatClampNeg) * (O_f a3.toNatClampNeg))), (4, .int ((N_f a2.toNatClampNeg) - (N_f a3.toNatClampNeg))), (0, .ref h_Y), (1, .int a1), (2, .int a2), (3, .int a3)]) hx hb d_Y_remainder_149 hl (by decide) rfl (fun ls hl => ?_)
                refine lv_iconst (v := (0 : Int32)) hx hb d_Y_remainder_151 (by decide) ?_
                refine lv_istore (lv' := [(7, .int (0 : Int32)), (5, .long ((O_f a2.toNatClampNeg) - (O_f a2.toNatClampNeg) / (O_f a3.toNatClampNeg) * (O_f a3.toNatClampNeg))), (4, .int ((N_f a2.toNatClampNeg) - (N_f a3.toNatClampNeg))), (0, .ref h_Y), (1, .int a1), (2, .int a2), (3, .int a3)]) hx hb d_Y_remainder_152 hl (by decide) rfl (fun ls hl => ?_)
                exact b_154 1000 a1 a2 a3 ((N_f a2.toNatClampNeg) - (N_f a3.toNatClampNeg)) ((O_f a2.toNatClampNeg) - (O_f a2.toNatClampNeg) / (O_f a3.toNatClampNeg) * (O_f a3.toNatClampNeg)) (0 : Int32) Y_lo Y_ie Y_ra O_f N_f B_f Y_to Y_te Y_re _ _ _ hP hD hS (lv_sub hl [3, 4, 5, 6, 2, 1, 0] rfl) hF
              · replace hF := hif_f c_97 hF
                refine lv_aload_n hx hb d_Y_remainder_100 rfl (lv_at hl 1 rfl) ?_
                refine lv_iload_n hx hb d_Y_remainder_101 rfl (lv_at hl 2 rfl) ?_
                refine lv_aload_n hx hb d_Y_remainder_102 rfl (lv_at hl 1 rfl) ?_
                refine va_get (D := (dC, dI)) (ci := 2) (v := .ref h_B) (C := "RoundedNumbersModel") (T := F_Y) (N := 11) hx hb hts in_Y hown hK hP 0 rfl rfl 2 (by decide) (hts _ tw_316) (fun _ h9 => h9) rfl d_Y_remainder_103 ?_
                refine lv_iload_n hx hb d_Y_remainder_106 rfl (lv_at hl 3 rfl) ?_
                have c_107 : ¬ (a2 < 0 ∨ 8 ≤ a2.toNatClampNeg) := hif_n hF
                replace hF := hif_f c_107 hF
                refine va_zald hx hb hK hP 3 2 rfl rfl c_107 d_Y_remainder_107 ?_
                refine lv_aload_n hx hb d_Y_remainder_108 rfl (lv_at hl 1 rfl) ?_
                refine va_get (D := (dC, dI)) (ci := 2) (v := .ref h_O) (C := "RoundedNumbersModel") (T := F_Y) (N := 11) hx hb hts in_Y hown hK hP 0 rfl rfl 0 (by decide) (hts _ tw_314) (fun _ h9 => h9) rfl d_Y_remainder_109 ?_
                refine lv_iload_n hx hb d_Y_remainder_112 rfl (lv_at hl 3 rfl) ?_
                have c_113 : ¬ (a2 < 0 ∨ 8 ≤ a2.toNatClampNeg) := hif_n hF
                replace hF := hif_f c_113 hF
                refine va_lald hx hb hK hP 1 0 rfl rfl c_113 d_Y_remainder_113 ?_
                refine lv_aload_n hx hb d_Y_remainder_114 rfl (lv_at hl 1 rfl) ?_
                refine va_get (D := (dC, dI)) (ci := 2) (v := .ref h_O) (C := "RoundedNumbersModel") (T := F_Y) (N := 11) hx hb hts in_Y hown hK hP 0 rfl rfl 0 (by decide) (hts _ tw_314) (fun _ h9 => h9) rfl d_Y_remainder_115 ?_
                refine lv_iload_n hx hb d_Y_remainder_118 rfl (lv_at hl 4 rfl) ?_
                have c_119 : ¬ (a3 < 0 ∨ 8 ≤ a3.toNatClampNeg) := hif_n hF
                replace hF := hif_f c_119 hF
                refine va_lald hx hb hK hP 1 0 rfl rfl c_119 d_Y_remainder_119 ?_
                refine lv_iload hx hb d_Y_remainder_120 (lv_at hl 0 rfl) ?_
                refine lv_ineg hx hb d_Y_remainder_122 ?_
                refine lv_lshl (v := (jshl (O_f a3.toNatClampNeg) (-((N_f a2.toNatClampNeg) - (N_f a3.toNatClampNeg))))) hx hb d_Y_remainder_123 rfl ?_
                have c_124 : ¬ (jshl (O_f a3.toNatClampNeg) (-((N_f a2.toNatClampNeg) - (N_f a3.toNatClampNeg)))) = 0 := hif_n hF
                replace hF := hif_f c_124 hF
                refine lv_lrem hx hb d_Y_remainder_124 c_124 ?_
                refine lv_aload_n hx hb d_Y_remainder_125 rfl (lv_at hl 1 rfl) ?_
                refine va_get (D := (dC, dI)) (ci := 2) (v := .ref h_N) (C := "RoundedNumbersModel") (T := F_Y) (N := 11) hx hb hts in_Y hown hK hP 0 rfl rfl 1 (by decide) (hts _ tw_315) (fun _ h9 => h9) rfl d_Y_remainder_126 ?_
                refine lv_iload_n hx hb d_Y_remainder_129 rfl (lv_at hl 3 rfl) ?_
                have c_130 : ¬ (a2 < 0 ∨ 8 ≤ a2.toNatClampNeg) := hif_n hF
                replace hF := hif_f c_130 hF
                refine va_iald hx hb hK hP 2 1 rfl rfl c_130 d_Y_remainder_130 ?_
                refine lv_iconst (v := (0 : Int32)) hx hb d_Y_remainder_131 (by decide) ?_
                obtain ⟨q_132, hC_132, hF⟩ := hbd hF
                have hPc := hP.sub (ws' := [cY h_Y h_O h_N h_B h_G h_K Y_lo Y_ie Y_ra Y_to Y_te Y_re, cL h_O k_O 8 O_f, cI h_N k_N 8 N_f, cI h_B k_B 8 B_f]) [0, 1, 2, 3] rfl
                have hDc := hD.sub (ws' := [cY h_Y h_O h_N h_B h_G h_K Y_lo Y_ie Y_ra Y_to Y_te Y_re, cL h_O k_O 8 O_f, cI h_N k_N 8 N_f, cI h_B k_B 8 B_f]) [0, 1, 2, 3] (by decide) rfl
                have hKc := hK.sub (tys' := [(k_O, .long), (k_N, .int), (k_B, .boolean)]) [0, 1, 2] rfl
                have hFc := va_free (wc := [cY h_Y h_O h_N h_B h_G h_K Y_lo Y_ie Y_ra Y_to Y_te Y_re, cL h_O k_O 8 O_f, cI h_N k_N 8 N_f, cI h_B k_B 8 B_f]) hD hS hA [0, 1, 2, 3] rfl
                refine va_calli (va_runV (As := [.int a1, .int (B_f a2.toNatClampNeg), .long ((O_f a2.toNatClampNeg) - (O_f a2.toNatClampNeg) / (jshl (O_f a3.toNatClampNeg) (-((N_f a2.toNatClampNeg) - (N_f a3.toNatClampNeg)))) * (jshl (O_f a3.toNatClampNeg) (-((N_f a2.toNatClampNeg) - (N_f a3.toNatClampNeg))))), .int (N_f a2.toNatClampNeg), .int (0 : Int32)]) (rest := []) ⟨hx, hb, hml, hown, hts⟩ (c_Y_finish l dC dI h_Y h_O h_N h_B h_G h_K k_O k_N k_B H.size Y_lo Y_ie Y_ra Y_to Y_te Y_re O_f N_f B_f a1 (B_f a2.toNatClampNeg) ((O_f a2.toNatClampNeg) - (O_f a2.toNatClampNeg) / (jshl (O_f a3.toNatClampNeg) (-((N_f a2.toNatClampNeg) - (N_f a3.toNatClampNeg)))) * (jshl (O_f a3.toNatClampNeg) (-((N_f a2.toNatClampNeg) - (N_f a3.toNatClampNeg))))) (N_f a2.toNatClampNeg) (0 : Int32) q_132 hC_132) (cwV 5 hts g_Y_64_Y_finish rfl rfl rfl (by decide +kernel) ⟨Nat.le_of_ble_eq_true rfl, Nat.le_of_ble_eq_true rfl⟩) ⟨fun a U g mk q => by obtain ⟨q0, q1, qP, qK, qD⟩ := q; exact ⟨q0, q1, qP, va_K.moved (u := U) (U := U.calling g mk a) (Vm.Alike.refl U.vm) qK, qD⟩, va_recv hKc hPc (ci := 2) (q0 := 0) rfl rfl, fun U hU hW => ⟨rfl, by rw [hU], by rw [hU]; exact hPc, va_K.moved hW.alike hKc, hDc.weaken (fun _ _ _ _ => trivial)⟩⟩ rfl rfl hl.1 rfl (lv_room (Nat.le_of_ble_eq_true rfl)) d_Y_remainder_132 ⟨Nat.zero_le _, Nat.zero_le _⟩) hS (fun q _ h => hFc q h) hFc (fun r u t H1 locs ht hvm hw hB hz1 hk1 hS => ?_)
                obtain ⟨hP1, hK1, hD1⟩ := hB
                replace hw := hw.symm
                subst hw
                rw [ht] at hP1
                obtain ⟨hP, hD⟩ := va_join (wr := []) (w1 := [cY h_Y h_O h_N h_B h_G h_K q_132.2.1 q_132.2.2.1 q_132.2.2.2.1 Y_to Y_te Y_re, cL h_O k_O 8 q_132.2.2.2.2.1, cI h_N k_N 8 q_132.2.2.2.2.2.1, cI h_B k_B 8 q_132.2.2.2.2.2.2]) hP hD [0, 1, 2, 3] [] rfl rfl (by decide) (by decide) hk1 hFc hP1 hD1
                generalize H1 = H at hP hS ⊢
                have hP := hP.sub (ws' := [cY h_Y h_O h_N h_B h_G h_K q_132.2.1 q_132.2.2.1 q_132.2.2.2.1 Y_to Y_te Y_re, cL h_O k_O 8 q_132.2.2.2.2.1, cI h_N k_N 8 q_132.2.2.2.2.2.1, cI h_B k_B 8 q_132.2.2.2.2.2.2]) [0, 1, 2, 3] rfl
                have hD := hD.sub (ws' := [cY h_Y h_O h_N h_B h_G h_K q_132.2.1 q_132.2.2.1 q_132.2.2.2.1 Y_to Y_te Y_re, cL h_O k_O 8 q_132.2.2.2.2.1, cI h_N k_N 8 q_132.2.2.2.2.2.1, cI h_B k_B 8 q_132.2.2.2.2.2.2]) [0, 1, 2, 3] (by decide) rfl
                obtain rfl := Option.some.inj hF
                exact W.iret (v := q_132.1) hx hb hr (fun t ht hW => ⟨⟨q_132.1, (), rfl, rfl, by rw [ht]; exact hP, va_K.moved hW.alike hK, hD⟩, hS.F ht⟩) hS.2.2 d_Y_remainder_135
            · replace hF := hif_f c_52 hF
              refine lv_aload_n hx hb d_Y_remainder_55 rfl (lv_at hl 0 rfl) ?_
              refine lv_iload_n hx hb d_Y_remainder_56 rfl (lv_at hl 1 rfl) ?_
              refine lv_aload_n hx hb d_Y_remainder_57 rfl (lv_at hl 0 rfl) ?_
              refine va_get (D := (dC, dI)) (ci := 2) (v := .ref h_B) (C := "RoundedNumbersModel") (T := F_Y) (N := 11) hx hb hts in_Y hown hK hP 0 rfl rfl 2 (by decide) (hts _ tw_316) (fun _ h9 => h9) rfl d_Y_remainder_58 ?_
              refine lv_iload_n hx hb d_Y_remainder_61 rfl (lv_at hl 2 rfl) ?_
              have c_62 : ¬ (a2 < 0 ∨ 8 ≤ a2.toNatClampNeg) := hif_n hF
              replace hF := hif_f c_62 hF
              refine va_zald hx hb hK hP 3 2 rfl rfl c_62 d_Y_remainder_62 ?_
              refine lv_aload_n hx hb d_Y_remainder_63 rfl (lv_at hl 0 rfl) ?_
              refine va_get (D := (dC, dI)) (ci := 2) (v := .ref h_O) (C := "RoundedNumbersModel") (T := F_Y) (N := 11) hx hb hts in_Y hown hK hP 0 rfl rfl 0 (by decide) (hts _ tw_314) (fun _ h9 => h9) rfl d_Y_remainder_64 ?_
              refine lv_iload_n hx hb d_Y_remainder_67 rfl (lv_at hl 2 rfl) ?_
              have c_68 : ¬ (a2 < 0 ∨ 8 ≤ a2.toNatClampNeg) := hif_n hF
              replace hF := hif_f c_68 hF
              refine va_lald hx hb hK hP 1 0 rfl rfl c_68 d_Y_remainder_68 ?_
              refine lv_aload_n hx hb d_Y_remainder_69 rfl (lv_at hl 0 rfl) ?_
              refine va_get (D := (dC, dI)) (ci := 2) (v := .ref h_N) (C := "RoundedNumbersModel") (T := F_Y) (N := 11) hx hb hts in_Y hown hK hP 0 rfl rfl 1 (by decide) (hts _ tw_315) (fun _ h9 => h9) rfl d_Y_remainder_70 ?_
              refine lv_iload_n hx hb d_Y_remainder_73 rfl (lv_at hl 2 rfl) ?_
              have c_74 : ¬ (a2 < 0 ∨ 8 ≤ a2.toNatClampNeg) := hif_n hF
              replace hF := hif_f c_74 hF
              refine va_iald hx hb hK hP 2 1 rfl rfl c_74 d_Y_remainder_74 ?_
              refine lv_iconst (v := (0 : Int32)) hx hb d_Y_remainder_75 (by decide) ?_
              obtain ⟨q_76, hC_76, hF⟩ := hbd hF
              have hPc := hP.sub (ws' := [cY h_Y h_O h_N h_B h_G h_K Y_lo Y_ie Y_ra Y_to Y_te Y_re, cL h_O k_O 8 O_f, cI h_N k_N 8 N_f, cI h_B k_B 8 B_f]) [0, 1, 2, 3] rfl
              have hDc := hD.sub (ws' := [cY h_Y h_O h_N h_B h_G h_K Y_lo Y_ie Y_ra Y_to Y_te Y_re, cL h_O k_O 8 O_f, cI h_N k_N 8 N_f, cI h_B k_B 8 B_f]) [0, 1, 2, 3] (by decide) rfl
              have hKc := hK.sub (tys' := [(k_O, .long), (k_N, .int), (k_B, .boolean)]) [0, 1, 2] rfl
              have hFc := va_free (wc := [cY h_Y h_O h_N h_B h_G h_K Y_lo Y_ie Y_ra Y_to Y_te Y_re, cL h_O k_O 8 O_f, cI h_N k_N 8 N_f, cI h_B k_B 8 B_f]) hD hS hA [0, 1, 2, 3] rfl
              refine va_calli (va_runV (As := [.int a1, .int (B_f a2.toNatClampNeg), .long (O_f a2.toNatClampNeg), .int (N_f a2.toNatClampNeg), .int (0 : Int32)]) (rest := []) ⟨hx, hb, hml, hown, hts⟩ (c_Y_finish l dC dI h_Y h_O h_N h_B h_G h_K k_O k_N k_B H.size Y_lo Y_ie Y_ra Y_to Y_te Y_re O_f N_f B_f a1 (B_f a2.toNatClampNeg) (O_f a2.toNatClampNeg) (N_f a2.toNatClampNeg) (0 : Int32) q_76 hC_76) (cwV 5 hts g_Y_64_Y_finish rfl rfl rfl (by decide +kernel) ⟨Nat.le_of_ble_eq_true rfl, Nat.le_of_ble_eq_true rfl⟩) ⟨fun a U g mk q => by obtain ⟨q0, q1, qP, qK, qD⟩ := q; exact ⟨q0, q1, qP, va_K.moved (u := U) (U := U.calling g mk a) (Vm.Alike.refl U.vm) qK, qD⟩, va_recv hKc hPc (ci := 2) (q0 := 0) rfl rfl, fun U hU hW => ⟨rfl, by rw [hU], by rw [hU]; exact hPc, va_K.moved hW.alike hKc, hDc.weaken (fun _ _ _ _ => trivial)⟩⟩ rfl rfl hl.1 rfl (lv_room (Nat.le_of_ble_eq_true rfl)) d_Y_remainder_76 ⟨Nat.zero_le _, Nat.zero_le _⟩) hS (fun q _ h => hFc q h) hFc (fun r u t H1 locs ht hvm hw hB hz1 hk1 hS => ?_)
              obtain ⟨hP1, hK1, hD1⟩ := hB
              replace hw := hw.symm
              subst hw
              rw [ht] at hP1
              obtain ⟨hP, hD⟩ := va_join (wr := []) (w1 := [cY h_Y h_O h_N h_B h_G h_K q_76.2.1 q_76.2.2.1 q_76.2.2.2.1 Y_to Y_te Y_re, cL h_O k_O 8 q_76.2.2.2.2.1, cI h_N k_N 8 q_76.2.2.2.2.2.1, cI h_B k_B 8 q_76.2.2.2.2.2.2]) hP hD [0, 1, 2, 3] [] rfl rfl (by decide) (by decide) hk1 hFc hP1 hD1
              generalize H1 = H at hP hS ⊢
              have hP := hP.sub (ws' := [cY h_Y h_O h_N h_B h_G h_K q_76.2.1 q_76.2.2.1 q_76.2.2.2.1 Y_to Y_te Y_re, cL h_O k_O 8 q_76.2.2.2.2.1, cI h_N k_N 8 q_76.2.2.2.2.2.1, cI h_B k_B 8 q_76.2.2.2.2.2.2]) [0, 1, 2, 3] rfl
              have hD := hD.sub (ws' := [cY h_Y h_O h_N h_B h_G h_K q_76.2.1 q_76.2.2.1 q_76.2.2.2.1 Y_to Y_te Y_re, cL h_O k_O 8 q_76.2.2.2.2.1, cI h_N k_N 8 q_76.2.2.2.2.2.1, cI h_B k_B 8 q_76.2.2.2.2.2.2]) [0, 1, 2, 3] (by decide) rfl
              obtain rfl := Option.some.inj hF
              exact W.iret (v := q_76.1) hx hb hr (fun t ht hW => ⟨⟨q_76.1, (), rfl, rfl, by rw [ht]; exact hP, va_K.moved hW.alike hK, hD⟩, hS.F ht⟩) hS.2.2 d_Y_remainder_79
          · replace hF := hif_f c_40 hF
            refine lv_iconst (v := (-1 : Int32)) hx hb d_Y_remainder_43 (by decide) ?_
            obtain rfl := Option.some.inj hF
            exact W.iret (v := (-1 : Int32)) hx hb hr (fun t ht hW => ⟨⟨(-1 : Int32), (), rfl, rfl, by rw [ht]; exact hP, va_K.moved hW.alike hK, hD⟩, hS.F ht⟩) hS.2.2 d_Y_remainder_44
set_option maxHeartbeats 4000000 in
set_option maxRecDepth 100000 in
theorem c_Y_copy (l : Launch) (dC : Nat → ClassId) (dI : Nat → Nat → Nat) (h_Y : Nat) (h_O : Nat) (h_N : Nat) (h_B : Nat) (h_G : Nat) (h_K : Nat) (k_O : ClassId) (k_N : ClassId) (k_B : ClassId) (sz : Nat) (Y_lo : Int32) (Y_ie : Int32) (Y_ra : Int32) (Y_to : Int64) (Y_te : Int32) (Y_re : Int32) (O_f : Nat → Int64) (N_f : Nat → Int32) (B_f : Nat → Int32) (a1 : Int32) (a2 : Int32) (a3 : Int32) (o : Int32 × Int32 × Int32 × Int32 × Int64 × Int32 × Int32 × (Nat → Int64) × (Nat → Int32) × (Nat → Int32)) (hF : f_Y_copy Y_lo Y_ie Y_ra Y_to Y_te Y_re O_f N_f B_f a1 a2 a3 = some o) : Met l y_Y_copy w_Y_copy ({ frames := 4, cells := 0, slots := 0, locals := 104 } : Room) (va_Pc [.ref h_Y, .int a1, .int a2, .int a3] (fun U => U.heap.size = sz ∧ va_P (dC, dI) classes [cY h_Y h_O h_N h_B h_G h_K Y_lo Y_ie Y_ra Y_to Y_te Y_re, cL h_O k_O 8 O_f, cI h_N k_N 8 N_f, cI h_B k_B 8 B_f] U.heap ∧ va_K (dC, dI) classes [(k_O, .long), (k_N, .int), (k_B, .boolean)] U ∧ va_D (fun _ => True) [cY h_Y h_O h_N h_B h_G h_K Y_lo Y_ie Y_ra Y_to Y_te Y_re, cL h_O k_O 8 O_f, cI h_N k_N 8 N_f, cI h_B k_B 8 B_f])) (va_Qi (fun (r : Int32) (_ : Unit) => r = o.1) (fun (_ : Unit) (t : State) => va_P (dC, dI) classes [cY h_Y h_O h_N h_B h_G h_K o.2.1 o.2.2.1 o.2.2.2.1 o.2.2.2.2.1 o.2.2.2.2.2.1 o.2.2.2.2.2.2.1, cL h_O k_O 8 o.2.2.2.2.2.2.2.1, cI h_N k_N 8 o.2.2.2.2.2.2.2.2.1, cI h_B k_B 8 o.2.2.2.2.2.2.2.2.2] t.heap ∧ va_K (dC, dI) classes [(k_O, .long), (k_N, .int), (k_B, .boolean)] t ∧ va_D (va_A [cY h_Y h_O h_N h_B h_G h_K Y_lo Y_ie Y_ra Y_to Y_te Y_re, cL h_O k_O 8 O_f, cI h_N k_N 8 N_f, cI h_B k_B 8 B_f] sz) [cY h_Y h_O h_N h_B h_G h_K o.2.1 o.2.2.1 o.2.2.2.1 o.2.2.2.2.1 o.2.2.2.2.2.1 o.2.2.2.2.2.2.1, cL h_O k_O 8 o.2.2.2.2.2.2.2.1, cI h_N k_N 8 o.2.2.2.2.2.2.2.2.1, cI h_B k_B 8 o.2.2.2.2.2.2.2.2.2]) (va_A [cY h_Y h_O h_N h_B h_G h_K Y_lo Y_ie Y_ra Y_to Y_te Y_re, cL h_O k_O 8 O_f, cI h_N k_N 8 N_f, cI h_B k_B 8 B_f] sz)) 0 0 (va_A [cY h_Y h_O h_N h_B h_G h_K Y_lo Y_ie Y_ra Y_to Y_te Y_re, cL h_O k_O 8 O_f, cI h_N k_N 8 N_f, cI h_B k_B 8 B_f] sz) := by
  refine Met.ofW (cc := prog_4_method_32_code) (maxL := 4) (ret := (some .int)) (by decide) rfl ?_
  intro p e s m args below meth c s₁ B hml hv
  obtain ⟨rfl, hsz, hP, hK, hD0⟩ := hv
  have hx := B.exec
  have hb := B.bytes
  have hr := B.returns
  have hts0 := atoms_spec (ws := w_Y_copy) B.pre
  have hts : ∀ w ∈ tb, w.before _ s = true := fun w h => hts0 w (List.mem_cons_of_mem _ h)
  clear hts0
  have hown : s.vm.findClass "RoundedNumbersModel" = some m.cls := findClass_of_methodNamed B.named
  have hlocks := B.notSynchronized
  subst hsz
  have hD := hD0.self (sz := s.heap.size)
  generalize hAe : va_A [cY h_Y h_O h_N h_B h_G h_K Y_lo Y_ie Y_ra Y_to Y_te Y_re, cL h_O k_O 8 O_f, cI h_N k_N 8 N_f, cI h_B k_B 8 B_f] s.heap.size = A at hD ⊢
  have hA : ∀ q : Nat, s.heap.size ≤ q → A q := fun q h => by rw [← hAe]; exact Or.inr h
  clear hAe
  have hS : va_S A s.heap s.heap [] := va_S.rf
  have hP : va_P (dC, dI) classes [cY h_Y h_O h_N h_B h_G h_K Y_lo Y_ie Y_ra Y_to Y_te Y_re, cL h_O k_O 8 O_f, cI h_N k_N 8 N_f, cI h_B k_B 8 B_f] s.heap := hP
  have hl := lv_entry ([.ref h_Y, .int a1, .int a2, .int a3]) (n := 4) (Nat.le_of_ble_eq_true rfl)
  rw [lg_entry_eq]
  generalize (lg_sl ([.ref h_Y, .int a1, .int a2, .int a3]) ++ List.replicate (4 - (lg_sl ([.ref h_Y, .int a1, .int a2, .int a3])).length) Slot.unset).toArray = ls at hl ⊢
  have hl : lv_has ls 4 [(0, .ref h_Y), (1, .int a1), (2, .int a2), (3, .int a3)] := hl
  unfold f_Y_copy at hF
  refine lv_iload_n hx hb d_Y_copy_0 rfl (lv_at hl 1 rfl) ?_
  obtain ⟨q_1, hC_1, hF⟩ := hbd hF
  have hPc := hP.sub (ws' := []) [] rfl
  have hDc := hD.sub (ws' := []) [] (by decide) rfl
  have hKc := hK.sub (tys' := []) [] rfl
  have hFc := va_free (wc := []) hD hS hA [] rfl
  refine va_calli (va_runS (As := [.int a1]) (rest := []) ⟨hx, hb, hml, hown, hts⟩ (c_Y_out l dC dI s.heap.size a1 q_1 hC_1) (cwS 1 hts g_Y_101_Y_out rfl rfl rfl (by decide +kernel) ⟨Nat.le_of_ble_eq_true rfl, Nat.le_of_ble_eq_true rfl⟩) ⟨fun a U g mk q => by obtain ⟨q0, q1, qP, qK, qD⟩ := q; exact ⟨q0, q1, qP, va_K.moved (u := U) (U := U.calling g mk a) (Vm.Alike.refl U.vm) qK, qD⟩, fun U hU hW => ⟨rfl, by rw [hU], by rw [hU]; exact hPc, va_K.moved hW.alike hKc, hDc.weaken (fun _ _ _ _ => trivial)⟩⟩ rfl rfl hl.1 rfl (lv_room (Nat.le_of_ble_eq_true rfl)) d_Y_copy_1 ⟨Nat.zero_le _, Nat.zero_le _⟩) hS (fun q _ h => hFc q h) hFc (fun r u t H1 locs ht hvm hw hB hz1 hk1 hS => ?_)
  obtain ⟨hP1, hK1, hD1⟩ := hB
  replace hw := hw.symm
  subst hw
  rw [ht] at hP1
  obtain ⟨hP, hD⟩ := va_join (wr := [cY h_Y h_O h_N h_B h_G h_K Y_lo Y_ie Y_ra Y_to Y_te Y_re, cL h_O k_O 8 O_f, cI h_N k_N 8 N_f, cI h_B k_B 8 B_f]) (w1 := []) hP hD [] [0, 1, 2, 3] rfl rfl (by decide) (by decide) hk1 hFc hP1 hD1
  generalize H1 = H at hP hS ⊢
  have hP := hP.sub (ws' := [cY h_Y h_O h_N h_B h_G h_K Y_lo Y_ie Y_ra Y_to Y_te Y_re, cL h_O k_O 8 O_f, cI h_N k_N 8 N_f, cI h_B k_B 8 B_f]) [0, 1, 2, 3] rfl
  have hD := hD.sub (ws' := [cY h_Y h_O h_N h_B h_G h_K Y_lo Y_ie Y_ra Y_to Y_te Y_re, cL h_O k_O 8 O_f, cI h_N k_N 8 N_f, cI h_B k_B 8 B_f]) [0, 1, 2, 3] (by decide) rfl
  refine lv_if_ne (tgt := 14) hx hb d_Y_copy_4 (by decide) (fun c_4 => ?_) (fun c_4 => ?_)
  · replace hF := hif_f c_4 hF
    refine lv_iconst (v := (-1 : Int32)) hx hb d_Y_copy_14 (by decide) ?_
    obtain rfl := Option.some.inj hF
    exact W.iret (v := (-1 : Int32)) hx hb hr (fun t ht hW => ⟨⟨(-1 : Int32), (), rfl, rfl, by rw [ht]; exact hP, va_K.moved hW.alike hK, hD⟩, hS.F ht⟩) hS.2.2 d_Y_copy_15
  · replace hF := hif_t c_4 hF
    refine lv_iload_n hx hb d_Y_copy_7 rfl (lv_at hl 2 rfl) ?_
    obtain ⟨q_8, hC_8, hF⟩ := hbd hF
    have hPc := hP.sub (ws' := []) [] rfl
    have hDc := hD.sub (ws' := []) [] (by decide) rfl
    have hKc := hK.sub (tys' := []) [] rfl
    have hFc := va_free (wc := []) hD hS hA [] rfl
    refine va_calli (va_runS (As := [.int a2]) (rest := []) ⟨hx, hb, hml, hown, hts⟩ (c_Y_out l dC dI H.size a2 q_8 hC_8) (cwS 1 hts g_Y_101_Y_out rfl rfl rfl (by decide +kernel) ⟨Nat.le_of_ble_eq_true rfl, Nat.le_of_ble_eq_true rfl⟩) ⟨fun a U g mk q => by obtain ⟨q0, q1, qP, qK, qD⟩ := q; exact ⟨q0, q1, qP, va_K.moved (u := U) (U := U.calling g mk a) (Vm.Alike.refl U.vm) qK, qD⟩, fun U hU hW => ⟨rfl, by rw [hU], by rw [hU]; exact hPc, va_K.moved hW.alike hKc, hDc.weaken (fun _ _ _ _ => trivial)⟩⟩ rfl rfl hl.1 rfl (lv_room (Nat.le_of_ble_eq_true rfl)) d_Y_copy_8 ⟨Nat.zero_le _, Nat.zero_le _⟩) hS (fun q _ h => hFc q h) hFc (fun r u t H1 locs ht hvm hw hB hz1 hk1 hS => ?_)
    obtain ⟨hP1, hK1, hD1⟩ := hB
    replace hw := hw.symm
    subst hw
    rw [ht] at hP1
    obtain ⟨hP, hD⟩ := va_join (wr := [cY h_Y h_O h_N h_B h_G h_K Y_lo Y_ie Y_ra Y_to Y_te Y_re, cL h_O k_O 8 O_f, cI h_N k_N 8 N_f, cI h_B k_B 8 B_f]) (w1 := []) hP hD [] [0, 1, 2, 3] rfl rfl (by decide) (by decide) hk1 hFc hP1 hD1
    generalize H1 = H at hP hS ⊢
    have hP := hP.sub (ws' := [cY h_Y h_O h_N h_B h_G h_K Y_lo Y_ie Y_ra Y_to Y_te Y_re, cL h_O k_O 8 O_f, cI h_N k_N 8 N_f, cI h_B k_B 8 B_f]) [0, 1, 2, 3] rfl
    have hD := hD.sub (ws' := [cY h_Y h_O h_N h_B h_G h_K Y_lo Y_ie Y_ra Y_to Y_te Y_re, cL h_O k_O 8 O_f, cI h_N k_N 8 N_f, cI h_B k_B 8 B_f]) [0, 1, 2, 3] (by decide) rfl
    refine lv_if_eq (tgt := 16) hx hb d_Y_copy_11 (by decide) (fun c_11 => ?_) (fun c_11 => ?_)
    · replace hF := hif_t c_11 hF
      refine lv_aload_n hx hb d_Y_copy_16 rfl (lv_at hl 0 rfl) ?_
      refine lv_aload_n hx hb d_Y_copy_17 rfl (lv_at hl 0 rfl) ?_
      refine va_get (D := (dC, dI)) (ci := 2) (v := .ref h_O) (C := "RoundedNumbersModel") (T := F_Y) (N := 11) hx hb hts in_Y hown hK hP 0 rfl rfl 0 (by decide) (hts _ tw_314) (fun _ h9 => h9) rfl d_Y_copy_18 ?_
      refine lv_iload_n hx hb d_Y_copy_21 rfl (lv_at hl 2 rfl) ?_
      have c_22 : ¬ (a2 < 0 ∨ 8 ≤ a2.toNatClampNeg) := hif_n hF
      replace hF := hif_f c_22 hF
      refine va_lald hx hb hK hP 1 0 rfl rfl c_22 d_Y_copy_22 ?_
      refine va_put (D := (dC, dI)) (ci := 2) (v := .long (O_f a2.toNatClampNeg)) (ty := .long) (C := "RoundedNumbersModel") (T := F_Y) (N := 11) hx hb hts in_Y t_Y t_Y_ok n_Y hown hK hP hD hS 0 rfl rfl 8 (by decide) (hts _ tw_322) (fun _ h9 => h9) rfl (by decide +kernel) rfl rfl (Nat.le_of_ble_eq_true rfl) d_Y_copy_23 (fun H locs hP hD hS => ?_)
      have hP : va_P (dC, dI) classes [cY h_Y h_O h_N h_B h_G h_K Y_lo Y_ie Y_ra (O_f a2.toNatClampNeg) Y_te Y_re, cL h_O k_O 8 O_f, cI h_N k_N 8 N_f, cI h_B k_B 8 B_f] H := hP
      have hD : va_D A [cY h_Y h_O h_N h_B h_G h_K Y_lo Y_ie Y_ra (O_f a2.toNatClampNeg) Y_te Y_re, cL h_O k_O 8 O_f, cI h_N k_N 8 N_f, cI h_B k_B 8 B_f] := hD
      refine lv_aload_n hx hb d_Y_copy_26 rfl (lv_at hl 0 rfl) ?_
      refine lv_aload_n hx hb d_Y_copy_27 rfl (lv_at hl 0 rfl) ?_
      refine va_get (D := (dC, dI)) (ci := 2) (v := .ref h_N) (C := "RoundedNumbersModel") (T := F_Y) (N := 11) hx hb hts in_Y hown hK hP 0 rfl rfl 1 (by decide) (hts _ tw_315) (fun _ h9 => h9) rfl d_Y_copy_28 ?_
      refine lv_iload_n hx hb d_Y_copy_31 rfl (lv_at hl 2 rfl) ?_
      have c_32 : ¬ (a2 < 0 ∨ 8 ≤ a2.toNatClampNeg) := hif_n hF
      replace hF := hif_f c_32 hF
      refine va_iald hx hb hK hP 2 1 rfl rfl c_32 d_Y_copy_32 ?_
      refine va_put (D := (dC, dI)) (ci := 2) (v := .int (N_f a2.toNatClampNeg)) (ty := .int) (C := "RoundedNumbersModel") (T := F_Y) (N := 11) hx hb hts in_Y t_Y t_Y_ok n_Y hown hK hP hD hS 0 rfl rfl 9 (by decide) (hts _ tw_323) (fun _ h9 => h9) rfl (by decide +kernel) rfl rfl (Nat.le_of_ble_eq_true rfl) d_Y_copy_33 (fun H locs hP hD hS => ?_)
      have hP : va_P (dC, dI) classes [cY h_Y h_O h_N h_B h_G h_K Y_lo Y_ie Y_ra (O_f a2.toNatClampNeg) (N_f a2.toNatClampNeg) Y_re, cL h_O k_O 8 O_f, cI h_N k_N 8 N_f, cI h_B k_B 8 B_f] H := hP
      have hD : va_D A [cY h_Y h_O h_N h_B h_G h_K Y_lo Y_ie Y_ra (O_f a2.toNatClampNeg) (N_f a2.toNatClampNeg) Y_re, cL h_O k_O 8 O_f, cI h_N k_N 8 N_f, cI h_B k_B 8 B_f] := hD
      refine lv_aload_n hx hb d_Y_copy_36 rfl (lv_at hl 0 rfl) ?_
      refine lv_iconst (v := (0 : Int32)) hx hb d_Y_copy_37 (by decide) ?_
      refine va_put (D := (dC, dI)) (ci := 2) (v := .int (0 : Int32)) (ty := .boolean) (C := "RoundedNumbersModel") (T := F_Y) (N := 11) hx hb hts in_Y t_Y t_Y_ok n_Y hown hK hP hD hS 0 rfl rfl 10 (by decide) (hts _ tw_324) (fun _ h9 => h9) rfl (by decide +kernel) rfl rfl (Nat.le_of_ble_eq_true rfl) d_Y_copy_38 (fun H locs hP hD hS => ?_)
      have hP : va_P (dC, dI) classes [cY h_Y h_O h_N h_B h_G h_K Y_lo Y_ie Y_ra (O_f a2.toNatClampNeg) (N_f a2.toNatClampNeg) (0 : Int32), cL h_O k_O 8 O_f, cI h_N k_N 8 N_f, cI h_B k_B 8 B_f] H := hP
      have hD : va_D A [cY h_Y h_O h_N h_B h_G h_K Y_lo Y_ie Y_ra (O_f a2.toNatClampNeg) (N_f a2.toNatClampNeg) (0 : Int32), cL h_O k_O 8 O_f, cI h_N k_N 8 N_f, cI h_B k_B 8 B_f] := hD
      refine lv_aload_n hx hb d_Y_copy_41 rfl (lv_at hl 0 rfl) ?_
      refine lv_iload_n hx hb d_Y_copy_42 rfl (lv_at hl 1 rfl) ?_
      refine lv_aload_n hx hb d_Y_copy_43 rfl (lv_at hl 0 rfl) ?_
      refine va_get (D := (dC, dI)) (ci := 2) (v := .ref h_B) (C := "RoundedNumbersModel") (T := F_Y) (N := 11) hx hb hts in_Y hown hK hP 0 rfl rfl 2 (by decide) (hts _ tw_316) (fun _ h9 => h9) rfl d_Y_copy_44 ?_
      refine lv_iload_n hx hb d_Y_copy_47 rfl (lv_at hl 2 rfl) ?_
      have c_48 : ¬ (a2 < 0 ∨ 8 ≤ a2.toNatClampNeg) := hif_n hF
      replace hF := hif_f c_48 hF
      refine va_zald hx hb hK hP 3 2 rfl rfl c_48 d_Y_copy_48 ?_
      refine lv_iload_n hx hb d_Y_copy_49 rfl (lv_at hl 3 rfl) ?_
      obtain ⟨q_50, hC_50, hF⟩ := hbd hF
      have hPc := hP.sub (ws' := []) [] rfl
      have hDc := hD.sub (ws' := []) [] (by decide) rfl
      have hKc := hK.sub (tys' := []) [] rfl
      have hFc := va_free (wc := []) hD hS hA [] rfl
      refine va_calli (va_runS (As := [.int a3]) (rest := [.int (B_f a2.toNatClampNeg), .int a1, .ref h_Y]) ⟨hx, hb, hml, hown, hts⟩ (c_Y_size l dC dI H.size a3 q_50 hC_50) (cwS 1 hts g_Y_120_Y_size rfl rfl rfl (by decide +kernel) ⟨Nat.le_of_ble_eq_true rfl, Nat.le_of_ble_eq_true rfl⟩) ⟨fun a U g mk q => by obtain ⟨q0, q1, qP, qK, qD⟩ := q; exact ⟨q0, q1, qP, va_K.moved (u := U) (U := U.calling g mk a) (Vm.Alike.refl U.vm) qK, qD⟩, fun U hU hW => ⟨rfl, by rw [hU], by rw [hU]; exact hPc, va_K.moved hW.alike hKc, hDc.weaken (fun _ _ _ _ => trivial)⟩⟩ rfl rfl hl.1 rfl (lv_room (Nat.le_of_ble_eq_true rfl)) d_Y_copy_50 ⟨Nat.zero_le _, Nat.zero_le _⟩) hS (fun q _ h => hFc q h) hFc (fun r u t H1 locs ht hvm hw hB hz1 hk1 hS => ?_)
      obtain ⟨hP1, hK1, hD1⟩ := hB
      replace hw := hw.symm
      subst hw
      rw [ht] at hP1
      obtain ⟨hP, hD⟩ := va_join (wr := [cY h_Y h_O h_N h_B h_G h_K Y_lo Y_ie Y_ra (O_f a2.toNatClampNeg) (N_f a2.toNatClampNeg) (0 : Int32), cL h_O k_O 8 O_f, cI h_N k_N 8 N_f, cI h_B k_B 8 B_f]) (w1 := []) hP hD [] [0, 1, 2, 3] rfl rfl (by decide) (by decide) hk1 hFc hP1 hD1
      generalize H1 = H at hP hS ⊢
      have hP := hP.sub (ws' := [cY h_Y h_O h_N h_B h_G h_K Y_lo Y_ie Y_ra (O_f a2.toNatClampNeg) (N_f a2.toNatClampNeg) (0 : Int32), cL h_O k_O 8 O_f, cI h_N k_N 8 N_f, cI h_B k_B 8 B_f]) [0, 1, 2, 3] rfl
      have hD := hD.sub (ws' := [cY h_Y h_O h_N h_B h_G h_K Y_lo Y_ie Y_ra (O_f a2.toNatClampNeg) (N_f a2.toNatClampNeg) (0 : Int32), cL h_O k_O 8 O_f, cI h_N k_N 8 N_f, cI h_B k_B 8 B_f]) [0, 1, 2, 3] (by decide) rfl
      obtain ⟨q_53, hC_53, hF⟩ := hbd hF
      have hPc := hP.sub (ws' := [cY h_Y h_O h_N h_B h_G h_K Y_lo Y_ie Y_ra (O_f a2.toNatClampNeg) (N_f a2.toNatClampNeg) (0 : Int32), cL h_O k_O 8 O_f, cI h_N k_N 8 N_f, cI h_B k_B 8 B_f]) [0, 1, 2, 3] rfl
      have hDc := hD.sub (ws' := [cY h_Y h_O h_N h_B h_G h_K Y_lo Y_ie Y_ra (O_f a2.toNatClampNeg) (N_f a2.toNatClampNeg) (0 : Int32), cL h_O k_O 8 O_f, cI h_N k_N 8 N_f, cI h_B k_B 8 B_f]) [0, 1, 2, 3] (by decide) rfl
      have hKc := hK.sub (tys' := [(k_O, .long), (k_N, .int), (k_B, .boolean)]) [0, 1, 2] rfl
      have hFc := va_free (wc := [cY h_Y h_O h_N h_B h_G h_K Y_lo Y_ie Y_ra (O_f a2.toNatClampNeg) (N_f a2.toNatClampNeg) (0 : Int32), cL h_O k_O 8 O_f, cI h_N k_N 8 N_f, cI h_B k_B 8 B_f]) hD hS hA [0, 1, 2, 3] rfl
      refine va_calli (va_runV (As := [.int a1, .int (B_f a2.toNatClampNeg), .int q_50]) (rest := []) ⟨hx, hb, hml, hown, hts⟩ (c_Y_round l dC dI h_Y h_O h_N h_B h_G h_K k_O k_N k_B H.size Y_lo Y_ie Y_ra (O_f a2.toNatClampNeg) (N_f a2.toNatClampNeg) (0 : Int32) O_f N_f B_f a1 (B_f a2.toNatClampNeg) q_50 q_53 hC_53) (cwV 3 hts g_Y_97_Y_round rfl rfl rfl (by decide +kernel) ⟨Nat.le_of_ble_eq_true rfl, Nat.le_of_ble_eq_true rfl⟩) ⟨fun a U g mk q => by obtain ⟨q0, q1, qP, qK, qD⟩ := q; exact ⟨q0, q1, qP, va_K.moved (u := U) (U := U.calling g mk a) (Vm.Alike.refl U.vm) qK, qD⟩, va_recv hKc hPc (ci := 2) (q0 := 0) rfl rfl, fun U hU hW => ⟨rfl, by rw [hU], by rw [hU]; exact hPc, va_K.moved hW.alike hKc, hDc.weaken (fun _ _ _ _ => trivial)⟩⟩ rfl rfl hl.1 rfl (lv_room (Nat.le_of_ble_eq_true rfl)) d_Y_copy_53 ⟨Nat.zero_le _, Nat.zero_le _⟩) hS (fun q _ h => hFc q h) hFc (fun r u t H1 locs ht hvm hw hB hz1 hk1 hS => ?_)
      obtain ⟨hP1, hK1, hD1⟩ := hB
      replace hw := hw.symm
      subst hw
      rw [ht] at hP1
      obtain ⟨hP, hD⟩ := va_join (wr := []) (w1 := [cY h_Y h_O h_N h_B h_G h_K q_53.2.1 q_53.2.2.1 q_53.2.2.2.1 (O_f a2.toNatClampNeg) (N_f a2.toNatClampNeg) (0 : Int32), cL h_O k_O 8 q_53.2.2.2.2.1, cI h_N k_N 8 q_53.2.2.2.2.2.1, cI h_B k_B 8 q_53.2.2.2.2.2.2]) hP hD [0, 1, 2, 3] [] rfl rfl (by decide) (by decide) hk1 hFc hP1 hD1
      generalize H1 = H at hP hS ⊢
      have hP := hP.sub (ws' := [cY h_Y h_O h_N h_B h_G h_K q_53.2.1 q_53.2.2.1 q_53.2.2.2.1 (O_f a2.toNatClampNeg) (N_f a2.toNatClampNeg) (0 : Int32), cL h_O k_O 8 q_53.2.2.2.2.1, cI h_N k_N 8 q_53.2.2.2.2.2.1, cI h_B k_B 8 q_53.2.2.2.2.2.2]) [0, 1, 2, 3] rfl
      have hD := hD.sub (ws' := [cY h_Y h_O h_N h_B h_G h_K q_53.2.1 q_53.2.2.1 q_53.2.2.2.1 (O_f a2.toNatClampNeg) (N_f a2.toNatClampNeg) (0 : Int32), cL h_O k_O 8 q_53.2.2.2.2.1, cI h_N k_N 8 q_53.2.2.2.2.2.1, cI h_B k_B 8 q_53.2.2.2.2.2.2]) [0, 1, 2, 3] (by decide) rfl
      obtain rfl := Option.some.inj hF
      exact W.iret (v := q_53.1) hx hb hr (fun t ht hW => ⟨⟨q_53.1, (), rfl, rfl, by rw [ht]; exact hP, va_K.moved hW.alike hK, hD⟩, hS.F ht⟩) hS.2.2 d_Y_copy_56
    · replace hF := hif_f c_11 hF
      refine lv_iconst (v := (-1 : Int32)) hx hb d_Y_copy_14 (by decide) ?_
      obtain rfl := Option.some.inj hF
      exact W.iret (v := (-1 : Int32)) hx hb hr (fun t ht hW => ⟨⟨(-1 : Int32), (), rfl, rfl, by rw [ht]; exact hP, va_K.moved hW.alike hK, hD⟩, hS.F ht⟩) hS.2.2 d_Y_copy_15
set_option maxHeartbeats 4000000 in
set_option maxRecDepth 100000 in
theorem c_Y_scale (l : Launch) (dC : Nat → ClassId) (dI : Nat → Nat → Nat) (h_Y : Nat) (h_O : Nat) (h_N : Nat) (h_B : Nat) (h_G : Nat) (h_K : Nat) (k_O : ClassId) (k_N : ClassId) (k_B : ClassId) (sz : Nat) (Y_lo : Int32) (Y_ie : Int32) (Y_ra : Int32) (Y_to : Int64) (Y_te : Int32) (Y_re : Int32) (O_f : Nat → Int64) (N_f : Nat → Int32) (B_f : Nat → Int32) (a1 : Int32) (a2 : Int32) (a3 : Int32) (o : Int32 × Int32 × Int32 × Int32 × (Nat → Int64) × (Nat → Int32) × (Nat → Int32)) (hF : f_Y_scale Y_lo Y_ie Y_ra O_f N_f B_f a1 a2 a3 = some o) : Met l y_Y_scale w_Y_scale ({ frames := 3, cells := 0, slots := 0, locals := 73 } : Room) (va_Pc [.ref h_Y, .int a1, .int a2, .int a3] (fun U => U.heap.size = sz ∧ va_P (dC, dI) classes [cY h_Y h_O h_N h_B h_G h_K Y_lo Y_ie Y_ra Y_to Y_te Y_re, cL h_O k_O 8 O_f, cI h_N k_N 8 N_f, cI h_B k_B 8 B_f] U.heap ∧ va_K (dC, dI) classes [(k_O, .long), (k_N, .int), (k_B, .boolean)] U ∧ va_D (fun _ => True) [cY h_Y h_O h_N h_B h_G h_K Y_lo Y_ie Y_ra Y_to Y_te Y_re, cL h_O k_O 8 O_f, cI h_N k_N 8 N_f, cI h_B k_B 8 B_f])) (va_Qi (fun (r : Int32) (_ : Unit) => r = o.1) (fun (_ : Unit) (t : State) => va_P (dC, dI) classes [cY h_Y h_O h_N h_B h_G h_K o.2.1 o.2.2.1 o.2.2.2.1 Y_to Y_te Y_re, cL h_O k_O 8 o.2.2.2.2.1, cI h_N k_N 8 o.2.2.2.2.2.1, cI h_B k_B 8 o.2.2.2.2.2.2] t.heap ∧ va_K (dC, dI) classes [(k_O, .long), (k_N, .int), (k_B, .boolean)] t ∧ va_D (va_A [cY h_Y h_O h_N h_B h_G h_K Y_lo Y_ie Y_ra Y_to Y_te Y_re, cL h_O k_O 8 O_f, cI h_N k_N 8 N_f, cI h_B k_B 8 B_f] sz) [cY h_Y h_O h_N h_B h_G h_K o.2.1 o.2.2.1 o.2.2.2.1 Y_to Y_te Y_re, cL h_O k_O 8 o.2.2.2.2.1, cI h_N k_N 8 o.2.2.2.2.2.1, cI h_B k_B 8 o.2.2.2.2.2.2]) (va_A [cY h_Y h_O h_N h_B h_G h_K Y_lo Y_ie Y_ra Y_to Y_te Y_re, cL h_O k_O 8 O_f, cI h_N k_N 8 N_f, cI h_B k_B 8 B_f] sz)) 0 0 (va_A [cY h_Y h_O h_N h_B h_G h_K Y_lo Y_ie Y_ra Y_to Y_te Y_re, cL h_O k_O 8 O_f, cI h_N k_N 8 N_f, cI h_B k_B 8 B_f] sz) := by
  refine Met.ofW (cc := prog_4_method_33_code) (maxL := 4) (ret := (some .int)) (by decide) rfl ?_
  intro p e s m args below meth c s₁ B hml hv
  obtain ⟨rfl, hsz, hP, hK, hD0⟩ := hv
  have hx := B.exec
  have hb := B.bytes
  have hr := B.returns
  have hts0 := atoms_spec (ws := w_Y_scale) B.pre
  have hts : ∀ w ∈ tb, w.before _ s = true := fun w h => hts0 w (List.mem_cons_of_mem _ h)
  clear hts0
  have hown : s.vm.findClass "RoundedNumbersModel" = some m.cls := findClass_of_methodNamed B.named
  have hlocks := B.notSynchronized
  subst hsz
  have hD := hD0.self (sz := s.heap.size)
  generalize hAe : va_A [cY h_Y h_O h_N h_B h_G h_K Y_lo Y_ie Y_ra Y_to Y_te Y_re, cL h_O k_O 8 O_f, cI h_N k_N 8 N_f, cI h_B k_B 8 B_f] s.heap.size = A at hD ⊢
  have hA : ∀ q : Nat, s.heap.size ≤ q → A q := fun q h => by rw [← hAe]; exact Or.inr h
  clear hAe
  have hS : va_S A s.heap s.heap [] := va_S.rf
  have hP : va_P (dC, dI) classes [cY h_Y h_O h_N h_B h_G h_K Y_lo Y_ie Y_ra Y_to Y_te Y_re, cL h_O k_O 8 O_f, cI h_N k_N 8 N_f, cI h_B k_B 8 B_f] s.heap := hP
  have hl := lv_entry ([.ref h_Y, .int a1, .int a2, .int a3]) (n := 4) (Nat.le_of_ble_eq_true rfl)
  rw [lg_entry_eq]
  generalize (lg_sl ([.ref h_Y, .int a1, .int a2, .int a3]) ++ List.replicate (4 - (lg_sl ([.ref h_Y, .int a1, .int a2, .int a3])).length) Slot.unset).toArray = ls at hl ⊢
  have hl : lv_has ls 4 [(0, .ref h_Y), (1, .int a1), (2, .int a2), (3, .int a3)] := hl
  unfold f_Y_scale at hF
  refine lv_iload_n hx hb d_Y_scale_0 rfl (lv_at hl 1 rfl) ?_
  obtain ⟨q_1, hC_1, hF⟩ := hbd hF
  have hPc := hP.sub (ws' := []) [] rfl
  have hDc := hD.sub (ws' := []) [] (by decide) rfl
  have hKc := hK.sub (tys' := []) [] rfl
  have hFc := va_free (wc := []) hD hS hA [] rfl
  refine va_calli (va_runS (As := [.int a1]) (rest := []) ⟨hx, hb, hml, hown, hts⟩ (c_Y_out l dC dI s.heap.size a1 q_1 hC_1) (cwS 1 hts g_Y_101_Y_out rfl rfl rfl (by decide +kernel) ⟨Nat.le_of_ble_eq_true rfl, Nat.le_of_ble_eq_true rfl⟩) ⟨fun a U g mk q => by obtain ⟨q0, q1, qP, qK, qD⟩ := q; exact ⟨q0, q1, qP, va_K.moved (u := U) (U := U.calling g mk a) (Vm.Alike.refl U.vm) qK, qD⟩, fun U hU hW => ⟨rfl, by rw [hU], by rw [hU]; exact hPc, va_K.moved hW.alike hKc, hDc.weaken (fun _ _ _ _ => trivial)⟩⟩ rfl rfl hl.1 rfl (lv_room (Nat.le_of_ble_eq_true rfl)) d_Y_scale_1 ⟨Nat.zero_le _, Nat.zero_le _⟩) hS (fun q _ h => hFc q h) hFc (fun r u t H1 locs ht hvm hw hB hz1 hk1 hS => ?_)
  obtain ⟨hP1, hK1, hD1⟩ := hB
  replace hw := hw.symm
  subst hw
  rw [ht] at hP1
  obtain ⟨hP, hD⟩ := va_join (wr := [cY h_Y h_O h_N h_B h_G h_K Y_lo Y_ie Y_ra Y_to Y_te Y_re, cL h_O k_O 8 O_f, cI h_N k_N 8 N_f, cI h_B k_B 8 B_f]) (w1 := []) hP hD [] [0, 1, 2, 3] rfl rfl (by decide) (by decide) hk1 hFc hP1 hD1
  generalize H1 = H at hP hS ⊢
  have hP := hP.sub (ws' := [cY h_Y h_O h_N h_B h_G h_K Y_lo Y_ie Y_ra Y_to Y_te Y_re, cL h_O k_O 8 O_f, cI h_N k_N 8 N_f, cI h_B k_B 8 B_f]) [0, 1, 2, 3] rfl
  have hD := hD.sub (ws' := [cY h_Y h_O h_N h_B h_G h_K Y_lo Y_ie Y_ra Y_to Y_te Y_re, cL h_O k_O 8 O_f, cI h_N k_N 8 N_f, cI h_B k_B 8 B_f]) [0, 1, 2, 3] (by decide) rfl
  refine lv_if_ne (tgt := 28) hx hb d_Y_scale_4 (by decide) (fun c_4 => ?_) (fun c_4 => ?_)
  · replace hF := hif_f c_4 hF
    refine lv_iconst (v := (-1 : Int32)) hx hb d_Y_scale_28 (by decide) ?_
    obtain rfl := Option.some.inj hF
    exact W.iret (v := (-1 : Int32)) hx hb hr (fun t ht hW => ⟨⟨(-1 : Int32), (), rfl, rfl, by rw [ht]; exact hP, va_K.moved hW.alike hK, hD⟩, hS.F ht⟩) hS.2.2 d_Y_scale_29
  · replace hF := hif_t c_4 hF
    refine lv_iload_n hx hb d_Y_scale_7 rfl (lv_at hl 2 rfl) ?_
    obtain ⟨q_8, hC_8, hF⟩ := hbd hF
    have hPc := hP.sub (ws' := []) [] rfl
    have hDc := hD.sub (ws' := []) [] (by decide) rfl
    have hKc := hK.sub (tys' := []) [] rfl
    have hFc := va_free (wc := []) hD hS hA [] rfl
    refine va_calli (va_runS (As := [.int a2]) (rest := []) ⟨hx, hb, hml, hown, hts⟩ (c_Y_out l dC dI H.size a2 q_8 hC_8) (cwS 1 hts g_Y_101_Y_out rfl rfl rfl (by decide +kernel) ⟨Nat.le_of_ble_eq_true rfl, Nat.le_of_ble_eq_true rfl⟩) ⟨fun a U g mk q => by obtain ⟨q0, q1, qP, qK, qD⟩ := q; exact ⟨q0, q1, qP, va_K.moved (u := U) (U := U.calling g mk a) (Vm.Alike.refl U.vm) qK, qD⟩, fun U hU hW => ⟨rfl, by rw [hU], by rw [hU]; exact hPc, va_K.moved hW.alike hKc, hDc.weaken (fun _ _ _ _ => trivial)⟩⟩ rfl rfl hl.1 rfl (lv_room (Nat.le_of_ble_eq_true rfl)) d_Y_scale_8 ⟨Nat.zero_le _, Nat.zero_le _⟩) hS (fun q _ h => hFc q h) hFc (fun r u t H1 locs ht hvm hw hB hz1 hk1 hS => ?_)
    obtain ⟨hP1, hK1, hD1⟩ := hB
    replace hw := hw.symm
    subst hw
    rw [ht] at hP1
    obtain ⟨hP, hD⟩ := va_join (wr := [cY h_Y h_O h_N h_B h_G h_K Y_lo Y_ie Y_ra Y_to Y_te Y_re, cL h_O k_O 8 O_f, cI h_N k_N 8 N_f, cI h_B k_B 8 B_f]) (w1 := []) hP hD [] [0, 1, 2, 3] rfl rfl (by decide) (by decide) hk1 hFc hP1 hD1
    generalize H1 = H at hP hS ⊢
    have hP := hP.sub (ws' := [cY h_Y h_O h_N h_B h_G h_K Y_lo Y_ie Y_ra Y_to Y_te Y_re, cL h_O k_O 8 O_f, cI h_N k_N 8 N_f, cI h_B k_B 8 B_f]) [0, 1, 2, 3] rfl
    have hD := hD.sub (ws' := [cY h_Y h_O h_N h_B h_G h_K Y_lo Y_ie Y_ra Y_to Y_te Y_re, cL h_O k_O 8 O_f, cI h_N k_N 8 N_f, cI h_B k_B 8 B_f]) [0, 1, 2, 3] (by decide) rfl
    refine lv_if_ne (tgt := 28) hx hb d_Y_scale_11 (by decide) (fun c_11 => ?_) (fun c_11 => ?_)
    · replace hF := hif_f c_11 hF
      refine lv_iconst (v := (-1 : Int32)) hx hb d_Y_scale_28 (by decide) ?_
      obtain rfl := Option.some.inj hF
      exact W.iret (v := (-1 : Int32)) hx hb hr (fun t ht hW => ⟨⟨(-1 : Int32), (), rfl, rfl, by rw [ht]; exact hP, va_K.moved hW.alike hK, hD⟩, hS.F ht⟩) hS.2.2 d_Y_scale_29
    · replace hF := hif_t c_11 hF
      refine lv_iload_n hx hb d_Y_scale_14 rfl (lv_at hl 3 rfl) ?_
      refine lv_sipush (v := (-500 : Int32)) hx hb d_Y_scale_15 (by decide) ?_
      refine lv_icmp_lt (tgt := 28) hx hb d_Y_scale_18 (by decide) (fun c_18 => ?_) (fun c_18 => ?_)
      · replace hF := hif_t c_18 hF
        refine lv_iconst (v := (-1 : Int32)) hx hb d_Y_scale_28 (by decide) ?_
        obtain rfl := Option.some.inj hF
        exact W.iret (v := (-1 : Int32)) hx hb hr (fun t ht hW => ⟨⟨(-1 : Int32), (), rfl, rfl, by rw [ht]; exact hP, va_K.moved hW.alike hK, hD⟩, hS.F ht⟩) hS.2.2 d_Y_scale_29
      · replace hF := hif_f c_18 hF
        refine lv_iload_n hx hb d_Y_scale_21 rfl (lv_at hl 3 rfl) ?_
        refine lv_sipush (v := (500 : Int32)) hx hb d_Y_scale_22 (by decide) ?_
        refine lv_icmp_le (tgt := 30) hx hb d_Y_scale_25 (by decide) (fun c_25 => ?_) (fun c_25 => ?_)
        · replace hF := hif_t c_25 hF
          refine lv_aload_n hx hb d_Y_scale_30 rfl (lv_at hl 0 rfl) ?_
          refine lv_iload_n hx hb d_Y_scale_31 rfl (lv_at hl 1 rfl) ?_
          refine lv_aload_n hx hb d_Y_scale_32 rfl (lv_at hl 0 rfl) ?_
          refine va_get (D := (dC, dI)) (ci := 2) (v := .ref h_B) (C := "RoundedNumbersModel") (T := F_Y) (N := 11) hx hb hts in_Y hown hK hP 0 rfl rfl 2 (by decide) (hts _ tw_316) (fun _ h9 => h9) rfl d_Y_scale_33 ?_
          refine lv_iload_n hx hb d_Y_scale_36 rfl (lv_at hl 2 rfl) ?_
          have c_37 : ¬ (a2 < 0 ∨ 8 ≤ a2.toNatClampNeg) := hif_n hF
          replace hF := hif_f c_37 hF
          refine va_zald hx hb hK hP 3 2 rfl rfl c_37 d_Y_scale_37 ?_
          refine lv_aload_n hx hb d_Y_scale_38 rfl (lv_at hl 0 rfl) ?_
          refine va_get (D := (dC, dI)) (ci := 2) (v := .ref h_O) (C := "RoundedNumbersModel") (T := F_Y) (N := 11) hx hb hts in_Y hown hK hP 0 rfl rfl 0 (by decide) (hts _ tw_314) (fun _ h9 => h9) rfl d_Y_scale_39 ?_
          refine lv_iload_n hx hb d_Y_scale_42 rfl (lv_at hl 2 rfl) ?_
          have c_43 : ¬ (a2 < 0 ∨ 8 ≤ a2.toNatClampNeg) := hif_n hF
          replace hF := hif_f c_43 hF
          refine va_lald hx hb hK hP 1 0 rfl rfl c_43 d_Y_scale_43 ?_
          refine lv_aload_n hx hb d_Y_scale_44 rfl (lv_at hl 0 rfl) ?_
          refine va_get (D := (dC, dI)) (ci := 2) (v := .ref h_N) (C := "RoundedNumbersModel") (T := F_Y) (N := 11) hx hb hts in_Y hown hK hP 0 rfl rfl 1 (by decide) (hts _ tw_315) (fun _ h9 => h9) rfl d_Y_scale_45 ?_
          refine lv_iload_n hx hb d_Y_scale_48 rfl (lv_at hl 2 rfl) ?_
          have c_49 : ¬ (a2 < 0 ∨ 8 ≤ a2.toNatClampNeg) := hif_n hF
          replace hF := hif_f c_49 hF
          refine va_iald hx hb hK hP 2 1 rfl rfl c_49 d_Y_scale_49 ?_
          refine lv_iload_n hx hb d_Y_scale_50 rfl (lv_at hl 3 rfl) ?_
          refine lv_iadd hx hb d_Y_scale_51 ?_
          refine lv_iconst (v := (0 : Int32)) hx hb d_Y_scale_52 (by decide) ?_
          obtain ⟨q_53, hC_53, hF⟩ := hbd hF
          have hPc := hP.sub (ws' := [cY h_Y h_O h_N h_B h_G h_K Y_lo Y_ie Y_ra Y_to Y_te Y_re, cL h_O k_O 8 O_f, cI h_N k_N 8 N_f, cI h_B k_B 8 B_f]) [0, 1, 2, 3] rfl
          have hDc := hD.sub (ws' := [cY h_Y h_O h_N h_B h_G h_K Y_lo Y_ie Y_ra Y_to Y_te Y_re, cL h_O k_O 8 O_f, cI h_N k_N 8 N_f, cI h_B k_B 8 B_f]) [0, 1, 2, 3] (by decide) rfl
          have hKc := hK.sub (tys' := [(k_O, .long), (k_N, .int), (k_B, .boolean)]) [0, 1, 2] rfl
          have hFc := va_free (wc := [cY h_Y h_O h_N h_B h_G h_K Y_lo Y_ie Y_ra Y_to Y_te Y_re, cL h_O k_O 8 O_f, cI h_N k_N 8 N_f, cI h_B k_B 8 B_f]) hD hS hA [0, 1, 2, 3] rfl
          refine va_calli (va_runV (As := [.int a1, .int (B_f a2.toNatClampNeg), .long (O_f a2.toNatClampNeg), .int ((N_f a2.toNatClampNeg) + a3), .int (0 : Int32)]) (rest := []) ⟨hx, hb, hml, hown, hts⟩ (c_Y_finish l dC dI h_Y h_O h_N h_B h_G h_K k_O k_N k_B H.size Y_lo Y_ie Y_ra Y_to Y_te Y_re O_f N_f B_f a1 (B_f a2.toNatClampNeg) (O_f a2.toNatClampNeg) ((N_f a2.toNatClampNeg) + a3) (0 : Int32) q_53 hC_53) (cwV 5 hts g_Y_64_Y_finish rfl rfl rfl (by decide +kernel) ⟨Nat.le_of_ble_eq_true rfl, Nat.le_of_ble_eq_true rfl⟩) ⟨fun a U g mk q => by obtain ⟨q0, q1, qP, qK, qD⟩ := q; exact ⟨q0, q1, qP, va_K.moved (u := U) (U := U.calling g mk a) (Vm.Alike.refl U.vm) qK, qD⟩, va_recv hKc hPc (ci := 2) (q0 := 0) rfl rfl, fun U hU hW => ⟨rfl, by rw [hU], by rw [hU]; exact hPc, va_K.moved hW.alike hKc, hDc.weaken (fun _ _ _ _ => trivial)⟩⟩ rfl rfl hl.1 rfl (lv_room (Nat.le_of_ble_eq_true rfl)) d_Y_scale_53 ⟨Nat.zero_le _, Nat.zero_le _⟩) hS (fun q _ h => hFc q h) hFc (fun r u t H1 locs ht hvm hw hB hz1 hk1 hS => ?_)
          obtain ⟨hP1, hK1, hD1⟩ := hB
          replace hw := hw.symm
          subst hw
          rw [ht] at hP1
          obtain ⟨hP, hD⟩ := va_join (wr := []) (w1 := [cY h_Y h_O h_N h_B h_G h_K q_53.2.1 q_53.2.2.1 q_53.2.2.2.1 Y_to Y_te Y_re, cL h_O k_O 8 q_53.2.2.2.2.1, cI h_N k_N 8 q_53.2.2.2.2.2.1, cI h_B k_B 8 q_53.2.2.2.2.2.2]) hP hD [0, 1, 2, 3] [] rfl rfl (by decide) (by decide) hk1 hFc hP1 hD1
          generalize H1 = H at hP hS ⊢
          have hP := hP.sub (ws' := [cY h_Y h_O h_N h_B h_G h_K q_53.2.1 q_53.2.2.1 q_53.2.2.2.1 Y_to Y_te Y_re, cL h_O k_O 8 q_53.2.2.2.2.1, cI h_N k_N 8 q_53.2.2.2.2.2.1, cI h_B k_B 8 q_53.2.2.2.2.2.2]) [0, 1, 2, 3] rfl
          have hD := hD.sub (ws' := [cY h_Y h_O h_N h_B h_G h_K q_53.2.1 q_53.2.2.1 q_53.2.2.2.1 Y_to Y_te Y_re, cL h_O k_O 8 q_53.2.2.2.2.1, cI h_N k_N 8 q_53.2.2.2.2.2.1, cI h_B k_B 8 q_53.2.2.2.2.2.2]) [0, 1, 2, 3] (by decide) rfl
          obtain rfl := Option.some.inj hF
          exact W.iret (v := q_53.1) hx hb hr (fun t ht hW => ⟨⟨q_53.1, (), rfl, rfl, by rw [ht]; exact hP, va_K.moved hW.alike hK, hD⟩, hS.F ht⟩) hS.2.2 d_Y_scale_56
        · replace hF := hif_f c_25 hF
          refine lv_iconst (v := (-1 : Int32)) hx hb d_Y_scale_28 (by decide) ?_
          obtain rfl := Option.some.inj hF
          exact W.iret (v := (-1 : Int32)) hx hb hr (fun t ht hW => ⟨⟨(-1 : Int32), (), rfl, rfl, by rw [ht]; exact hP, va_K.moved hW.alike hK, hD⟩, hS.F ht⟩) hS.2.2 d_Y_scale_29
