set_option maxHeartbeats 4000000 in
set_option maxRecDepth 100000 in
theorem c_Y_out (l : Launch) (dC : Nat → ClassId) (dI : Nat → Nat → Nat) (sz : Nat) (a0 : Int32) (o : Int32) (hF : f_Y_out a0 = some o) : Met l y_Y_out w_Y_out ({ frames := 0, cells := 0, slots := 0, locals := 0 } : Room) (va_Pc [.int a0] (fun U => U.heap.size = sz ∧ va_P (dC, dI) classes [] U.heap ∧ va_K (dC, dI) classes [] U ∧ va_D (fun _ => True) [])) (va_Qi (fun (r : Int32) (_ : Unit) => r = o) (fun (_ : Unit) (t : State) => va_P (dC, dI) classes [] t.heap ∧ va_K (dC, dI) classes [] t ∧ va_D (va_A [] sz) []) (va_A [] sz)) 0 0 (va_A [] sz) := by
  refine Met.ofW (cc := prog_4_method_2_code) (maxL := 1) (ret := (some .boolean)) (by decide) rfl ?_
  intro p e s m args below meth c s₁ B hml hv
  obtain ⟨rfl, hsz, hP, hK, hD0⟩ := hv
  have hx := B.exec
  have hb := B.bytes
  have hr := B.returns
  have hts0 := atoms_spec (ws := w_Y_out) B.pre
  have hts : ∀ w ∈ tb, w.before _ s = true := fun w h => hts0 w (List.mem_cons_of_mem _ h)
  clear hts0
  have hown : s.vm.findClass "RoundedNumbersModel" = some m.cls := findClass_of_methodNamed B.named
  have hlocks := B.notSynchronized
  subst hsz
  have hD := hD0.self (sz := s.heap.size)
  generalize hAe : va_A [] s.heap.size = A at hD ⊢
  have hA : ∀ q : Nat, s.heap.size ≤ q → A q := fun q h => by rw [← hAe]; exact Or.inr h
  clear hAe
  have hS : va_S A s.heap s.heap [] := va_S.rf
  have hP : va_P (dC, dI) classes [] s.heap := hP
  have hl := lv_entry ([.int a0]) (n := 1) (Nat.le_of_ble_eq_true rfl)
  rw [lg_entry_eq]
  generalize (lg_sl ([.int a0]) ++ List.replicate (1 - (lg_sl ([.int a0])).length) Slot.unset).toArray = ls at hl ⊢
  have hl : lv_has ls 1 [(0, .int a0)] := hl
  unfold f_Y_out at hF
  refine lv_iload_n hx hb d_Y_out_0 rfl (lv_at hl 0 rfl) ?_
  refine lv_if_lt (tgt := 10) hx hb d_Y_out_1 (by decide) (fun c_1 => ?_) (fun c_1 => ?_)
  · replace hF := hif_t c_1 hF
    refine lv_iconst (v := (1 : Int32)) hx hb d_Y_out_10 (by decide) ?_
    refine lv_goto (tgt := 15) hx hb d_Y_out_11 (by decide) ?_
    obtain rfl := Option.some.inj hF
    exact W.zret (v := (1 : Int32)) (ty := .boolean) hx hb hr rfl (fun t ht hW => ⟨⟨(1 : Int32), (), rfl, rfl, by rw [ht]; exact hP, va_K.moved hW.alike hK, hD⟩, hS.F ht⟩) hS.2.2 d_Y_out_15
  · replace hF := hif_f c_1 hF
    refine lv_iload_n hx hb d_Y_out_4 rfl (lv_at hl 0 rfl) ?_
    refine lv_bipush (v := (7 : Int32)) hx hb d_Y_out_5 (by decide) ?_
    refine lv_icmp_le (tgt := 14) hx hb d_Y_out_7 (by decide) (fun c_7 => ?_) (fun c_7 => ?_)
    · replace hF := hif_t c_7 hF
      refine lv_iconst (v := (0 : Int32)) hx hb d_Y_out_14 (by decide) ?_
      obtain rfl := Option.some.inj hF
      exact W.zret (v := (0 : Int32)) (ty := .boolean) hx hb hr rfl (fun t ht hW => ⟨⟨(0 : Int32), (), rfl, rfl, by rw [ht]; exact hP, va_K.moved hW.alike hK, hD⟩, hS.F ht⟩) hS.2.2 d_Y_out_15
    · replace hF := hif_f c_7 hF
      refine lv_iconst (v := (1 : Int32)) hx hb d_Y_out_10 (by decide) ?_
      refine lv_goto (tgt := 15) hx hb d_Y_out_11 (by decide) ?_
      obtain rfl := Option.some.inj hF
      exact W.zret (v := (1 : Int32)) (ty := .boolean) hx hb hr rfl (fun t ht hW => ⟨⟨(1 : Int32), (), rfl, rfl, by rw [ht]; exact hP, va_K.moved hW.alike hK, hD⟩, hS.F ht⟩) hS.2.2 d_Y_out_15
set_option maxHeartbeats 4000000 in
set_option maxRecDepth 100000 in
theorem c_Y_bits (l : Launch) (dC : Nat → ClassId) (dI : Nat → Nat → Nat) (sz : Nat) (a0 : Int64) (o : Int32) (hF : f_Y_bits a0 = some o) : Met l y_Y_bits w_Y_bits ({ frames := 0, cells := 0, slots := 0, locals := 0 } : Room) (va_Pc [.long a0] (fun U => U.heap.size = sz ∧ va_P (dC, dI) classes [] U.heap ∧ va_K (dC, dI) classes [] U ∧ va_D (fun _ => True) [])) (va_Qi (fun (r : Int32) (_ : Unit) => r = o) (fun (_ : Unit) (t : State) => va_P (dC, dI) classes [] t.heap ∧ va_K (dC, dI) classes [] t ∧ va_D (va_A [] sz) []) (va_A [] sz)) 0 0 (va_A [] sz) := by
  refine Met.ofW (cc := prog_4_method_3_code) (maxL := 5) (ret := (some .int)) (by decide) rfl ?_
  intro p e s m args below meth c s₁ B hml hv
  obtain ⟨rfl, hsz, hP, hK, hD0⟩ := hv
  have hx := B.exec
  have hb := B.bytes
  have hr := B.returns
  have hts0 := atoms_spec (ws := w_Y_bits) B.pre
  have hts : ∀ w ∈ tb, w.before _ s = true := fun w h => hts0 w (List.mem_cons_of_mem _ h)
  clear hts0
  have hown : s.vm.findClass "RoundedNumbersModel" = some m.cls := findClass_of_methodNamed B.named
  have hlocks := B.notSynchronized
  subst hsz
  have hD := hD0.self (sz := s.heap.size)
  generalize hAe : va_A [] s.heap.size = A at hD ⊢
  have hA : ∀ q : Nat, s.heap.size ≤ q → A q := fun q h => by rw [← hAe]; exact Or.inr h
  clear hAe
  have hS : va_S A s.heap s.heap [] := va_S.rf
  have hP : va_P (dC, dI) classes [] s.heap := hP
  have hl := lv_entry ([.long a0]) (n := 5) (Nat.le_of_ble_eq_true rfl)
  rw [lg_entry_eq]
  generalize (lg_sl ([.long a0]) ++ List.replicate (5 - (lg_sl ([.long a0])).length) Slot.unset).toArray = ls at hl ⊢
  have hl : lv_has ls 5 [(0, .long a0)] := hl
  have b_4 : ∀ n_ : Nat, ∀ (x2 : Int32) (x3 : Int64) (H : Heap) (locs : List Loc) (ls : Array Slot), va_P (dC, dI) classes [] H → va_D A [] → va_S A s.heap H locs → lv_has ls 5 [(2, .int x2), (3, .long x3)] → f_Y_bits_4 n_ x2 x3 = some o → W p l e (headSpec w_Y_bits ({ frames := 0, cells := 0, slots := 0, locals := 0 } : Room)).room s m ([.long a0] : List Value).toArray below meth c H locs 0 0 (MQ below (va_Qi (fun (r : Int32) (_ : Unit) => r = o) (fun (_ : Unit) (t : State) => va_P (dC, dI) classes [] t.heap ∧ va_K (dC, dI) classes [] t ∧ va_D A []) A) ([.long a0] : List Value).toArray s 0 0 A) (F0 m 4 ls []) := by
    intro n_
    induction n_ with
    | zero =>
      intro x2 x3 H locs ls hP hD hS hl hF
      rw [f_Y_bits_4] at hF
      exact absurd hF (by simp)
    | succ n_ ih =>
      obtain ⟨k_4, ek_4⟩ : ∃ k, k = f_Y_bits_4 n_ := ⟨_, rfl⟩
      rw [← ek_4] at ih
      have hk_4 := ih
      intro x2 x3 H locs ls hP hD hS hl hF
      rw [f_Y_bits_4, ← ek_4] at hF
      refine lv_lload_n hx hb d_Y_bits_4 rfl (lv_at hl 1 rfl) ?_
      refine lv_lconst (v := (0 : Int64)) hx hb d_Y_bits_5 (by decide) ?_
      refine W.lcmp hx hb d_Y_bits_6 ?_
      refine lv_if_le (tgt := 20) hx hb d_Y_bits_7 (by decide) (fun c_7 => ?_) (fun c_7 => ?_)
      · replace hF := hif_t c_7 hF
        refine lv_iload_n hx hb d_Y_bits_20 rfl (lv_at hl 0 rfl) ?_
        obtain rfl := Option.some.inj hF
        exact W.iret (v := x2) hx hb hr (fun t ht hW => ⟨⟨x2, (), rfl, rfl, by rw [ht]; exact hP, va_K.moved hW.alike hK, hD⟩, hS.F ht⟩) hS.2.2 d_Y_bits_21
      · replace hF := hif_f c_7 hF
        refine lv_iinc (v := (x2 + (1 : Int32))) (lv' := [(2, .int (x2 + (1 : Int32))), (3, .long x3)]) hx hb d_Y_bits_10 hl (k := 0) rfl rfl (by decide) rfl (fun ls hl => ?_)
        refine lv_lload_n hx hb d_Y_bits_13 rfl (lv_at hl 1 rfl) ?_
        refine lv_iconst (v := (1 : Int32)) hx hb d_Y_bits_14 (by decide) ?_
        refine lv_lshr (v := (jshr x3 (1 : Int32))) hx hb d_Y_bits_15 rfl ?_
        refine lv_lstore_n (lv' := [(3, .long (jshr x3 (1 : Int32))), (2, .int (x2 + (1 : Int32)))]) hx hb d_Y_bits_16 rfl hl (by decide) rfl (fun ls hl => ?_)
        refine lv_goto (tgt := 4) hx hb d_Y_bits_17 (by decide) ?_
        exact hk_4 (x2 + (1 : Int32)) (jshr x3 (1 : Int32)) _ _ _ hP hD hS (lv_sub hl [1, 0] rfl) hF
  unfold f_Y_bits at hF
  refine lv_iconst (v := (0 : Int32)) hx hb d_Y_bits_0 (by decide) ?_
  refine lv_istore_n (lv' := [(2, .int (0 : Int32)), (0, .long a0)]) hx hb d_Y_bits_1 rfl hl (by decide) rfl (fun ls hl => ?_)
  refine lv_lload_n hx hb d_Y_bits_2 rfl (lv_at hl 1 rfl) ?_
  refine lv_lstore_n (lv' := [(3, .long a0), (2, .int (0 : Int32)), (0, .long a0)]) hx hb d_Y_bits_3 rfl hl (by decide) rfl (fun ls hl => ?_)
  exact b_4 1000 (0 : Int32) a0 _ _ _ hP hD hS (lv_sub hl [1, 0] rfl) hF
set_option maxHeartbeats 4000000 in
set_option maxRecDepth 100000 in
theorem c_Y_inRange (l : Launch) (dC : Nat → ClassId) (dI : Nat → Nat → Nat) (sz : Nat) (a0 : Int64) (a1 : Int32) (o : Int32) (hF : f_Y_inRange a0 a1 = some o) : Met l y_Y_inRange w_Y_inRange ({ frames := 1, cells := 0, slots := 0, locals := 24 } : Room) (va_Pc [.long a0, .int a1] (fun U => U.heap.size = sz ∧ va_P (dC, dI) classes [] U.heap ∧ va_K (dC, dI) classes [] U ∧ va_D (fun _ => True) [])) (va_Qi (fun (r : Int32) (_ : Unit) => r = o) (fun (_ : Unit) (t : State) => va_P (dC, dI) classes [] t.heap ∧ va_K (dC, dI) classes [] t ∧ va_D (va_A [] sz) []) (va_A [] sz)) 0 0 (va_A [] sz) := by
  refine Met.ofW (cc := prog_4_method_5_code) (maxL := 4) (ret := (some .boolean)) (by decide) rfl ?_
  intro p e s m args below meth c s₁ B hml hv
  obtain ⟨rfl, hsz, hP, hK, hD0⟩ := hv
  have hx := B.exec
  have hb := B.bytes
  have hr := B.returns
  have hts0 := atoms_spec (ws := w_Y_inRange) B.pre
  have hts : ∀ w ∈ tb, w.before _ s = true := fun w h => hts0 w (List.mem_cons_of_mem _ h)
  clear hts0
  have hown : s.vm.findClass "RoundedNumbersModel" = some m.cls := findClass_of_methodNamed B.named
  have hlocks := B.notSynchronized
  subst hsz
  have hD := hD0.self (sz := s.heap.size)
  generalize hAe : va_A [] s.heap.size = A at hD ⊢
  have hA : ∀ q : Nat, s.heap.size ≤ q → A q := fun q h => by rw [← hAe]; exact Or.inr h
  clear hAe
  have hS : va_S A s.heap s.heap [] := va_S.rf
  have hP : va_P (dC, dI) classes [] s.heap := hP
  have hl := lv_entry ([.long a0, .int a1]) (n := 4) (Nat.le_of_ble_eq_true rfl)
  rw [lg_entry_eq]
  generalize (lg_sl ([.long a0, .int a1]) ++ List.replicate (4 - (lg_sl ([.long a0, .int a1])).length) Slot.unset).toArray = ls at hl ⊢
  have hl : lv_has ls 4 [(0, .long a0), (2, .int a1)] := hl
  unfold f_Y_inRange at hF
  refine lv_lload_n hx hb d_Y_inRange_0 rfl (lv_at hl 0 rfl) ?_
  obtain ⟨q_1, hC_1, hF⟩ := hbd hF
  have hPc := hP.sub (ws' := []) [] rfl
  have hDc := hD.sub (ws' := []) [] (by decide) rfl
  have hKc := hK.sub (tys' := []) [] rfl
  have hFc := va_free (wc := []) hD hS hA [] rfl
  refine va_calli (va_runS (As := [.long a0]) (rest := []) ⟨hx, hb, hml, hown, hts⟩ (c_Y_bits l dC dI s.heap.size a0 q_1 hC_1) (cwS 1 hts g_Y_29_Y_bits rfl rfl rfl (by decide +kernel) ⟨Nat.le_of_ble_eq_true rfl, Nat.le_of_ble_eq_true rfl⟩) ⟨fun a U g mk q => by obtain ⟨q0, q1, qP, qK, qD⟩ := q; exact ⟨q0, q1, qP, va_K.moved (u := U) (U := U.calling g mk a) (Vm.Alike.refl U.vm) qK, qD⟩, fun U hU hW => ⟨rfl, by rw [hU], by rw [hU]; exact hPc, va_K.moved hW.alike hKc, hDc.weaken (fun _ _ _ _ => trivial)⟩⟩ rfl rfl hl.1 rfl (lv_room (Nat.le_of_ble_eq_true rfl)) d_Y_inRange_1 ⟨Nat.zero_le _, Nat.zero_le _⟩) hS (fun q _ h => hFc q h) hFc (fun r u t H1 locs ht hvm hw hB hz1 hk1 hS => ?_)
  obtain ⟨hP1, hK1, hD1⟩ := hB
  replace hw := hw.symm
  subst hw
  rw [ht] at hP1
  obtain ⟨hP, hD⟩ := va_join (wr := []) (w1 := []) hP hD [] [] rfl rfl (by decide) (by decide) hk1 hFc hP1 hD1
  generalize H1 = H at hP hS ⊢
  have hP := hP.sub (ws' := []) [] rfl
  have hD := hD.sub (ws' := []) [] (by decide) rfl
  refine lv_iconst (v := (1 : Int32)) hx hb d_Y_inRange_4 (by decide) ?_
  refine lv_isub hx hb d_Y_inRange_5 ?_
  refine lv_iload_n hx hb d_Y_inRange_6 rfl (lv_at hl 1 rfl) ?_
  refine lv_iadd hx hb d_Y_inRange_7 ?_
  refine lv_istore_n (lv' := [(3, .int ((q_1 - (1 : Int32)) + a1)), (0, .long a0), (2, .int a1)]) hx hb d_Y_inRange_8 rfl hl (by decide) rfl (fun ls hl => ?_)
  refine lv_iload_n hx hb d_Y_inRange_9 rfl (lv_at hl 0 rfl) ?_
  refine lv_bipush (v := (-100 : Int32)) hx hb d_Y_inRange_10 (by decide) ?_
  refine lv_icmp_lt (tgt := 25) hx hb d_Y_inRange_12 (by decide) (fun c_12 => ?_) (fun c_12 => ?_)
  · replace hF := hif_t c_12 hF
    refine lv_iconst (v := (0 : Int32)) hx hb d_Y_inRange_25 (by decide) ?_
    obtain rfl := Option.some.inj hF
    exact W.zret (v := (0 : Int32)) (ty := .boolean) hx hb hr rfl (fun t ht hW => ⟨⟨(0 : Int32), (), rfl, rfl, by rw [ht]; exact hP, va_K.moved hW.alike hK, hD⟩, hS.F ht⟩) hS.2.2 d_Y_inRange_26
  · replace hF := hif_f c_12 hF
    refine lv_iload_n hx hb d_Y_inRange_15 rfl (lv_at hl 0 rfl) ?_
    refine lv_bipush (v := (100 : Int32)) hx hb d_Y_inRange_16 (by decide) ?_
    refine lv_icmp_ge (tgt := 25) hx hb d_Y_inRange_18 (by decide) (fun c_18 => ?_) (fun c_18 => ?_)
    · replace hF := hif_t c_18 hF
      refine lv_iconst (v := (0 : Int32)) hx hb d_Y_inRange_25 (by decide) ?_
      obtain rfl := Option.some.inj hF
      exact W.zret (v := (0 : Int32)) (ty := .boolean) hx hb hr rfl (fun t ht hW => ⟨⟨(0 : Int32), (), rfl, rfl, by rw [ht]; exact hP, va_K.moved hW.alike hK, hD⟩, hS.F ht⟩) hS.2.2 d_Y_inRange_26
    · replace hF := hif_f c_18 hF
      refine lv_iconst (v := (1 : Int32)) hx hb d_Y_inRange_21 (by decide) ?_
      refine lv_goto (tgt := 26) hx hb d_Y_inRange_22 (by decide) ?_
      obtain rfl := Option.some.inj hF
      exact W.zret (v := (1 : Int32)) (ty := .boolean) hx hb hr rfl (fun t ht hW => ⟨⟨(1 : Int32), (), rfl, rfl, by rw [ht]; exact hP, va_K.moved hW.alike hK, hD⟩, hS.F ht⟩) hS.2.2 d_Y_inRange_26
set_option maxHeartbeats 4000000 in
set_option maxRecDepth 100000 in
theorem c_Y_size (l : Launch) (dC : Nat → ClassId) (dI : Nat → Nat → Nat) (sz : Nat) (a0 : Int32) (o : Int32) (hF : f_Y_size a0 = some o) : Met l y_Y_size w_Y_size ({ frames := 0, cells := 0, slots := 0, locals := 0 } : Room) (va_Pc [.int a0] (fun U => U.heap.size = sz ∧ va_P (dC, dI) classes [] U.heap ∧ va_K (dC, dI) classes [] U ∧ va_D (fun _ => True) [])) (va_Qi (fun (r : Int32) (_ : Unit) => r = o) (fun (_ : Unit) (t : State) => va_P (dC, dI) classes [] t.heap ∧ va_K (dC, dI) classes [] t ∧ va_D (va_A [] sz) []) (va_A [] sz)) 0 0 (va_A [] sz) := by
  refine Met.ofW (cc := prog_4_method_10_code) (maxL := 1) (ret := (some .int)) (by decide) rfl ?_
  intro p e s m args below meth c s₁ B hml hv
  obtain ⟨rfl, hsz, hP, hK, hD0⟩ := hv
  have hx := B.exec
  have hb := B.bytes
  have hr := B.returns
  have hts0 := atoms_spec (ws := w_Y_size) B.pre
  have hts : ∀ w ∈ tb, w.before _ s = true := fun w h => hts0 w (List.mem_cons_of_mem _ h)
  clear hts0
  have hown : s.vm.findClass "RoundedNumbersModel" = some m.cls := findClass_of_methodNamed B.named
  have hlocks := B.notSynchronized
  subst hsz
  have hD := hD0.self (sz := s.heap.size)
  generalize hAe : va_A [] s.heap.size = A at hD ⊢
  have hA : ∀ q : Nat, s.heap.size ≤ q → A q := fun q h => by rw [← hAe]; exact Or.inr h
  clear hAe
  have hS : va_S A s.heap s.heap [] := va_S.rf
  have hP : va_P (dC, dI) classes [] s.heap := hP
  have hl := lv_entry ([.int a0]) (n := 1) (Nat.le_of_ble_eq_true rfl)
  rw [lg_entry_eq]
  generalize (lg_sl ([.int a0]) ++ List.replicate (1 - (lg_sl ([.int a0])).length) Slot.unset).toArray = ls at hl ⊢
  have hl : lv_has ls 1 [(0, .int a0)] := hl
  unfold f_Y_size at hF
  refine lv_iload_n hx hb d_Y_size_0 rfl (lv_at hl 0 rfl) ?_
  refine lv_if_eq (tgt := 9) hx hb d_Y_size_1 (by decide) (fun c_1 => ?_) (fun c_1 => ?_)
  · replace hF := hif_t c_1 hF
    refine lv_bipush (v := (53 : Int32)) hx hb d_Y_size_9 (by decide) ?_
    obtain rfl := Option.some.inj hF
    exact W.iret (v := (53 : Int32)) hx hb hr (fun t ht hW => ⟨⟨(53 : Int32), (), rfl, rfl, by rw [ht]; exact hP, va_K.moved hW.alike hK, hD⟩, hS.F ht⟩) hS.2.2 d_Y_size_11
  · replace hF := hif_f c_1 hF
    refine lv_bipush (v := (24 : Int32)) hx hb d_Y_size_4 (by decide) ?_
    refine lv_goto (tgt := 11) hx hb d_Y_size_6 (by decide) ?_
    obtain rfl := Option.some.inj hF
    exact W.iret (v := (24 : Int32)) hx hb hr (fun t ht hW => ⟨⟨(24 : Int32), (), rfl, rfl, by rw [ht]; exact hP, va_K.moved hW.alike hK, hD⟩, hS.F ht⟩) hS.2.2 d_Y_size_11
set_option maxHeartbeats 4000000 in
set_option maxRecDepth 100000 in
theorem c_Y_narrow (l : Launch) (dC : Nat → ClassId) (dI : Nat → Nat → Nat) (h_Y : Nat) (h_O : Nat) (h_N : Nat) (h_B : Nat) (h_G : Nat) (h_K : Nat) (k_O : ClassId) (sz : Nat) (Y_lo : Int32) (Y_ie : Int32) (Y_ra : Int32) (Y_to : Int64) (Y_te : Int32) (Y_re : Int32) (O_f : Nat → Int64) (a1 : Int32) (o : Int32) (hF : f_Y_narrow O_f a1 = some o) : Met l y_Y_narrow w_Y_narrow ({ frames := 0, cells := 0, slots := 0, locals := 0 } : Room) (va_Pc [.ref h_Y, .int a1] (fun U => U.heap.size = sz ∧ va_P (dC, dI) classes [cY h_Y h_O h_N h_B h_G h_K Y_lo Y_ie Y_ra Y_to Y_te Y_re, cL h_O k_O 8 O_f] U.heap ∧ va_K (dC, dI) classes [(k_O, .long)] U ∧ va_D (fun _ => True) [cY h_Y h_O h_N h_B h_G h_K Y_lo Y_ie Y_ra Y_to Y_te Y_re, cL h_O k_O 8 O_f])) (va_Qi (fun (r : Int32) (_ : Unit) => r = o) (fun (_ : Unit) (t : State) => va_P (dC, dI) classes [cY h_Y h_O h_N h_B h_G h_K Y_lo Y_ie Y_ra Y_to Y_te Y_re, cL h_O k_O 8 O_f] t.heap ∧ va_K (dC, dI) classes [(k_O, .long)] t ∧ va_D (va_A [cY h_Y h_O h_N h_B h_G h_K Y_lo Y_ie Y_ra Y_to Y_te Y_re, cL h_O k_O 8 O_f] sz) [cY h_Y h_O h_N h_B h_G h_K Y_lo Y_ie Y_ra Y_to Y_te Y_re, cL h_O k_O 8 O_f]) (va_A [cY h_Y h_O h_N h_B h_G h_K Y_lo Y_ie Y_ra Y_to Y_te Y_re, cL h_O k_O 8 O_f] sz)) 0 0 (va_A [cY h_Y h_O h_N h_B h_G h_K Y_lo Y_ie Y_ra Y_to Y_te Y_re, cL h_O k_O 8 O_f] sz) := by
  refine Met.ofW (cc := prog_4_method_4_code) (maxL := 2) (ret := (some .boolean)) (by decide) rfl ?_
  intro p e s m args below meth c s₁ B hml hv
  obtain ⟨rfl, hsz, hP, hK, hD0⟩ := hv
  have hx := B.exec
  have hb := B.bytes
  have hr := B.returns
  have hts0 := atoms_spec (ws := w_Y_narrow) B.pre
  have hts : ∀ w ∈ tb, w.before _ s = true := fun w h => hts0 w (List.mem_cons_of_mem _ h)
  clear hts0
  have hown : s.vm.findClass "RoundedNumbersModel" = some m.cls := findClass_of_methodNamed B.named
  have hlocks := B.notSynchronized
  subst hsz
  have hD := hD0.self (sz := s.heap.size)
  generalize hAe : va_A [cY h_Y h_O h_N h_B h_G h_K Y_lo Y_ie Y_ra Y_to Y_te Y_re, cL h_O k_O 8 O_f] s.heap.size = A at hD ⊢
  have hA : ∀ q : Nat, s.heap.size ≤ q → A q := fun q h => by rw [← hAe]; exact Or.inr h
  clear hAe
  have hS : va_S A s.heap s.heap [] := va_S.rf
  have hP : va_P (dC, dI) classes [cY h_Y h_O h_N h_B h_G h_K Y_lo Y_ie Y_ra Y_to Y_te Y_re, cL h_O k_O 8 O_f] s.heap := hP
  have hl := lv_entry ([.ref h_Y, .int a1]) (n := 2) (Nat.le_of_ble_eq_true rfl)
  rw [lg_entry_eq]
  generalize (lg_sl ([.ref h_Y, .int a1]) ++ List.replicate (2 - (lg_sl ([.ref h_Y, .int a1])).length) Slot.unset).toArray = ls at hl ⊢
  have hl : lv_has ls 2 [(0, .ref h_Y), (1, .int a1)] := hl
  unfold f_Y_narrow at hF
  refine lv_aload_n hx hb d_Y_narrow_0 rfl (lv_at hl 0 rfl) ?_
  refine va_get (D := (dC, dI)) (ci := 2) (v := .ref h_O) (C := "RoundedNumbersModel") (T := F_Y) (N := 11) hx hb hts in_Y hown hK hP 0 rfl rfl 0 (by decide) (hts _ tw_314) (fun _ h9 => h9) rfl d_Y_narrow_1 ?_
  refine lv_iload_n hx hb d_Y_narrow_4 rfl (lv_at hl 1 rfl) ?_
  have c_5 : ¬ (a1 < 0 ∨ 8 ≤ a1.toNatClampNeg) := hif_n hF
  replace hF := hif_f c_5 hF
  refine va_lald hx hb hK hP 1 0 rfl rfl c_5 d_Y_narrow_5 ?_
  refine lv_ldc2 (v := (16777216 : Int64)) hx hb hown (hts _ tw_389) d_Y_narrow_6 ?_
  refine W.lcmp hx hb d_Y_narrow_9 ?_
  refine lv_if_ge (tgt := 17) hx hb d_Y_narrow_10 (by decide) (fun c_10 => ?_) (fun c_10 => ?_)
  · replace hF := hif_t c_10 hF
    refine lv_iconst (v := (0 : Int32)) hx hb d_Y_narrow_17 (by decide) ?_
    obtain rfl := Option.some.inj hF
    exact W.zret (v := (0 : Int32)) (ty := .boolean) hx hb hr rfl (fun t ht hW => ⟨⟨(0 : Int32), (), rfl, rfl, by rw [ht]; exact hP, va_K.moved hW.alike hK, hD⟩, hS.F ht⟩) hS.2.2 d_Y_narrow_18
  · replace hF := hif_f c_10 hF
    refine lv_iconst (v := (1 : Int32)) hx hb d_Y_narrow_13 (by decide) ?_
    refine lv_goto (tgt := 18) hx hb d_Y_narrow_14 (by decide) ?_
    obtain rfl := Option.some.inj hF
    exact W.zret (v := (1 : Int32)) (ty := .boolean) hx hb hr rfl (fun t ht hW => ⟨⟨(1 : Int32), (), rfl, rfl, by rw [ht]; exact hP, va_K.moved hW.alike hK, hD⟩, hS.F ht⟩) hS.2.2 d_Y_narrow_18
set_option maxHeartbeats 4000000 in
set_option maxRecDepth 100000 in
theorem c_Y_range (l : Launch) (dC : Nat → ClassId) (dI : Nat → Nat → Nat) (h_Y : Nat) (h_O : Nat) (h_N : Nat) (h_B : Nat) (h_G : Nat) (h_K : Nat) (sz : Nat) (Y_lo : Int32) (Y_ie : Int32) (Y_ra : Int32) (Y_to : Int64) (Y_te : Int32) (Y_re : Int32) (o : Int32 × Int32) (hF : f_Y_range Y_ra = some o) : Met l y_Y_range w_Y_range ({ frames := 0, cells := 0, slots := 0, locals := 0 } : Room) (va_Pc [.ref h_Y] (fun U => U.heap.size = sz ∧ va_P (dC, dI) classes [cY h_Y h_O h_N h_B h_G h_K Y_lo Y_ie Y_ra Y_to Y_te Y_re] U.heap ∧ va_K (dC, dI) classes [] U ∧ va_D (fun _ => True) [cY h_Y h_O h_N h_B h_G h_K Y_lo Y_ie Y_ra Y_to Y_te Y_re])) (va_Qi (fun (r : Int32) (_ : Unit) => r = o.1) (fun (_ : Unit) (t : State) => va_P (dC, dI) classes [cY h_Y h_O h_N h_B h_G h_K Y_lo Y_ie o.2 Y_to Y_te Y_re] t.heap ∧ va_K (dC, dI) classes [] t ∧ va_D (va_A [cY h_Y h_O h_N h_B h_G h_K Y_lo Y_ie Y_ra Y_to Y_te Y_re] sz) [cY h_Y h_O h_N h_B h_G h_K Y_lo Y_ie o.2 Y_to Y_te Y_re]) (va_A [cY h_Y h_O h_N h_B h_G h_K Y_lo Y_ie Y_ra Y_to Y_te Y_re] sz)) 0 0 (va_A [cY h_Y h_O h_N h_B h_G h_K Y_lo Y_ie Y_ra Y_to Y_te Y_re] sz) := by
  refine Met.ofW (cc := prog_4_method_6_code) (maxL := 1) (ret := (some .int)) (by decide) rfl ?_
  intro p e s m args below meth c s₁ B hml hv
  obtain ⟨rfl, hsz, hP, hK, hD0⟩ := hv
  have hx := B.exec
  have hb := B.bytes
  have hr := B.returns
  have hts0 := atoms_spec (ws := w_Y_range) B.pre
  have hts : ∀ w ∈ tb, w.before _ s = true := fun w h => hts0 w (List.mem_cons_of_mem _ h)
  clear hts0
  have hown : s.vm.findClass "RoundedNumbersModel" = some m.cls := findClass_of_methodNamed B.named
  have hlocks := B.notSynchronized
  subst hsz
  have hD := hD0.self (sz := s.heap.size)
  generalize hAe : va_A [cY h_Y h_O h_N h_B h_G h_K Y_lo Y_ie Y_ra Y_to Y_te Y_re] s.heap.size = A at hD ⊢
  have hA : ∀ q : Nat, s.heap.size ≤ q → A q := fun q h => by rw [← hAe]; exact Or.inr h
  clear hAe
  have hS : va_S A s.heap s.heap [] := va_S.rf
  have hP : va_P (dC, dI) classes [cY h_Y h_O h_N h_B h_G h_K Y_lo Y_ie Y_ra Y_to Y_te Y_re] s.heap := hP
  have hl := lv_entry ([.ref h_Y]) (n := 1) (Nat.le_of_ble_eq_true rfl)
  rw [lg_entry_eq]
  generalize (lg_sl ([.ref h_Y]) ++ List.replicate (1 - (lg_sl ([.ref h_Y])).length) Slot.unset).toArray = ls at hl ⊢
  have hl : lv_has ls 1 [(0, .ref h_Y)] := hl
  unfold f_Y_range at hF
  refine lv_aload_n hx hb d_Y_range_0 rfl (lv_at hl 0 rfl) ?_
  refine lv_dup hx hb d_Y_range_1 rfl ?_
  refine va_get (D := (dC, dI)) (ci := 2) (v := .int Y_ra) (C := "RoundedNumbersModel") (T := F_Y) (N := 11) hx hb hts in_Y hown hK hP 0 rfl rfl 5 (by decide) (hts _ tw_319) (fun _ h9 => h9) rfl d_Y_range_2 ?_
  refine lv_iconst (v := (1 : Int32)) hx hb d_Y_range_5 (by decide) ?_
  refine lv_iadd hx hb d_Y_range_6 ?_
  refine va_put (D := (dC, dI)) (ci := 2) (v := .int (Y_ra + (1 : Int32))) (ty := .int) (C := "RoundedNumbersModel") (T := F_Y) (N := 11) hx hb hts in_Y t_Y t_Y_ok n_Y hown hK hP hD hS 0 rfl rfl 5 (by decide) (hts _ tw_319) (fun _ h9 => h9) rfl (by decide +kernel) rfl rfl (Nat.le_of_ble_eq_true rfl) d_Y_range_7 (fun H locs hP hD hS => ?_)
  have hP : va_P (dC, dI) classes [cY h_Y h_O h_N h_B h_G h_K Y_lo Y_ie (Y_ra + (1 : Int32)) Y_to Y_te Y_re] H := hP
  have hD : va_D A [cY h_Y h_O h_N h_B h_G h_K Y_lo Y_ie (Y_ra + (1 : Int32)) Y_to Y_te Y_re] := hD
  refine lv_bipush (v := (-2 : Int32)) hx hb d_Y_range_10 (by decide) ?_
  obtain rfl := Option.some.inj hF
  exact W.iret (v := (-2 : Int32)) hx hb hr (fun t ht hW => ⟨⟨(-2 : Int32), (), rfl, rfl, by rw [ht]; exact hP, va_K.moved hW.alike hK, hD⟩, hS.F ht⟩) hS.2.2 d_Y_range_12
set_option maxHeartbeats 4000000 in
set_option maxRecDepth 100000 in
theorem c_Y_store (l : Launch) (dC : Nat → ClassId) (dI : Nat → Nat → Nat) (h_Y : Nat) (h_O : Nat) (h_N : Nat) (h_B : Nat) (h_G : Nat) (h_K : Nat) (k_O : ClassId) (k_N : ClassId) (k_B : ClassId) (sz : Nat) (Y_lo : Int32) (Y_ie : Int32) (Y_ra : Int32) (Y_to : Int64) (Y_te : Int32) (Y_re : Int32) (O_f : Nat → Int64) (N_f : Nat → Int32) (B_f : Nat → Int32) (a1 : Int32) (a2 : Int32) (a3 : Int64) (a4 : Int32) (o : (Nat → Int64) × (Nat → Int32) × (Nat → Int32)) (hF : f_Y_store O_f N_f B_f a1 a2 a3 a4 = some o) : Met l y_Y_store w_Y_store ({ frames := 0, cells := 0, slots := 0, locals := 0 } : Room) (va_Pc [.ref h_Y, .int a1, .int a2, .long a3, .int a4] (fun U => U.heap.size = sz ∧ va_P (dC, dI) classes [cY h_Y h_O h_N h_B h_G h_K Y_lo Y_ie Y_ra Y_to Y_te Y_re, cL h_O k_O 8 O_f, cI h_N k_N 8 N_f, cI h_B k_B 8 B_f] U.heap ∧ va_K (dC, dI) classes [(k_O, .long), (k_N, .int), (k_B, .boolean)] U ∧ va_D (fun _ => True) [cY h_Y h_O h_N h_B h_G h_K Y_lo Y_ie Y_ra Y_to Y_te Y_re, cL h_O k_O 8 O_f, cI h_N k_N 8 N_f, cI h_B k_B 8 B_f])) (va_Qv (fun _ : Unit => True) (fun (_ : Unit) (t : State) => va_P (dC, dI) classes [cY h_Y h_O h_N h_B h_G h_K Y_lo Y_ie Y_ra Y_to Y_te Y_re, cL h_O k_O 8 o.1, cI h_N k_N 8 o.2.1, cI h_B k_B 8 o.2.2] t.heap ∧ va_K (dC, dI) classes [(k_O, .long), (k_N, .int), (k_B, .boolean)] t ∧ va_D (va_A [cY h_Y h_O h_N h_B h_G h_K Y_lo Y_ie Y_ra Y_to Y_te Y_re, cL h_O k_O 8 O_f, cI h_N k_N 8 N_f, cI h_B k_B 8 B_f] sz) [cY h_Y h_O h_N h_B h_G h_K Y_lo Y_ie Y_ra Y_to Y_te Y_re, cL h_O k_O 8 o.1, cI h_N k_N 8 o.2.1, cI h_B k_B 8 o.2.2]) (va_A [cY h_Y h_O h_N h_B h_G h_K Y_lo Y_ie Y_ra Y_to Y_te Y_re, cL h_O k_O 8 O_f, cI h_N k_N 8 N_f, cI h_B k_B 8 B_f] sz)) 0 0 (va_A [cY h_Y h_O h_N h_B h_G h_K Y_lo Y_ie Y_ra Y_to Y_te Y_re, cL h_O k_O 8 O_f, cI h_N k_N 8 N_f, cI h_B k_B 8 B_f] sz) := by
  refine Met.ofW (cc := prog_4_method_7_code) (maxL := 9) (ret := none) (by decide) rfl ?_
  intro p e s m args below meth c s₁ B hml hv
  obtain ⟨rfl, hsz, hP, hK, hD0⟩ := hv
  have hx := B.exec
  have hb := B.bytes
  have hr := B.returns
  have hts0 := atoms_spec (ws := w_Y_store) B.pre
  have hts : ∀ w ∈ tb, w.before _ s = true := fun w h => hts0 w (List.mem_cons_of_mem _ h)
  clear hts0
  have hown : s.vm.findClass "RoundedNumbersModel" = some m.cls := findClass_of_methodNamed B.named
  have hlocks := B.notSynchronized
  subst hsz
  have hD := hD0.self (sz := s.heap.size)
  generalize hAe : va_A [cY h_Y h_O h_N h_B h_G h_K Y_lo Y_ie Y_ra Y_to Y_te Y_re, cL h_O k_O 8 O_f, cI h_N k_N 8 N_f, cI h_B k_B 8 B_f] s.heap.size = A at hD ⊢
  have hA : ∀ q : Nat, s.heap.size ≤ q → A q := fun q h => by rw [← hAe]; exact Or.inr h
  clear hAe
  have hS : va_S A s.heap s.heap [] := va_S.rf
  have hP : va_P (dC, dI) classes [cY h_Y h_O h_N h_B h_G h_K Y_lo Y_ie Y_ra Y_to Y_te Y_re, cL h_O k_O 8 O_f, cI h_N k_N 8 N_f, cI h_B k_B 8 B_f] s.heap := hP
  have hl := lv_entry ([.ref h_Y, .int a1, .int a2, .long a3, .int a4]) (n := 9) (Nat.le_of_ble_eq_true rfl)
  rw [lg_entry_eq]
  generalize (lg_sl ([.ref h_Y, .int a1, .int a2, .long a3, .int a4]) ++ List.replicate (9 - (lg_sl ([.ref h_Y, .int a1, .int a2, .long a3, .int a4])).length) Slot.unset).toArray = ls at hl ⊢
  have hl : lv_has ls 9 [(0, .ref h_Y), (1, .int a1), (2, .int a2), (3, .long a3), (5, .int a4)] := hl
  have b_65 : ∀ (x1 : Int32) (x2 : Int32) (x6 : Int64) (y0 : Int32) (y1 : Int32) (O_f : Nat → Int64) (N_f : Nat → Int32) (B_f : Nat → Int32) (Y_lo : Int32) (Y_ie : Int32) (Y_ra : Int32) (Y_to : Int64) (Y_te : Int32) (Y_re : Int32) (H : Heap) (locs : List Loc) (ls : Array Slot), va_P (dC, dI) classes [cY h_Y h_O h_N h_B h_G h_K Y_lo Y_ie Y_ra Y_to Y_te Y_re, cL h_O k_O 8 O_f, cI h_N k_N 8 N_f, cI h_B k_B 8 B_f] H → va_D A [cY h_Y h_O h_N h_B h_G h_K Y_lo Y_ie Y_ra Y_to Y_te Y_re, cL h_O k_O 8 O_f, cI h_N k_N 8 N_f, cI h_B k_B 8 B_f] → va_S A s.heap H locs → lv_has ls 9 [(0, .ref h_Y), (1, .int x1), (2, .int x2), (6, .long x6)] → f_Y_store_65  x1 x2 x6 y0 y1 O_f N_f B_f = some o → W p l e (headSpec w_Y_store ({ frames := 0, cells := 0, slots := 0, locals := 0 } : Room)).room s m ([.ref h_Y, .int a1, .int a2, .long a3, .int a4] : List Value).toArray below meth c H locs 0 0 (MQ below (va_Qv (fun _ : Unit => True) (fun (_ : Unit) (t : State) => va_P (dC, dI) classes [cY h_Y h_O h_N h_B h_G h_K Y_lo Y_ie Y_ra Y_to Y_te Y_re, cL h_O k_O 8 o.1, cI h_N k_N 8 o.2.1, cI h_B k_B 8 o.2.2] t.heap ∧ va_K (dC, dI) classes [(k_O, .long), (k_N, .int), (k_B, .boolean)] t ∧ va_D A [cY h_Y h_O h_N h_B h_G h_K Y_lo Y_ie Y_ra Y_to Y_te Y_re, cL h_O k_O 8 o.1, cI h_N k_N 8 o.2.1, cI h_B k_B 8 o.2.2]) A) ([.ref h_Y, .int a1, .int a2, .long a3, .int a4] : List Value).toArray s 0 0 A) (F0 m 65 ls [.int y0, .int y1, .ref h_N]) := by
    intro x1 x2 x6 y0 y1 O_f N_f B_f Y_lo Y_ie Y_ra Y_to Y_te Y_re H locs ls hP hD hS hl hF
    unfold f_Y_store_65 at hF
    have c_65 : ¬ (y1 < 0 ∨ 8 ≤ y1.toNatClampNeg) := hif_n hF
    replace hF := hif_f c_65 hF
    refine va_iast hx hb hK hP hD hS 2 1 rfl rfl c_65 d_Y_store_65 (fun H locs hP hD hS => ?_)
    have hP : va_P (dC, dI) classes [cY h_Y h_O h_N h_B h_G h_K Y_lo Y_ie Y_ra Y_to Y_te Y_re, cL h_O k_O 8 O_f, cI h_N k_N 8 (upd N_f y1.toNatClampNeg y0), cI h_B k_B 8 B_f] H := hP
    have hD : va_D A [cY h_Y h_O h_N h_B h_G h_K Y_lo Y_ie Y_ra Y_to Y_te Y_re, cL h_O k_O 8 O_f, cI h_N k_N 8 (upd N_f y1.toNatClampNeg y0), cI h_B k_B 8 B_f] := hD
    refine lv_aload_n hx hb d_Y_store_66 rfl (lv_at hl 0 rfl) ?_
    refine va_get (D := (dC, dI)) (ci := 2) (v := .ref h_B) (C := "RoundedNumbersModel") (T := F_Y) (N := 11) hx hb hts in_Y hown hK hP 0 rfl rfl 2 (by decide) (hts _ tw_316) (fun _ h9 => h9) rfl d_Y_store_67 ?_
    refine lv_iload_n hx hb d_Y_store_70 rfl (lv_at hl 1 rfl) ?_
    refine lv_iload_n hx hb d_Y_store_71 rfl (lv_at hl 2 rfl) ?_
    refine lv_if_eq (tgt := 86) hx hb d_Y_store_72 (by decide) (fun c_72 => ?_) (fun c_72 => ?_)
    · replace hF := hif_t c_72 hF
      refine lv_iconst (v := (0 : Int32)) hx hb d_Y_store_86 (by decide) ?_
      have c_87 : ¬ (x1 < 0 ∨ 8 ≤ x1.toNatClampNeg) := hif_n hF
      replace hF := hif_f c_87 hF
      refine va_zast hx hb hK hP hD hS 3 2 rfl rfl c_87 d_Y_store_87 (fun H locs hP hD hS => ?_)
      have hP : va_P (dC, dI) classes [cY h_Y h_O h_N h_B h_G h_K Y_lo Y_ie Y_ra Y_to Y_te Y_re, cL h_O k_O 8 O_f, cI h_N k_N 8 (upd N_f y1.toNatClampNeg y0), cI h_B k_B 8 (upd B_f x1.toNatClampNeg (vp_nar .boolean (0 : Int32)))] H := hP
      have hD : va_D A [cY h_Y h_O h_N h_B h_G h_K Y_lo Y_ie Y_ra Y_to Y_te Y_re, cL h_O k_O 8 O_f, cI h_N k_N 8 (upd N_f y1.toNatClampNeg y0), cI h_B k_B 8 (upd B_f x1.toNatClampNeg (vp_nar .boolean (0 : Int32)))] := hD
      obtain rfl := Option.some.inj hF
      exact W.vret hx hb hr (fun t ht hW => ⟨⟨(), rfl, trivial, by rw [ht]; exact hP, va_K.moved hW.alike hK, hD⟩, hS.F ht⟩) hS.2.2 d_Y_store_88
    · replace hF := hif_f c_72 hF
      refine lv_lload hx hb d_Y_store_75 (lv_at hl 3 rfl) ?_
      refine lv_lconst (v := (0 : Int64)) hx hb d_Y_store_77 (by decide) ?_
      refine W.lcmp hx hb d_Y_store_78 ?_
      refine lv_if_le (tgt := 86) hx hb d_Y_store_79 (by decide) (fun c_79 => ?_) (fun c_79 => ?_)
      · replace hF := hif_t c_79 hF
        refine lv_iconst (v := (0 : Int32)) hx hb d_Y_store_86 (by decide) ?_
        have c_87 : ¬ (x1 < 0 ∨ 8 ≤ x1.toNatClampNeg) := hif_n hF
        replace hF := hif_f c_87 hF
        refine va_zast hx hb hK hP hD hS 3 2 rfl rfl c_87 d_Y_store_87 (fun H locs hP hD hS => ?_)
        have hP : va_P (dC, dI) classes [cY h_Y h_O h_N h_B h_G h_K Y_lo Y_ie Y_ra Y_to Y_te Y_re, cL h_O k_O 8 O_f, cI h_N k_N 8 (upd N_f y1.toNatClampNeg y0), cI h_B k_B 8 (upd B_f x1.toNatClampNeg (vp_nar .boolean (0 : Int32)))] H := hP
        have hD : va_D A [cY h_Y h_O h_N h_B h_G h_K Y_lo Y_ie Y_ra Y_to Y_te Y_re, cL h_O k_O 8 O_f, cI h_N k_N 8 (upd N_f y1.toNatClampNeg y0), cI h_B k_B 8 (upd B_f x1.toNatClampNeg (vp_nar .boolean (0 : Int32)))] := hD
        obtain rfl := Option.some.inj hF
        exact W.vret hx hb hr (fun t ht hW => ⟨⟨(), rfl, trivial, by rw [ht]; exact hP, va_K.moved hW.alike hK, hD⟩, hS.F ht⟩) hS.2.2 d_Y_store_88
      · replace hF := hif_f c_79 hF
        refine lv_iconst (v := (1 : Int32)) hx hb d_Y_store_82 (by decide) ?_
        refine lv_goto (tgt := 87) hx hb d_Y_store_83 (by decide) ?_
        have c_87 : ¬ (x1 < 0 ∨ 8 ≤ x1.toNatClampNeg) := hif_n hF
        replace hF := hif_f c_87 hF
        refine va_zast hx hb hK hP hD hS 3 2 rfl rfl c_87 d_Y_store_87 (fun H locs hP hD hS => ?_)
        have hP : va_P (dC, dI) classes [cY h_Y h_O h_N h_B h_G h_K Y_lo Y_ie Y_ra Y_to Y_te Y_re, cL h_O k_O 8 O_f, cI h_N k_N 8 (upd N_f y1.toNatClampNeg y0), cI h_B k_B 8 (upd B_f x1.toNatClampNeg (vp_nar .boolean (1 : Int32)))] H := hP
        have hD : va_D A [cY h_Y h_O h_N h_B h_G h_K Y_lo Y_ie Y_ra Y_to Y_te Y_re, cL h_O k_O 8 O_f, cI h_N k_N 8 (upd N_f y1.toNatClampNeg y0), cI h_B k_B 8 (upd B_f x1.toNatClampNeg (vp_nar .boolean (1 : Int32)))] := hD
        obtain rfl := Option.some.inj hF
        exact W.vret hx hb hr (fun t ht hW => ⟨⟨(), rfl, trivial, by rw [ht]; exact hP, va_K.moved hW.alike hK, hD⟩, hS.F ht⟩) hS.2.2 d_Y_store_88
  have b_39 : ∀ (x1 : Int32) (x2 : Int32) (x6 : Int64) (x8 : Int32) (O_f : Nat → Int64) (N_f : Nat → Int32) (B_f : Nat → Int32) (Y_lo : Int32) (Y_ie : Int32) (Y_ra : Int32) (Y_to : Int64) (Y_te : Int32) (Y_re : Int32) (H : Heap) (locs : List Loc) (ls : Array Slot), va_P (dC, dI) classes [cY h_Y h_O h_N h_B h_G h_K Y_lo Y_ie Y_ra Y_to Y_te Y_re, cL h_O k_O 8 O_f, cI h_N k_N 8 N_f, cI h_B k_B 8 B_f] H → va_D A [cY h_Y h_O h_N h_B h_G h_K Y_lo Y_ie Y_ra Y_to Y_te Y_re, cL h_O k_O 8 O_f, cI h_N k_N 8 N_f, cI h_B k_B 8 B_f] → va_S A s.heap H locs → lv_has ls 9 [(0, .ref h_Y), (1, .int x1), (2, .int x2), (6, .long x6), (8, .int x8)] → f_Y_store_39  x1 x2 x6 x8 O_f N_f B_f = some o → W p l e (headSpec w_Y_store ({ frames := 0, cells := 0, slots := 0, locals := 0 } : Room)).room s m ([.ref h_Y, .int a1, .int a2, .long a3, .int a4] : List Value).toArray below meth c H locs 0 0 (MQ below (va_Qv (fun _ : Unit => True) (fun (_ : Unit) (t : State) => va_P (dC, dI) classes [cY h_Y h_O h_N h_B h_G h_K Y_lo Y_ie Y_ra Y_to Y_te Y_re, cL h_O k_O 8 o.1, cI h_N k_N 8 o.2.1, cI h_B k_B 8 o.2.2] t.heap ∧ va_K (dC, dI) classes [(k_O, .long), (k_N, .int), (k_B, .boolean)] t ∧ va_D A [cY h_Y h_O h_N h_B h_G h_K Y_lo Y_ie Y_ra Y_to Y_te Y_re, cL h_O k_O 8 o.1, cI h_N k_N 8 o.2.1, cI h_B k_B 8 o.2.2]) A) ([.ref h_Y, .int a1, .int a2, .long a3, .int a4] : List Value).toArray s 0 0 A) (F0 m 39 ls []) := by
    intro x1 x2 x6 x8 O_f N_f B_f Y_lo Y_ie Y_ra Y_to Y_te Y_re H locs ls hP hD hS hl hF
    unfold f_Y_store_39 at hF
    refine lv_aload_n hx hb d_Y_store_39 rfl (lv_at hl 0 rfl) ?_
    refine va_get (D := (dC, dI)) (ci := 2) (v := .ref h_O) (C := "RoundedNumbersModel") (T := F_Y) (N := 11) hx hb hts in_Y hown hK hP 0 rfl rfl 0 (by decide) (hts _ tw_314) (fun _ h9 => h9) rfl d_Y_store_40 ?_
    refine lv_iload_n hx hb d_Y_store_43 rfl (lv_at hl 1 rfl) ?_
    refine lv_lload hx hb d_Y_store_44 (lv_at hl 3 rfl) ?_
    have c_46 : ¬ (x1 < 0 ∨ 8 ≤ x1.toNatClampNeg) := hif_n hF
    replace hF := hif_f c_46 hF
    refine va_last hx hb hK hP hD hS 1 0 rfl rfl c_46 d_Y_store_46 (fun H locs hP hD hS => ?_)
    have hP : va_P (dC, dI) classes [cY h_Y h_O h_N h_B h_G h_K Y_lo Y_ie Y_ra Y_to Y_te Y_re, cL h_O k_O 8 (vp_updL O_f x1.toNatClampNeg x6), cI h_N k_N 8 N_f, cI h_B k_B 8 B_f] H := hP
    have hD : va_D A [cY h_Y h_O h_N h_B h_G h_K Y_lo Y_ie Y_ra Y_to Y_te Y_re, cL h_O k_O 8 (vp_updL O_f x1.toNatClampNeg x6), cI h_N k_N 8 N_f, cI h_B k_B 8 B_f] := hD
    refine lv_aload_n hx hb d_Y_store_47 rfl (lv_at hl 0 rfl) ?_
    refine va_get (D := (dC, dI)) (ci := 2) (v := .ref h_N) (C := "RoundedNumbersModel") (T := F_Y) (N := 11) hx hb hts in_Y hown hK hP 0 rfl rfl 1 (by decide) (hts _ tw_315) (fun _ h9 => h9) rfl d_Y_store_48 ?_
    refine lv_iload_n hx hb d_Y_store_51 rfl (lv_at hl 1 rfl) ?_
    refine lv_lload hx hb d_Y_store_52 (lv_at hl 3 rfl) ?_
    refine lv_lconst (v := (0 : Int64)) hx hb d_Y_store_54 (by decide) ?_
    refine W.lcmp hx hb d_Y_store_55 ?_
    refine lv_if_ne (tgt := 63) hx hb d_Y_store_56 (by decide) (fun c_56 => ?_) (fun c_56 => ?_)
    · replace hF := hif_f c_56 hF
      refine lv_iload hx hb d_Y_store_63 (lv_at hl 4 rfl) ?_
      exact b_65 x1 x2 x6 x8 x1 (vp_updL O_f x1.toNatClampNeg x6) N_f B_f Y_lo Y_ie Y_ra Y_to Y_te Y_re _ _ _ hP hD hS (lv_sub hl [0, 1, 2, 3] rfl) hF
    · replace hF := hif_t c_56 hF
      refine lv_iconst (v := (0 : Int32)) hx hb d_Y_store_59 (by decide) ?_
      refine lv_goto (tgt := 65) hx hb d_Y_store_60 (by decide) ?_
      exact b_65 x1 x2 x6 (0 : Int32) x1 (vp_updL O_f x1.toNatClampNeg x6) N_f B_f Y_lo Y_ie Y_ra Y_to Y_te Y_re _ _ _ hP hD hS (lv_sub hl [0, 1, 2, 3] rfl) hF
  have b_7 : ∀ n_ : Nat, ∀ (x1 : Int32) (x2 : Int32) (x6 : Int64) (x8 : Int32) (O_f : Nat → Int64) (N_f : Nat → Int32) (B_f : Nat → Int32) (Y_lo : Int32) (Y_ie : Int32) (Y_ra : Int32) (Y_to : Int64) (Y_te : Int32) (Y_re : Int32) (H : Heap) (locs : List Loc) (ls : Array Slot), va_P (dC, dI) classes [cY h_Y h_O h_N h_B h_G h_K Y_lo Y_ie Y_ra Y_to Y_te Y_re, cL h_O k_O 8 O_f, cI h_N k_N 8 N_f, cI h_B k_B 8 B_f] H → va_D A [cY h_Y h_O h_N h_B h_G h_K Y_lo Y_ie Y_ra Y_to Y_te Y_re, cL h_O k_O 8 O_f, cI h_N k_N 8 N_f, cI h_B k_B 8 B_f] → va_S A s.heap H locs → lv_has ls 9 [(0, .ref h_Y), (1, .int x1), (2, .int x2), (6, .long x6), (8, .int x8)] → f_Y_store_7 n_ x1 x2 x6 x8 O_f N_f B_f = some o → W p l e (headSpec w_Y_store ({ frames := 0, cells := 0, slots := 0, locals := 0 } : Room)).room s m ([.ref h_Y, .int a1, .int a2, .long a3, .int a4] : List Value).toArray below meth c H locs 0 0 (MQ below (va_Qv (fun _ : Unit => True) (fun (_ : Unit) (t : State) => va_P (dC, dI) classes [cY h_Y h_O h_N h_B h_G h_K Y_lo Y_ie Y_ra Y_to Y_te Y_re, cL h_O k_O 8 o.1, cI h_N k_N 8 o.2.1, cI h_B k_B 8 o.2.2] t.heap ∧ va_K (dC, dI) classes [(k_O, .long), (k_N, .int), (k_B, .boolean)] t ∧ va_D A [cY h_Y h_O h_N h_B h_G h_K Y_lo Y_ie Y_ra Y_to Y_te Y_re, cL h_O k_O 8 o.1, cI h_N k_N 8 o.2.1, cI h_B k_B 8 o.2.2]) A) ([.ref h_Y, .int a1, .int a2, .long a3, .int a4] : List Value).toArray s 0 0 A) (F0 m 7 ls []) := by
    intro n_
    induction n_ with
    | zero =>
      intro x1 x2 x6 x8 O_f N_f B_f Y_lo Y_ie Y_ra Y_to Y_te Y_re H locs ls hP hD hS hl hF
      rw [f_Y_store_7] at hF
      exact absurd hF (by simp)
    | succ n_ ih =>
      obtain ⟨k_7, ek_7⟩ : ∃ k, k = f_Y_store_7 n_ := ⟨_, rfl⟩
      rw [← ek_7] at ih
      have hk_7 := ih
      intro x1 x2 x6 x8 O_f N_f B_f Y_lo Y_ie Y_ra Y_to Y_te Y_re H locs ls hP hD hS hl hF
      rw [f_Y_store_7, ← ek_7] at hF
      refine lv_lload hx hb d_Y_store_7 (lv_at hl 3 rfl) ?_
      refine lv_lconst (v := (0 : Int64)) hx hb d_Y_store_9 (by decide) ?_
      refine W.lcmp hx hb d_Y_store_10 ?_
      refine lv_if_le (tgt := 39) hx hb d_Y_store_11 (by decide) (fun c_11 => ?_) (fun c_11 => ?_)
      · replace hF := hif_t c_11 hF
        exact b_39 x1 x2 x6 x8 O_f N_f B_f Y_lo Y_ie Y_ra Y_to Y_te Y_re _ _ _ hP hD hS (lv_sub hl [0, 1, 2, 3, 4] rfl) hF
      · replace hF := hif_f c_11 hF
        refine lv_lload hx hb d_Y_store_14 (lv_at hl 3 rfl) ?_
        refine lv_ldc2 (v := (2 : Int64)) hx hb hown (hts _ tw_372) d_Y_store_16 ?_
        refine lv_lrem hx hb d_Y_store_19 (by decide) ?_
        refine lv_lconst (v := (0 : Int64)) hx hb d_Y_store_20 (by decide) ?_
        refine W.lcmp hx hb d_Y_store_21 ?_
        refine lv_if_ne (tgt := 39) hx hb d_Y_store_22 (by decide) (fun c_22 => ?_) (fun c_22 => ?_)
        · replace hF := hif_f c_22 hF
          exact b_39 x1 x2 x6 x8 O_f N_f B_f Y_lo Y_ie Y_ra Y_to Y_te Y_re _ _ _ hP hD hS (lv_sub hl [0, 1, 2, 3, 4] rfl) hF
        · replace hF := hif_t c_22 hF
          refine lv_lload hx hb d_Y_store_25 (lv_at hl 3 rfl) ?_
          refine lv_ldc2 (v := (2 : Int64)) hx hb hown (hts _ tw_372) d_Y_store_27 ?_
          refine lv_ldiv hx hb d_Y_store_30 (by decide) ?_
          refine lv_lstore (lv' := [(6, .long (x6 / (2 : Int64))), (0, .ref h_Y), (1, .int x1), (2, .int x2), (8, .int x8)]) hx hb d_Y_store_31 hl (by decide) rfl (fun ls hl => ?_)
          refine lv_iinc (v := (x8 + (1 : Int32))) (lv' := [(8, .int (x8 + (1 : Int32))), (6, .long (x6 / (2 : Int64))), (0, .ref h_Y), (1, .int x1), (2, .int x2)]) hx hb d_Y_store_33 hl (k := 4) rfl rfl (by decide) rfl (fun ls hl => ?_)
          refine lv_goto (tgt := 7) hx hb d_Y_store_36 (by decide) ?_
          exact hk_7 x1 x2 (x6 / (2 : Int64)) (x8 + (1 : Int32)) O_f N_f B_f Y_lo Y_ie Y_ra Y_to Y_te Y_re _ _ _ hP hD hS (lv_sub hl [2, 3, 4, 1, 0] rfl) hF
  unfold f_Y_store at hF
  refine lv_lload_n hx hb d_Y_store_0 rfl (lv_at hl 3 rfl) ?_
  refine lv_lstore (lv' := [(6, .long a3), (0, .ref h_Y), (1, .int a1), (2, .int a2), (3, .long a3), (5, .int a4)]) hx hb d_Y_store_1 hl (by decide) rfl (fun ls hl => ?_)
  refine lv_iload hx hb d_Y_store_3 (lv_at hl 5 rfl) ?_
  refine lv_istore (lv' := [(8, .int a4), (6, .long a3), (0, .ref h_Y), (1, .int a1), (2, .int a2), (3, .long a3), (5, .int a4)]) hx hb d_Y_store_5 hl (by decide) rfl (fun ls hl => ?_)
  exact b_7 1000 a1 a2 a3 a4 O_f N_f B_f Y_lo Y_ie Y_ra Y_to Y_te Y_re _ _ _ hP hD hS (lv_sub hl [2, 3, 4, 1, 0] rfl) hF
set_option maxHeartbeats 4000000 in
set_option maxRecDepth 100000 in
theorem c_Y_finish (l : Launch) (dC : Nat → ClassId) (dI : Nat → Nat → Nat) (h_Y : Nat) (h_O : Nat) (h_N : Nat) (h_B : Nat) (h_G : Nat) (h_K : Nat) (k_O : ClassId) (k_N : ClassId) (k_B : ClassId) (sz : Nat) (Y_lo : Int32) (Y_ie : Int32) (Y_ra : Int32) (Y_to : Int64) (Y_te : Int32) (Y_re : Int32) (O_f : Nat → Int64) (N_f : Nat → Int32) (B_f : Nat → Int32) (a1 : Int32) (a2 : Int32) (a3 : Int64) (a4 : Int32) (a5 : Int32) (o : Int32 × Int32 × Int32 × Int32 × (Nat → Int64) × (Nat → Int32) × (Nat → Int32)) (hF : f_Y_finish Y_lo Y_ie Y_ra O_f N_f B_f a1 a2 a3 a4 a5 = some o) : Met l y_Y_finish w_Y_finish ({ frames := 2, cells := 0, slots := 0, locals := 47 } : Room) (va_Pc [.ref h_Y, .int a1, .int a2, .long a3, .int a4, .int a5] (fun U => U.heap.size = sz ∧ va_P (dC, dI) classes [cY h_Y h_O h_N h_B h_G h_K Y_lo Y_ie Y_ra Y_to Y_te Y_re, cL h_O k_O 8 O_f, cI h_N k_N 8 N_f, cI h_B k_B 8 B_f] U.heap ∧ va_K (dC, dI) classes [(k_O, .long), (k_N, .int), (k_B, .boolean)] U ∧ va_D (fun _ => True) [cY h_Y h_O h_N h_B h_G h_K Y_lo Y_ie Y_ra Y_to Y_te Y_re, cL h_O k_O 8 O_f, cI h_N k_N 8 N_f, cI h_B k_B 8 B_f])) (va_Qi (fun (r : Int32) (_ : Unit) => r = o.1) (fun (_ : Unit) (t : State) => va_P (dC, dI) classes [cY h_Y h_O h_N h_B h_G h_K o.2.1 o.2.2.1 o.2.2.2.1 Y_to Y_te Y_re, cL h_O k_O 8 o.2.2.2.2.1, cI h_N k_N 8 o.2.2.2.2.2.1, cI h_B k_B 8 o.2.2.2.2.2.2] t.heap ∧ va_K (dC, dI) classes [(k_O, .long), (k_N, .int), (k_B, .boolean)] t ∧ va_D (va_A [cY h_Y h_O h_N h_B h_G h_K Y_lo Y_ie Y_ra Y_to Y_te Y_re, cL h_O k_O 8 O_f, cI h_N k_N 8 N_f, cI h_B k_B 8 B_f] sz) [cY h_Y h_O h_N h_B h_G h_K o.2.1 o.2.2.1 o.2.2.2.1 Y_to Y_te Y_re, cL h_O k_O 8 o.2.2.2.2.1, cI h_N k_N 8 o.2.2.2.2.2.1, cI h_B k_B 8 o.2.2.2.2.2.2]) (va_A [cY h_Y h_O h_N h_B h_G h_K Y_lo Y_ie Y_ra Y_to Y_te Y_re, cL h_O k_O 8 O_f, cI h_N k_N 8 N_f, cI h_B k_B 8 B_f] sz)) 0 0 (va_A [cY h_Y h_O h_N h_B h_G h_K Y_lo Y_ie Y_ra Y_to Y_te Y_re, cL h_O k_O 8 O_f, cI h_N k_N 8 N_f, cI h_B k_B 8 B_f] sz) := by
  refine Met.ofW (cc := prog_4_method_8_code) (maxL := 7) (ret := (some .int)) (by decide) rfl ?_
  intro p e s m args below meth c s₁ B hml hv
  obtain ⟨rfl, hsz, hP, hK, hD0⟩ := hv
  have hx := B.exec
  have hb := B.bytes
  have hr := B.returns
  have hts0 := atoms_spec (ws := w_Y_finish) B.pre
  have hts : ∀ w ∈ tb, w.before _ s = true := fun w h => hts0 w (List.mem_cons_of_mem _ h)
  clear hts0
  have hown : s.vm.findClass "RoundedNumbersModel" = some m.cls := findClass_of_methodNamed B.named
  have hlocks := B.notSynchronized
  subst hsz
  have hD := hD0.self (sz := s.heap.size)
  generalize hAe : va_A [cY h_Y h_O h_N h_B h_G h_K Y_lo Y_ie Y_ra Y_to Y_te Y_re, cL h_O k_O 8 O_f, cI h_N k_N 8 N_f, cI h_B k_B 8 B_f] s.heap.size = A at hD ⊢
  have hA : ∀ q : Nat, s.heap.size ≤ q → A q := fun q h => by rw [← hAe]; exact Or.inr h
  clear hAe
  have hS : va_S A s.heap s.heap [] := va_S.rf
  have hP : va_P (dC, dI) classes [cY h_Y h_O h_N h_B h_G h_K Y_lo Y_ie Y_ra Y_to Y_te Y_re, cL h_O k_O 8 O_f, cI h_N k_N 8 N_f, cI h_B k_B 8 B_f] s.heap := hP
  have hl := lv_entry ([.ref h_Y, .int a1, .int a2, .long a3, .int a4, .int a5]) (n := 7) (Nat.le_of_ble_eq_true rfl)
  rw [lg_entry_eq]
  generalize (lg_sl ([.ref h_Y, .int a1, .int a2, .long a3, .int a4, .int a5]) ++ List.replicate (7 - (lg_sl ([.ref h_Y, .int a1, .int a2, .long a3, .int a4, .int a5])).length) Slot.unset).toArray = ls at hl ⊢
  have hl : lv_has ls 7 [(0, .ref h_Y), (1, .int a1), (2, .int a2), (3, .long a3), (5, .int a4), (6, .int a5)] := hl
  have b_42 : ∀ (x6 : Int32) (y0 : Int32) (Y_lo : Int32) (Y_ie : Int32) (Y_ra : Int32) (O_f : Nat → Int64) (N_f : Nat → Int32) (B_f : Nat → Int32) (Y_to : Int64) (Y_te : Int32) (Y_re : Int32) (H : Heap) (locs : List Loc) (ls : Array Slot), va_P (dC, dI) classes [cY h_Y h_O h_N h_B h_G h_K Y_lo Y_ie Y_ra Y_to Y_te Y_re, cL h_O k_O 8 O_f, cI h_N k_N 8 N_f, cI h_B k_B 8 B_f] H → va_D A [cY h_Y h_O h_N h_B h_G h_K Y_lo Y_ie Y_ra Y_to Y_te Y_re, cL h_O k_O 8 O_f, cI h_N k_N 8 N_f, cI h_B k_B 8 B_f] → va_S A s.heap H locs → lv_has ls 7 [(0, .ref h_Y), (6, .int x6)] → f_Y_finish_42  x6 y0 Y_lo Y_ie Y_ra O_f N_f B_f = some o → W p l e (headSpec w_Y_finish ({ frames := 2, cells := 0, slots := 0, locals := 47 } : Room)).room s m ([.ref h_Y, .int a1, .int a2, .long a3, .int a4, .int a5] : List Value).toArray below meth c H locs 0 0 (MQ below (va_Qi (fun (r : Int32) (_ : Unit) => r = o.1) (fun (_ : Unit) (t : State) => va_P (dC, dI) classes [cY h_Y h_O h_N h_B h_G h_K o.2.1 o.2.2.1 o.2.2.2.1 Y_to Y_te Y_re, cL h_O k_O 8 o.2.2.2.2.1, cI h_N k_N 8 o.2.2.2.2.2.1, cI h_B k_B 8 o.2.2.2.2.2.2] t.heap ∧ va_K (dC, dI) classes [(k_O, .long), (k_N, .int), (k_B, .boolean)] t ∧ va_D A [cY h_Y h_O h_N h_B h_G h_K o.2.1 o.2.2.1 o.2.2.2.1 Y_to Y_te Y_re, cL h_O k_O 8 o.2.2.2.2.1, cI h_N k_N 8 o.2.2.2.2.2.1, cI h_B k_B 8 o.2.2.2.2.2.2]) A) ([.ref h_Y, .int a1, .int a2, .long a3, .int a4, .int a5] : List Value).toArray s 0 0 A) (F0 m 42 ls [.int y0, .ref h_Y]) := by
    intro x6 y0 Y_lo Y_ie Y_ra O_f N_f B_f Y_to Y_te Y_re H locs ls hP hD hS hl hF
    unfold f_Y_finish_42 at hF
    refine va_put (D := (dC, dI)) (ci := 2) (v := .int y0) (ty := .int) (C := "RoundedNumbersModel") (T := F_Y) (N := 11) hx hb hts in_Y t_Y t_Y_ok n_Y hown hK hP hD hS 0 rfl rfl 3 (by decide) (hts _ tw_317) (fun _ h9 => h9) rfl (by decide +kernel) rfl rfl (Nat.le_of_ble_eq_true rfl) d_Y_finish_42 (fun H locs hP hD hS => ?_)
    have hP : va_P (dC, dI) classes [cY h_Y h_O h_N h_B h_G h_K y0 Y_ie Y_ra Y_to Y_te Y_re, cL h_O k_O 8 O_f, cI h_N k_N 8 N_f, cI h_B k_B 8 B_f] H := hP
    have hD : va_D A [cY h_Y h_O h_N h_B h_G h_K y0 Y_ie Y_ra Y_to Y_te Y_re, cL h_O k_O 8 O_f, cI h_N k_N 8 N_f, cI h_B k_B 8 B_f] := hD
    refine lv_iload hx hb d_Y_finish_45 (lv_at hl 1 rfl) ?_
    refine lv_if_eq (tgt := 60) hx hb d_Y_finish_47 (by decide) (fun c_47 => ?_) (fun c_47 => ?_)
    · replace hF := hif_t c_47 hF
      refine lv_iconst (v := (0 : Int32)) hx hb d_Y_finish_60 (by decide) ?_
      obtain rfl := Option.some.inj hF
      exact W.iret (v := (0 : Int32)) hx hb hr (fun t ht hW => ⟨⟨(0 : Int32), (), rfl, rfl, by rw [ht]; exact hP, va_K.moved hW.alike hK, hD⟩, hS.F ht⟩) hS.2.2 d_Y_finish_61
    · replace hF := hif_f c_47 hF
      refine lv_aload_n hx hb d_Y_finish_50 rfl (lv_at hl 0 rfl) ?_
      refine lv_dup hx hb d_Y_finish_51 rfl ?_
      refine va_get (D := (dC, dI)) (ci := 2) (v := .int Y_ie) (C := "RoundedNumbersModel") (T := F_Y) (N := 11) hx hb hts in_Y hown hK hP 0 rfl rfl 4 (by decide) (hts _ tw_318) (fun _ h9 => h9) rfl d_Y_finish_52 ?_
      refine lv_iconst (v := (1 : Int32)) hx hb d_Y_finish_55 (by decide) ?_
      refine lv_iadd hx hb d_Y_finish_56 ?_
      refine va_put (D := (dC, dI)) (ci := 2) (v := .int (Y_ie + (1 : Int32))) (ty := .int) (C := "RoundedNumbersModel") (T := F_Y) (N := 11) hx hb hts in_Y t_Y t_Y_ok n_Y hown hK hP hD hS 0 rfl rfl 4 (by decide) (hts _ tw_318) (fun _ h9 => h9) rfl (by decide +kernel) rfl rfl (Nat.le_of_ble_eq_true rfl) d_Y_finish_57 (fun H locs hP hD hS => ?_)
      have hP : va_P (dC, dI) classes [cY h_Y h_O h_N h_B h_G h_K y0 (Y_ie + (1 : Int32)) Y_ra Y_to Y_te Y_re, cL h_O k_O 8 O_f, cI h_N k_N 8 N_f, cI h_B k_B 8 B_f] H := hP
      have hD : va_D A [cY h_Y h_O h_N h_B h_G h_K y0 (Y_ie + (1 : Int32)) Y_ra Y_to Y_te Y_re, cL h_O k_O 8 O_f, cI h_N k_N 8 N_f, cI h_B k_B 8 B_f] := hD
      refine lv_iconst (v := (0 : Int32)) hx hb d_Y_finish_60 (by decide) ?_
      obtain rfl := Option.some.inj hF
      exact W.iret (v := (0 : Int32)) hx hb hr (fun t ht hW => ⟨⟨(0 : Int32), (), rfl, rfl, by rw [ht]; exact hP, va_K.moved hW.alike hK, hD⟩, hS.F ht⟩) hS.2.2 d_Y_finish_61
  have b_20 : ∀ (x1 : Int32) (x2 : Int32) (x3 : Int64) (x5 : Int32) (x6 : Int32) (Y_lo : Int32) (Y_ie : Int32) (Y_ra : Int32) (O_f : Nat → Int64) (N_f : Nat → Int32) (B_f : Nat → Int32) (Y_to : Int64) (Y_te : Int32) (Y_re : Int32) (H : Heap) (locs : List Loc) (ls : Array Slot), va_P (dC, dI) classes [cY h_Y h_O h_N h_B h_G h_K Y_lo Y_ie Y_ra Y_to Y_te Y_re, cL h_O k_O 8 O_f, cI h_N k_N 8 N_f, cI h_B k_B 8 B_f] H → va_D A [cY h_Y h_O h_N h_B h_G h_K Y_lo Y_ie Y_ra Y_to Y_te Y_re, cL h_O k_O 8 O_f, cI h_N k_N 8 N_f, cI h_B k_B 8 B_f] → va_S A s.heap H locs → lv_has ls 7 [(0, .ref h_Y), (1, .int x1), (2, .int x2), (3, .long x3), (5, .int x5), (6, .int x6)] → f_Y_finish_20  x1 x2 x3 x5 x6 Y_lo Y_ie Y_ra O_f N_f B_f = some o → W p l e (headSpec w_Y_finish ({ frames := 2, cells := 0, slots := 0, locals := 47 } : Room)).room s m ([.ref h_Y, .int a1, .int a2, .long a3, .int a4, .int a5] : List Value).toArray below meth c H locs 0 0 (MQ below (va_Qi (fun (r : Int32) (_ : Unit) => r = o.1) (fun (_ : Unit) (t : State) => va_P (dC, dI) classes [cY h_Y h_O h_N h_B h_G h_K o.2.1 o.2.2.1 o.2.2.2.1 Y_to Y_te Y_re, cL h_O k_O 8 o.2.2.2.2.1, cI h_N k_N 8 o.2.2.2.2.2.1, cI h_B k_B 8 o.2.2.2.2.2.2] t.heap ∧ va_K (dC, dI) classes [(k_O, .long), (k_N, .int), (k_B, .boolean)] t ∧ va_D A [cY h_Y h_O h_N h_B h_G h_K o.2.1 o.2.2.1 o.2.2.2.1 Y_to Y_te Y_re, cL h_O k_O 8 o.2.2.2.2.1, cI h_N k_N 8 o.2.2.2.2.2.1, cI h_B k_B 8 o.2.2.2.2.2.2]) A) ([.ref h_Y, .int a1, .int a2, .long a3, .int a4, .int a5] : List Value).toArray s 0 0 A) (F0 m 20 ls []) := by
    intro x1 x2 x3 x5 x6 Y_lo Y_ie Y_ra O_f N_f B_f Y_to Y_te Y_re H locs ls hP hD hS hl hF
    unfold f_Y_finish_20 at hF
    refine lv_aload_n hx hb d_Y_finish_20 rfl (lv_at hl 0 rfl) ?_
    refine lv_iload_n hx hb d_Y_finish_21 rfl (lv_at hl 1 rfl) ?_
    refine lv_iload_n hx hb d_Y_finish_22 rfl (lv_at hl 2 rfl) ?_
    refine lv_lload_n hx hb d_Y_finish_23 rfl (lv_at hl 3 rfl) ?_
    refine lv_iload hx hb d_Y_finish_24 (lv_at hl 4 rfl) ?_
    obtain ⟨q_26, hC_26, hF⟩ := hbd hF
    have hPc := hP.sub (ws' := [cY h_Y h_O h_N h_B h_G h_K Y_lo Y_ie Y_ra Y_to Y_te Y_re, cL h_O k_O 8 O_f, cI h_N k_N 8 N_f, cI h_B k_B 8 B_f]) [0, 1, 2, 3] rfl
    have hDc := hD.sub (ws' := [cY h_Y h_O h_N h_B h_G h_K Y_lo Y_ie Y_ra Y_to Y_te Y_re, cL h_O k_O 8 O_f, cI h_N k_N 8 N_f, cI h_B k_B 8 B_f]) [0, 1, 2, 3] (by decide) rfl
    have hKc := hK.sub (tys' := [(k_O, .long), (k_N, .int), (k_B, .boolean)]) [0, 1, 2] rfl
    have hFc := va_free (wc := [cY h_Y h_O h_N h_B h_G h_K Y_lo Y_ie Y_ra Y_to Y_te Y_re, cL h_O k_O 8 O_f, cI h_N k_N 8 N_f, cI h_B k_B 8 B_f]) hD hS hA [0, 1, 2, 3] rfl
    refine va_callv (va_runV (As := [.int x1, .int x2, .long x3, .int x5]) (rest := []) ⟨hx, hb, hml, hown, hts⟩ (c_Y_store l dC dI h_Y h_O h_N h_B h_G h_K k_O k_N k_B H.size Y_lo Y_ie Y_ra Y_to Y_te Y_re O_f N_f B_f x1 x2 x3 x5 q_26 hC_26) (cwV 4 hts g_Y_47_Y_store rfl rfl rfl (by decide +kernel) ⟨Nat.le_of_ble_eq_true rfl, Nat.le_of_ble_eq_true rfl⟩) ⟨fun a U g mk q => by obtain ⟨q0, q1, qP, qK, qD⟩ := q; exact ⟨q0, q1, qP, va_K.moved (u := U) (U := U.calling g mk a) (Vm.Alike.refl U.vm) qK, qD⟩, va_recv hKc hPc (ci := 2) (q0 := 0) rfl rfl, fun U hU hW => ⟨rfl, by rw [hU], by rw [hU]; exact hPc, va_K.moved hW.alike hKc, hDc.weaken (fun _ _ _ _ => trivial)⟩⟩ rfl rfl hl.1 rfl (lv_room (Nat.le_of_ble_eq_true rfl)) d_Y_finish_26 ⟨Nat.zero_le _, Nat.zero_le _⟩) hS (fun q _ h => hFc q h) hFc (fun u t H1 locs ht hvm hw hB hz1 hk1 hS => ?_)
    obtain ⟨hP1, hK1, hD1⟩ := hB
    rw [ht] at hP1
    obtain ⟨hP, hD⟩ := va_join (wr := []) (w1 := [cY h_Y h_O h_N h_B h_G h_K Y_lo Y_ie Y_ra Y_to Y_te Y_re, cL h_O k_O 8 q_26.1, cI h_N k_N 8 q_26.2.1, cI h_B k_B 8 q_26.2.2]) hP hD [0, 1, 2, 3] [] rfl rfl (by decide) (by decide) hk1 hFc hP1 hD1
    generalize H1 = H at hP hS ⊢
    have hP := hP.sub (ws' := [cY h_Y h_O h_N h_B h_G h_K Y_lo Y_ie Y_ra Y_to Y_te Y_re, cL h_O k_O 8 q_26.1, cI h_N k_N 8 q_26.2.1, cI h_B k_B 8 q_26.2.2]) [0, 1, 2, 3] rfl
    have hD := hD.sub (ws' := [cY h_Y h_O h_N h_B h_G h_K Y_lo Y_ie Y_ra Y_to Y_te Y_re, cL h_O k_O 8 q_26.1, cI h_N k_N 8 q_26.2.1, cI h_B k_B 8 q_26.2.2]) [0, 1, 2, 3] (by decide) rfl
    refine lv_aload_n hx hb d_Y_finish_29 rfl (lv_at hl 0 rfl) ?_
    refine lv_iload_n hx hb d_Y_finish_30 rfl (lv_at hl 2 rfl) ?_
    refine lv_if_eq (tgt := 40) hx hb d_Y_finish_31 (by decide) (fun c_31 => ?_) (fun c_31 => ?_)
    · replace hF := hif_t c_31 hF
      refine lv_iload hx hb d_Y_finish_40 (lv_at hl 5 rfl) ?_
      exact b_42 x6 x6 Y_lo Y_ie Y_ra q_26.1 q_26.2.1 q_26.2.2 Y_to Y_te Y_re _ _ _ hP hD hS (lv_sub hl [0, 5] rfl) hF
    · replace hF := hif_f c_31 hF
      refine lv_iload hx hb d_Y_finish_34 (lv_at hl 5 rfl) ?_
      refine lv_ineg hx hb d_Y_finish_36 ?_
      refine lv_goto (tgt := 42) hx hb d_Y_finish_37 (by decide) ?_
      exact b_42 x6 (-x6) Y_lo Y_ie Y_ra q_26.1 q_26.2.1 q_26.2.2 Y_to Y_te Y_re _ _ _ hP hD hS (lv_sub hl [0, 5] rfl) hF
  unfold f_Y_finish at hF
  refine lv_lload_n hx hb d_Y_finish_0 rfl (lv_at hl 3 rfl) ?_
  refine lv_lconst (v := (0 : Int64)) hx hb d_Y_finish_1 (by decide) ?_
  refine W.lcmp hx hb d_Y_finish_2 ?_
  refine lv_if_eq (tgt := 20) hx hb d_Y_finish_3 (by decide) (fun c_3 => ?_) (fun c_3 => ?_)
  · replace hF := hif_t c_3 hF
    exact b_20 a1 a2 a3 a4 a5 Y_lo Y_ie Y_ra O_f N_f B_f Y_to Y_te Y_re _ _ _ hP hD hS (lv_sub hl [0, 1, 2, 3, 4, 5] rfl) hF
  · replace hF := hif_f c_3 hF
    refine lv_lload_n hx hb d_Y_finish_6 rfl (lv_at hl 3 rfl) ?_
    refine lv_iload hx hb d_Y_finish_7 (lv_at hl 4 rfl) ?_
    obtain ⟨q_9, hC_9, hF⟩ := hbd hF
    have hPc := hP.sub (ws' := []) [] rfl
    have hDc := hD.sub (ws' := []) [] (by decide) rfl
    have hKc := hK.sub (tys' := []) [] rfl
    have hFc := va_free (wc := []) hD hS hA [] rfl
    refine va_calli (va_runS (As := [.long a3, .int a4]) (rest := []) ⟨hx, hb, hml, hown, hts⟩ (c_Y_inRange l dC dI s.heap.size a3 a4 q_9 hC_9) (cwS 2 hts g_Y_39_Y_inRange rfl rfl rfl (by decide +kernel) ⟨Nat.le_of_ble_eq_true rfl, Nat.le_of_ble_eq_true rfl⟩) ⟨fun a U g mk q => by obtain ⟨q0, q1, qP, qK, qD⟩ := q; exact ⟨q0, q1, qP, va_K.moved (u := U) (U := U.calling g mk a) (Vm.Alike.refl U.vm) qK, qD⟩, fun U hU hW => ⟨rfl, by rw [hU], by rw [hU]; exact hPc, va_K.moved hW.alike hKc, hDc.weaken (fun _ _ _ _ => trivial)⟩⟩ rfl rfl hl.1 rfl (lv_room (Nat.le_of_ble_eq_true rfl)) d_Y_finish_9 ⟨Nat.zero_le _, Nat.zero_le _⟩) hS (fun q _ h => hFc q h) hFc (fun r u t H1 locs ht hvm hw hB hz1 hk1 hS => ?_)
    obtain ⟨hP1, hK1, hD1⟩ := hB
    replace hw := hw.symm
    subst hw
    rw [ht] at hP1
    obtain ⟨hP, hD⟩ := va_join (wr := [cY h_Y h_O h_N h_B h_G h_K Y_lo Y_ie Y_ra Y_to Y_te Y_re, cL h_O k_O 8 O_f, cI h_N k_N 8 N_f, cI h_B k_B 8 B_f]) (w1 := []) hP hD [] [0, 1, 2, 3] rfl rfl (by decide) (by decide) hk1 hFc hP1 hD1
    generalize H1 = H at hP hS ⊢
    have hP := hP.sub (ws' := [cY h_Y h_O h_N h_B h_G h_K Y_lo Y_ie Y_ra Y_to Y_te Y_re, cL h_O k_O 8 O_f, cI h_N k_N 8 N_f, cI h_B k_B 8 B_f]) [0, 1, 2, 3] rfl
    have hD := hD.sub (ws' := [cY h_Y h_O h_N h_B h_G h_K Y_lo Y_ie Y_ra Y_to Y_te Y_re, cL h_O k_O 8 O_f, cI h_N k_N 8 N_f, cI h_B k_B 8 B_f]) [0, 1, 2, 3] (by decide) rfl
    refine lv_if_ne (tgt := 20) hx hb d_Y_finish_12 (by decide) (fun c_12 => ?_) (fun c_12 => ?_)
    · replace hF := hif_f c_12 hF
      exact b_20 a1 a2 a3 a4 a5 Y_lo Y_ie Y_ra O_f N_f B_f Y_to Y_te Y_re _ _ _ hP hD hS (lv_sub hl [0, 1, 2, 3, 4, 5] rfl) hF
    · replace hF := hif_t c_12 hF
      refine lv_aload_n hx hb d_Y_finish_15 rfl (lv_at hl 0 rfl) ?_
      obtain ⟨q_16, hC_16, hF⟩ := hbd hF
      have hPc := hP.sub (ws' := [cY h_Y h_O h_N h_B h_G h_K Y_lo Y_ie Y_ra Y_to Y_te Y_re]) [0] rfl
      have hDc := hD.sub (ws' := [cY h_Y h_O h_N h_B h_G h_K Y_lo Y_ie Y_ra Y_to Y_te Y_re]) [0] (by decide) rfl
      have hKc := hK.sub (tys' := []) [] rfl
      have hFc := va_free (wc := [cY h_Y h_O h_N h_B h_G h_K Y_lo Y_ie Y_ra Y_to Y_te Y_re]) hD hS hA [0] rfl
      refine va_calli (va_runV (As := []) (rest := []) ⟨hx, hb, hml, hown, hts⟩ (c_Y_range l dC dI h_Y h_O h_N h_B h_G h_K H.size Y_lo Y_ie Y_ra Y_to Y_te Y_re q_16 hC_16) (cwV 0 hts g_Y_43_Y_range rfl rfl rfl (by decide +kernel) ⟨Nat.le_of_ble_eq_true rfl, Nat.le_of_ble_eq_true rfl⟩) ⟨fun a U g mk q => by obtain ⟨q0, q1, qP, qK, qD⟩ := q; exact ⟨q0, q1, qP, va_K.moved (u := U) (U := U.calling g mk a) (Vm.Alike.refl U.vm) qK, qD⟩, va_recv hKc hPc (ci := 2) (q0 := 0) rfl rfl, fun U hU hW => ⟨rfl, by rw [hU], by rw [hU]; exact hPc, va_K.moved hW.alike hKc, hDc.weaken (fun _ _ _ _ => trivial)⟩⟩ rfl rfl hl.1 rfl (lv_room (Nat.le_of_ble_eq_true rfl)) d_Y_finish_16 ⟨Nat.zero_le _, Nat.zero_le _⟩) hS (fun q _ h => hFc q h) hFc (fun r u t H1 locs ht hvm hw hB hz1 hk1 hS => ?_)
      obtain ⟨hP1, hK1, hD1⟩ := hB
      replace hw := hw.symm
      subst hw
      rw [ht] at hP1
      obtain ⟨hP, hD⟩ := va_join (wr := [cL h_O k_O 8 O_f, cI h_N k_N 8 N_f, cI h_B k_B 8 B_f]) (w1 := [cY h_Y h_O h_N h_B h_G h_K Y_lo Y_ie q_16.2 Y_to Y_te Y_re]) hP hD [0] [1, 2, 3] rfl rfl (by decide) (by decide) hk1 hFc hP1 hD1
      generalize H1 = H at hP hS ⊢
      have hP := hP.sub (ws' := [cY h_Y h_O h_N h_B h_G h_K Y_lo Y_ie q_16.2 Y_to Y_te Y_re, cL h_O k_O 8 O_f, cI h_N k_N 8 N_f, cI h_B k_B 8 B_f]) [3, 0, 1, 2] rfl
      have hD := hD.sub (ws' := [cY h_Y h_O h_N h_B h_G h_K Y_lo Y_ie q_16.2 Y_to Y_te Y_re, cL h_O k_O 8 O_f, cI h_N k_N 8 N_f, cI h_B k_B 8 B_f]) [3, 0, 1, 2] (by decide) rfl
      obtain rfl := Option.some.inj hF
      exact W.iret (v := q_16.1) hx hb hr (fun t ht hW => ⟨⟨q_16.1, (), rfl, rfl, by rw [ht]; exact hP, va_K.moved hW.alike hK, hD⟩, hS.F ht⟩) hS.2.2 d_Y_finish_19
