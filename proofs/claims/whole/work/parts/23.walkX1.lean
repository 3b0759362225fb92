set_option maxHeartbeats 4000000 in
set_option maxRecDepth 100000 in
theorem c_X_topOf (l : Launch) (dC : Nat → ClassId) (dI : Nat → Nat → Nat) (h_X : Nat) (h_M : Nat) (h_P : Nat) (h_E1 : Nat) (h_E2 : Nat) (h_E3 : Nat) (k_P : ClassId) (sz : Nat) (X_lo : Int32) (X_ro : Int32) (X_rc : Int32) (P_f : Nat → Int32) (a1 : Int32) (o : Int32) (hF : f_X_topOf P_f a1 = some o) : Met l y_X_topOf w_X_topOf ({ frames := 0, cells := 0, slots := 0, locals := 0 } : Room) (va_Pc [.ref h_X, .int a1] (fun U => U.heap.size = sz ∧ va_P (dC, dI) classes [cX h_X h_M h_P h_E1 h_E2 h_E3 X_lo X_ro X_rc, cI h_P k_P 8 P_f] U.heap ∧ va_K (dC, dI) classes [(k_P, .int)] U ∧ va_D (fun _ => True) [cX h_X h_M h_P h_E1 h_E2 h_E3 X_lo X_ro X_rc, cI h_P k_P 8 P_f])) (va_Qi (fun (r : Int32) (_ : Unit) => r = o) (fun (_ : Unit) (t : State) => va_P (dC, dI) classes [cX h_X h_M h_P h_E1 h_E2 h_E3 X_lo X_ro X_rc, cI h_P k_P 8 P_f] t.heap ∧ va_K (dC, dI) classes [(k_P, .int)] t ∧ va_D (va_A [cX h_X h_M h_P h_E1 h_E2 h_E3 X_lo X_ro X_rc, cI h_P k_P 8 P_f] sz) [cX h_X h_M h_P h_E1 h_E2 h_E3 X_lo X_ro X_rc, cI h_P k_P 8 P_f]) (va_A [cX h_X h_M h_P h_E1 h_E2 h_E3 X_lo X_ro X_rc, cI h_P k_P 8 P_f] sz)) 0 0 (va_A [cX h_X h_M h_P h_E1 h_E2 h_E3 X_lo X_ro X_rc, cI h_P k_P 8 P_f] sz) := by
  refine Met.ofW (cc := prog_1_method_24_code) (maxL := 2) (ret := (some .int)) (by decide) rfl ?_
  intro p e s m args below meth c s₁ B hml hv
  obtain ⟨rfl, hsz, hP, hK, hD0⟩ := hv
  have hx := B.exec
  have hb := B.bytes
  have hr := B.returns
  have hts0 := atoms_spec (ws := w_X_topOf) B.pre
  have hts : ∀ w ∈ tb, w.before _ s = true := fun w h => hts0 w (List.mem_cons_of_mem _ h)
  clear hts0
  have hown : s.vm.findClass "RoundedNumbers" = some m.cls := findClass_of_methodNamed B.named
  have hlocks := B.notSynchronized
  subst hsz
  have hD := hD0.self (sz := s.heap.size)
  generalize hAe : va_A [cX h_X h_M h_P h_E1 h_E2 h_E3 X_lo X_ro X_rc, cI h_P k_P 8 P_f] s.heap.size = A at hD ⊢
  have hA : ∀ q : Nat, s.heap.size ≤ q → A q := fun q h => by rw [← hAe]; exact Or.inr h
  clear hAe
  have hS : va_S A s.heap s.heap [] := va_S.rf
  have hP : va_P (dC, dI) classes [cX h_X h_M h_P h_E1 h_E2 h_E3 X_lo X_ro X_rc, cI h_P k_P 8 P_f] s.heap := hP
  have hl := lv_entry ([.ref h_X, .int a1]) (n := 2) (Nat.le_of_ble_eq_true rfl)
  rw [lg_entry_eq]
  generalize (lg_sl ([.ref h_X, .int a1]) ++ List.replicate (2 - (lg_sl ([.ref h_X, .int a1])).length) Slot.unset).toArray = ls at hl ⊢
  have hl : lv_has ls 2 [(0, .ref h_X), (1, .int a1)] := hl
  unfold f_X_topOf at hF
  refine lv_aload_n hx hb d_X_topOf_0 rfl (lv_at hl 0 rfl) ?_
  refine va_get (D := (dC, dI)) (ci := 1) (v := .ref h_P) (C := "RoundedNumbers") (T := F_X) (N := 8) hx hb hts in_X hown hK hP 0 rfl rfl 1 (by decide) (hts _ tw_44) (fun _ h9 => h9) rfl d_X_topOf_1 ?_
  refine lv_iload_n hx hb d_X_topOf_4 rfl (lv_at hl 1 rfl) ?_
  have c_5 : ¬ (a1 < 0 ∨ 8 ≤ a1.toNatClampNeg) := hif_n hF
  replace hF := hif_f c_5 hF
  refine va_iald hx hb hK hP 1 0 rfl rfl c_5 d_X_topOf_5 ?_
  refine lv_bipush (v := (53 : Int32)) hx hb d_X_topOf_6 (by decide) ?_
  refine lv_iadd hx hb d_X_topOf_8 ?_
  refine lv_iconst (v := (1 : Int32)) hx hb d_X_topOf_9 (by decide) ?_
  refine lv_isub hx hb d_X_topOf_10 ?_
  obtain rfl := Option.some.inj hF
  exact W.iret (v := (((P_f a1.toNatClampNeg) + (53 : Int32)) - (1 : Int32))) hx hb hr (fun t ht hW => ⟨⟨(((P_f a1.toNatClampNeg) + (53 : Int32)) - (1 : Int32)), (), rfl, rfl, by rw [ht]; exact hP, va_K.moved hW.alike hK, hD⟩, hS.F ht⟩) hS.2.2 d_X_topOf_11
set_option maxHeartbeats 4000000 in
set_option maxRecDepth 100000 in
theorem c_X_outOfRange (l : Launch) (dC : Nat → ClassId) (dI : Nat → Nat → Nat) (h_X : Nat) (h_M : Nat) (h_P : Nat) (h_E1 : Nat) (h_E2 : Nat) (h_E3 : Nat) (sz : Nat) (X_lo : Int32) (X_ro : Int32) (X_rc : Int32) (o : Int32 × Int32) (hF : f_X_outOfRange X_rc = some o) : Met l y_X_outOfRange w_X_outOfRange ({ frames := 0, cells := 0, slots := 0, locals := 0 } : Room) (va_Pc [.ref h_X] (fun U => U.heap.size = sz ∧ va_P (dC, dI) classes [cX h_X h_M h_P h_E1 h_E2 h_E3 X_lo X_ro X_rc] U.heap ∧ va_K (dC, dI) classes [] U ∧ va_D (fun _ => True) [cX h_X h_M h_P h_E1 h_E2 h_E3 X_lo X_ro X_rc])) (va_Qi (fun (r : Int32) (_ : Unit) => r = o.1) (fun (_ : Unit) (t : State) => va_P (dC, dI) classes [cX h_X h_M h_P h_E1 h_E2 h_E3 X_lo X_ro o.2] t.heap ∧ va_K (dC, dI) classes [] t ∧ va_D (va_A [cX h_X h_M h_P h_E1 h_E2 h_E3 X_lo X_ro X_rc] sz) [cX h_X h_M h_P h_E1 h_E2 h_E3 X_lo X_ro o.2]) (va_A [cX h_X h_M h_P h_E1 h_E2 h_E3 X_lo X_ro X_rc] sz)) 0 0 (va_A [cX h_X h_M h_P h_E1 h_E2 h_E3 X_lo X_ro X_rc] sz) := by
  refine Met.ofW (cc := prog_1_method_28_code) (maxL := 1) (ret := (some .int)) (by decide) rfl ?_
  intro p e s m args below meth c s₁ B hml hv
  obtain ⟨rfl, hsz, hP, hK, hD0⟩ := hv
  have hx := B.exec
  have hb := B.bytes
  have hr := B.returns
  have hts0 := atoms_spec (ws := w_X_outOfRange) B.pre
  have hts : ∀ w ∈ tb, w.before _ s = true := fun w h => hts0 w (List.mem_cons_of_mem _ h)
  clear hts0
  have hown : s.vm.findClass "RoundedNumbers" = some m.cls := findClass_of_methodNamed B.named
  have hlocks := B.notSynchronized
  subst hsz
  have hD := hD0.self (sz := s.heap.size)
  generalize hAe : va_A [cX h_X h_M h_P h_E1 h_E2 h_E3 X_lo X_ro X_rc] s.heap.size = A at hD ⊢
  have hA : ∀ q : Nat, s.heap.size ≤ q → A q := fun q h => by rw [← hAe]; exact Or.inr h
  clear hAe
  have hS : va_S A s.heap s.heap [] := va_S.rf
  have hP : va_P (dC, dI) classes [cX h_X h_M h_P h_E1 h_E2 h_E3 X_lo X_ro X_rc] s.heap := hP
  have hl := lv_entry ([.ref h_X]) (n := 1) (Nat.le_of_ble_eq_true rfl)
  rw [lg_entry_eq]
  generalize (lg_sl ([.ref h_X]) ++ List.replicate (1 - (lg_sl ([.ref h_X])).length) Slot.unset).toArray = ls at hl ⊢
  have hl : lv_has ls 1 [(0, .ref h_X)] := hl
  unfold f_X_outOfRange at hF
  refine lv_aload_n hx hb d_X_outOfRange_0 rfl (lv_at hl 0 rfl) ?_
  refine lv_dup hx hb d_X_outOfRange_1 rfl ?_
  refine va_get (D := (dC, dI)) (ci := 1) (v := .int X_rc) (C := "RoundedNumbers") (T := F_X) (N := 8) hx hb hts in_X hown hK hP 0 rfl rfl 4 (by decide) (hts _ tw_47) (fun _ h9 => h9) rfl d_X_outOfRange_2 ?_
  refine lv_iconst (v := (1 : Int32)) hx hb d_X_outOfRange_5 (by decide) ?_
  refine lv_iadd hx hb d_X_outOfRange_6 ?_
  refine va_put (D := (dC, dI)) (ci := 1) (v := .int (X_rc + (1 : Int32))) (ty := .int) (C := "RoundedNumbers") (T := F_X) (N := 8) hx hb hts in_X t_X t_X_ok n_X hown hK hP hD hS 0 rfl rfl 4 (by decide) (hts _ tw_47) (fun _ h9 => h9) rfl (by decide +kernel) rfl rfl (Nat.le_of_ble_eq_true rfl) d_X_outOfRange_7 (fun H locs hP hD hS => ?_)
  have hP : va_P (dC, dI) classes [cX h_X h_M h_P h_E1 h_E2 h_E3 X_lo X_ro (X_rc + (1 : Int32))] H := hP
  have hD : va_D A [cX h_X h_M h_P h_E1 h_E2 h_E3 X_lo X_ro (X_rc + (1 : Int32))] := hD
  refine lv_bipush (v := (-2 : Int32)) hx hb d_X_outOfRange_10 (by decide) ?_
  obtain rfl := Option.some.inj hF
  exact W.iret (v := (-2 : Int32)) hx hb hr (fun t ht hW => ⟨⟨(-2 : Int32), (), rfl, rfl, by rw [ht]; exact hP, va_K.moved hW.alike hK, hD⟩, hS.F ht⟩) hS.2.2 d_X_outOfRange_12
set_option maxHeartbeats 4000000 in
set_option maxRecDepth 100000 in
theorem c_X_store (l : Launch) (dC : Nat → ClassId) (dI : Nat → Nat → Nat) (h_X : Nat) (h_M : Nat) (h_P : Nat) (h_E1 : Nat) (h_E2 : Nat) (h_E3 : Nat) (k_M : ClassId) (k_P : ClassId) (sz : Nat) (X_lo : Int32) (X_ro : Int32) (X_rc : Int32) (M_f : Nat → Int64) (P_f : Nat → Int32) (a1 : Int32) (a2 : Int64) (a3 : Int32) (o : (Nat → Int64) × (Nat → Int32)) (hF : f_X_store M_f P_f a1 a2 a3 = some o) : Met l y_X_store w_X_store ({ frames := 3, cells := 0, slots := 0, locals := 64 } : Room) (va_Pc [.ref h_X, .int a1, .long a2, .int a3] (fun U => U.heap.size = sz ∧ va_P (dC, dI) classes [cX h_X h_M h_P h_E1 h_E2 h_E3 X_lo X_ro X_rc, cL h_M k_M 8 M_f, cI h_P k_P 8 P_f] U.heap ∧ va_K (dC, dI) classes [(k_M, .long), (k_P, .int)] U ∧ va_D (fun _ => True) [cX h_X h_M h_P h_E1 h_E2 h_E3 X_lo X_ro X_rc, cL h_M k_M 8 M_f, cI h_P k_P 8 P_f])) (va_Qv (fun _ : Unit => True) (fun (_ : Unit) (t : State) => va_P (dC, dI) classes [cX h_X h_M h_P h_E1 h_E2 h_E3 X_lo X_ro X_rc, cL h_M k_M 8 o.1, cI h_P k_P 8 o.2] t.heap ∧ va_K (dC, dI) classes [(k_M, .long), (k_P, .int)] t ∧ va_D (va_A [cX h_X h_M h_P h_E1 h_E2 h_E3 X_lo X_ro X_rc, cL h_M k_M 8 M_f, cI h_P k_P 8 P_f] sz) [cX h_X h_M h_P h_E1 h_E2 h_E3 X_lo X_ro X_rc, cL h_M k_M 8 o.1, cI h_P k_P 8 o.2]) (va_A [cX h_X h_M h_P h_E1 h_E2 h_E3 X_lo X_ro X_rc, cL h_M k_M 8 M_f, cI h_P k_P 8 P_f] sz)) 0 0 (va_A [cX h_X h_M h_P h_E1 h_E2 h_E3 X_lo X_ro X_rc, cL h_M k_M 8 M_f, cI h_P k_P 8 P_f] sz) := by
  refine Met.ofW (cc := prog_1_method_29_code) (maxL := 10) (ret := none) (by decide) rfl ?_
  intro p e s m args below meth c s₁ B hml hv
  obtain ⟨rfl, hsz, hP, hK, hD0⟩ := hv
  have hx := B.exec
  have hb := B.bytes
  have hr := B.returns
  have hts0 := atoms_spec (ws := w_X_store) B.pre
  have hts : ∀ w ∈ tb, w.before _ s = true := fun w h => hts0 w (List.mem_cons_of_mem _ h)
  clear hts0
  have hown : s.vm.findClass "RoundedNumbers" = some m.cls := findClass_of_methodNamed B.named
  have hlocks := B.notSynchronized
  subst hsz
  have hD := hD0.self (sz := s.heap.size)
  generalize hAe : va_A [cX h_X h_M h_P h_E1 h_E2 h_E3 X_lo X_ro X_rc, cL h_M k_M 8 M_f, cI h_P k_P 8 P_f] s.heap.size = A at hD ⊢
  have hA : ∀ q : Nat, s.heap.size ≤ q → A q := fun q h => by rw [← hAe]; exact Or.inr h
  clear hAe
  have hS : va_S A s.heap s.heap [] := va_S.rf
  have hP : va_P (dC, dI) classes [cX h_X h_M h_P h_E1 h_E2 h_E3 X_lo X_ro X_rc, cL h_M k_M 8 M_f, cI h_P k_P 8 P_f] s.heap := hP
  have hl := lv_entry ([.ref h_X, .int a1, .long a2, .int a3]) (n := 10) (Nat.le_of_ble_eq_true rfl)
  rw [lg_entry_eq]
  generalize (lg_sl ([.ref h_X, .int a1, .long a2, .int a3]) ++ List.replicate (10 - (lg_sl ([.ref h_X, .int a1, .long a2, .int a3])).length) Slot.unset).toArray = ls at hl ⊢
  have hl : lv_has ls 10 [(0, .ref h_X), (1, .int a1), (2, .long a2), (4, .int a3)] := hl
  have b_54 : ∀ (x1 : Int32) (x2 : Int64) (x4 : Int32) (x7 : Int32) (y0 : Int64) (y1 : Int32) (M_f : Nat → Int64) (P_f : Nat → Int32) (X_lo : Int32) (X_ro : Int32) (X_rc : Int32) (H : Heap) (locs : List Loc) (ls : Array Slot), va_P (dC, dI) classes [cX h_X h_M h_P h_E1 h_E2 h_E3 X_lo X_ro X_rc, cL h_M k_M 8 M_f, cI h_P k_P 8 P_f] H → va_D A [cX h_X h_M h_P h_E1 h_E2 h_E3 X_lo X_ro X_rc, cL h_M k_M 8 M_f, cI h_P k_P 8 P_f] → va_S A s.heap H locs → lv_has ls 10 [(0, .ref h_X), (1, .int x1), (2, .long x2), (4, .int x4), (7, .int x7)] → f_X_store_54  x1 x2 x4 x7 y0 y1 M_f P_f = some o → W p l e (headSpec w_X_store ({ frames := 3, cells := 0, slots := 0, locals := 64 } : Room)).room s m ([.ref h_X, .int a1, .long a2, .int a3] : List Value).toArray below meth c H locs 0 0 (MQ below (va_Qv (fun _ : Unit => True) (fun (_ : Unit) (t : State) => va_P (dC, dI) classes [cX h_X h_M h_P h_E1 h_E2 h_E3 X_lo X_ro X_rc, cL h_M k_M 8 o.1, cI h_P k_P 8 o.2] t.heap ∧ va_K (dC, dI) classes [(k_M, .long), (k_P, .int)] t ∧ va_D A [cX h_X h_M h_P h_E1 h_E2 h_E3 X_lo X_ro X_rc, cL h_M k_M 8 o.1, cI h_P k_P 8 o.2]) A) ([.ref h_X, .int a1, .long a2, .int a3] : List Value).toArray s 0 0 A) (F0 m 54 ls [.long y0, .int y1, .ref h_M]) := by
    intro x1 x2 x4 x7 y0 y1 M_f P_f X_lo X_ro X_rc H locs ls hP hD hS hl hF
    unfold f_X_store_54 at hF
    have c_54 : ¬ (y1 < 0 ∨ 8 ≤ y1.toNatClampNeg) := hif_n hF
    replace hF := hif_f c_54 hF
    refine va_last hx hb hK hP hD hS 1 0 rfl rfl c_54 d_X_store_54 (fun H locs hP hD hS => ?_)
    have hP : va_P (dC, dI) classes [cX h_X h_M h_P h_E1 h_E2 h_E3 X_lo X_ro X_rc, cL h_M k_M 8 (vp_updL M_f y1.toNatClampNeg y0), cI h_P k_P 8 P_f] H := hP
    have hD : va_D A [cX h_X h_M h_P h_E1 h_E2 h_E3 X_lo X_ro X_rc, cL h_M k_M 8 (vp_updL M_f y1.toNatClampNeg y0), cI h_P k_P 8 P_f] := hD
    refine lv_aload_n hx hb d_X_store_55 rfl (lv_at hl 0 rfl) ?_
    refine va_get (D := (dC, dI)) (ci := 1) (v := .ref h_P) (C := "RoundedNumbers") (T := F_X) (N := 8) hx hb hts in_X hown hK hP 0 rfl rfl 1 (by decide) (hts _ tw_44) (fun _ h9 => h9) rfl d_X_store_56 ?_
    refine lv_iload_n hx hb d_X_store_59 rfl (lv_at hl 1 rfl) ?_
    refine lv_lload_n hx hb d_X_store_60 rfl (lv_at hl 2 rfl) ?_
    refine lv_lconst (v := (0 : Int64)) hx hb d_X_store_61 (by decide) ?_
    refine W.lcmp hx hb d_X_store_62 ?_
    refine lv_if_ne (tgt := 70) hx hb d_X_store_63 (by decide) (fun c_63 => ?_) (fun c_63 => ?_)
    · replace hF := hif_f c_63 hF
      refine lv_iload hx hb d_X_store_70 (lv_at hl 3 rfl) ?_
      refine lv_iload hx hb d_X_store_72 (lv_at hl 4 rfl) ?_
      refine lv_isub hx hb d_X_store_74 ?_
      have c_75 : ¬ (x1 < 0 ∨ 8 ≤ x1.toNatClampNeg) := hif_n hF
      replace hF := hif_f c_75 hF
      refine va_iast hx hb hK hP hD hS 2 1 rfl rfl c_75 d_X_store_75 (fun H locs hP hD hS => ?_)
      have hP : va_P (dC, dI) classes [cX h_X h_M h_P h_E1 h_E2 h_E3 X_lo X_ro X_rc, cL h_M k_M 8 (vp_updL M_f y1.toNatClampNeg y0), cI h_P k_P 8 (upd P_f x1.toNatClampNeg (x4 - x7))] H := hP
      have hD : va_D A [cX h_X h_M h_P h_E1 h_E2 h_E3 X_lo X_ro X_rc, cL h_M k_M 8 (vp_updL M_f y1.toNatClampNeg y0), cI h_P k_P 8 (upd P_f x1.toNatClampNeg (x4 - x7))] := hD
      obtain rfl := Option.some.inj hF
      exact W.vret hx hb hr (fun t ht hW => ⟨⟨(), rfl, trivial, by rw [ht]; exact hP, va_K.moved hW.alike hK, hD⟩, hS.F ht⟩) hS.2.2 d_X_store_76
    · replace hF := hif_t c_63 hF
      refine lv_iconst (v := (0 : Int32)) hx hb d_X_store_66 (by decide) ?_
      refine lv_goto (tgt := 75) hx hb d_X_store_67 (by decide) ?_
      have c_75 : ¬ (x1 < 0 ∨ 8 ≤ x1.toNatClampNeg) := hif_n hF
      replace hF := hif_f c_75 hF
      refine va_iast hx hb hK hP hD hS 2 1 rfl rfl c_75 d_X_store_75 (fun H locs hP hD hS => ?_)
      have hP : va_P (dC, dI) classes [cX h_X h_M h_P h_E1 h_E2 h_E3 X_lo X_ro X_rc, cL h_M k_M 8 (vp_updL M_f y1.toNatClampNeg y0), cI h_P k_P 8 (upd P_f x1.toNatClampNeg (0 : Int32))] H := hP
      have hD : va_D A [cX h_X h_M h_P h_E1 h_E2 h_E3 X_lo X_ro X_rc, cL h_M k_M 8 (vp_updL M_f y1.toNatClampNeg y0), cI h_P k_P 8 (upd P_f x1.toNatClampNeg (0 : Int32))] := hD
      obtain rfl := Option.some.inj hF
      exact W.vret hx hb hr (fun t ht hW => ⟨⟨(), rfl, trivial, by rw [ht]; exact hP, va_K.moved hW.alike hK, hD⟩, hS.F ht⟩) hS.2.2 d_X_store_76
  have b_33 : ∀ (x1 : Int32) (x2 : Int64) (x4 : Int32) (x7 : Int32) (y0 : Int64) (M_f : Nat → Int64) (P_f : Nat → Int32) (X_lo : Int32) (X_ro : Int32) (X_rc : Int32) (H : Heap) (locs : List Loc) (ls : Array Slot), va_P (dC, dI) classes [cX h_X h_M h_P h_E1 h_E2 h_E3 X_lo X_ro X_rc, cL h_M k_M 8 M_f, cI h_P k_P 8 P_f] H → va_D A [cX h_X h_M h_P h_E1 h_E2 h_E3 X_lo X_ro X_rc, cL h_M k_M 8 M_f, cI h_P k_P 8 P_f] → va_S A s.heap H locs → lv_has ls 10 [(0, .ref h_X), (1, .int x1), (2, .long x2), (4, .int x4), (7, .int x7)] → f_X_store_33  x1 x2 x4 x7 y0 M_f P_f = some o → W p l e (headSpec w_X_store ({ frames := 3, cells := 0, slots := 0, locals := 64 } : Room)).room s m ([.ref h_X, .int a1, .long a2, .int a3] : List Value).toArray below meth c H locs 0 0 (MQ below (va_Qv (fun _ : Unit => True) (fun (_ : Unit) (t : State) => va_P (dC, dI) classes [cX h_X h_M h_P h_E1 h_E2 h_E3 X_lo X_ro X_rc, cL h_M k_M 8 o.1, cI h_P k_P 8 o.2] t.heap ∧ va_K (dC, dI) classes [(k_M, .long), (k_P, .int)] t ∧ va_D A [cX h_X h_M h_P h_E1 h_E2 h_E3 X_lo X_ro X_rc, cL h_M k_M 8 o.1, cI h_P k_P 8 o.2]) A) ([.ref h_X, .int a1, .long a2, .int a3] : List Value).toArray s 0 0 A) (F0 m 33 ls [.long y0]) := by
    intro x1 x2 x4 x7 y0 M_f P_f X_lo X_ro X_rc H locs ls hP hD hS hl hF
    unfold f_X_store_33 at hF
    refine lv_lstore (lv' := [(8, .long y0), (0, .ref h_X), (1, .int x1), (2, .long x2), (4, .int x4), (7, .int x7)]) hx hb d_X_store_33 hl (by decide) rfl (fun ls hl => ?_)
    refine lv_aload_n hx hb d_X_store_35 rfl (lv_at hl 1 rfl) ?_
    refine va_get (D := (dC, dI)) (ci := 1) (v := .ref h_M) (C := "RoundedNumbers") (T := F_X) (N := 8) hx hb hts in_X hown hK hP 0 rfl rfl 0 (by decide) (hts _ tw_43) (fun _ h9 => h9) rfl d_X_store_36 ?_
    refine lv_iload_n hx hb d_X_store_39 rfl (lv_at hl 2 rfl) ?_
    refine lv_lload_n hx hb d_X_store_40 rfl (lv_at hl 3 rfl) ?_
    refine lv_lconst (v := (0 : Int64)) hx hb d_X_store_41 (by decide) ?_
    refine W.lcmp hx hb d_X_store_42 ?_
    refine lv_if_ge (tgt := 52) hx hb d_X_store_43 (by decide) (fun c_43 => ?_) (fun c_43 => ?_)
    · replace hF := hif_t c_43 hF
      refine lv_lload hx hb d_X_store_52 (lv_at hl 0 rfl) ?_
      exact b_54 x1 x2 x4 x7 y0 x1 M_f P_f X_lo X_ro X_rc _ _ _ hP hD hS (lv_sub hl [1, 2, 3, 4, 5] rfl) hF
    · replace hF := hif_f c_43 hF
      refine lv_lload hx hb d_X_store_46 (lv_at hl 0 rfl) ?_
      refine lv_lneg hx hb d_X_store_48 ?_
      refine lv_goto (tgt := 54) hx hb d_X_store_49 (by decide) ?_
      exact b_54 x1 x2 x4 x7 (-y0) x1 M_f P_f X_lo X_ro X_rc _ _ _ hP hD hS (lv_sub hl [1, 2, 3, 4, 5] rfl) hF
  unfold f_X_store at hF
  refine lv_lload_n hx hb d_X_store_0 rfl (lv_at hl 2 rfl) ?_
  refine va_mabs_long hx hb (hml.trans hl.1.symm) hown (hts _ tw_80) (hts _ tw_81) (hts _ tw_4) (hts _ tw_82) (Nat.le_of_ble_eq_true rfl) (Nat.le_of_ble_eq_true rfl) (Nat.zero_le _) (Nat.zero_le _) d_X_store_1 ?_
  refine W.eq (g2 := F0 m 4 ls [.long (jabs a2)]) rfl ?_
  refine lv_lstore (lv' := [(5, .long (jabs a2)), (0, .ref h_X), (1, .int a1), (2, .long a2), (4, .int a3)]) hx hb d_X_store_4 hl (by decide) rfl (fun ls hl => ?_)
  refine lv_bipush (v := (53 : Int32)) hx hb d_X_store_6 (by decide) ?_
  refine lv_lload hx hb d_X_store_8 (lv_at hl 0 rfl) ?_
  obtain ⟨q_10, hC_10, hF⟩ := hbd hF
  have hPc := hP.sub (ws' := []) [] rfl
  have hDc := hD.sub (ws' := []) [] (by decide) rfl
  have hKc := hK.sub (tys' := []) [] rfl
  have hFc := va_free (wc := []) hD hS hA [] rfl
  refine va_calli (va_runS (As := [.long (jabs a2)]) (rest := [.int (53 : Int32)]) ⟨hx, hb, hml, hown, hts⟩ (c_X_bitLength l dC dI s.heap.size (jabs a2) q_10 hC_10) (cwS 1 hts g_X_168_X_bitLength rfl rfl rfl (by decide +kernel) ⟨Nat.le_of_ble_eq_true rfl, Nat.le_of_ble_eq_true rfl⟩) ⟨fun a U g mk q => by obtain ⟨q0, q1, qP, qK, qD⟩ := q; exact ⟨q0, q1, qP, va_K.moved (u := U) (U := U.calling g mk a) (Vm.Alike.refl U.vm) qK, qD⟩, fun U hU hW => ⟨rfl, by rw [hU], by rw [hU]; exact hPc, va_K.moved hW.alike hKc, hDc.weaken (fun _ _ _ _ => trivial)⟩⟩ rfl rfl hl.1 rfl (lv_room (Nat.le_of_ble_eq_true rfl)) d_X_store_10 ⟨Nat.zero_le _, Nat.zero_le _⟩) hS (fun q _ h => hFc q h) hFc (fun r u t H1 locs ht hvm hw hB hz1 hk1 hS => ?_)
  obtain ⟨hP1, hK1, hD1⟩ := hB
  replace hw := hw.symm
  subst hw
  rw [ht] at hP1
  obtain ⟨hP, hD⟩ := va_join (wr := [cX h_X h_M h_P h_E1 h_E2 h_E3 X_lo X_ro X_rc, cL h_M k_M 8 M_f, cI h_P k_P 8 P_f]) (w1 := []) hP hD [] [0, 1, 2] rfl rfl (by decide) (by decide) hk1 hFc hP1 hD1
  generalize H1 = H at hP hS ⊢
  have hP := hP.sub (ws' := [cX h_X h_M h_P h_E1 h_E2 h_E3 X_lo X_ro X_rc, cL h_M k_M 8 M_f, cI h_P k_P 8 P_f]) [0, 1, 2] rfl
  have hD := hD.sub (ws' := [cX h_X h_M h_P h_E1 h_E2 h_E3 X_lo X_ro X_rc, cL h_M k_M 8 M_f, cI h_P k_P 8 P_f]) [0, 1, 2] (by decide) rfl
  refine lv_isub hx hb d_X_store_13 ?_
  refine lv_istore (lv' := [(7, .int ((53 : Int32) - q_10)), (5, .long (jabs a2)), (0, .ref h_X), (1, .int a1), (2, .long a2), (4, .int a3)]) hx hb d_X_store_14 hl (by decide) rfl (fun ls hl => ?_)
  refine lv_iload hx hb d_X_store_16 (lv_at hl 0 rfl) ?_
  refine lv_if_ge (tgt := 28) hx hb d_X_store_18 (by decide) (fun c_18 => ?_) (fun c_18 => ?_)
  · replace hF := hif_t c_18 hF
    refine lv_lload hx hb d_X_store_28 (lv_at hl 1 rfl) ?_
    refine lv_iload hx hb d_X_store_30 (lv_at hl 0 rfl) ?_
    refine lv_lshl (v := (jshl (jabs a2) ((53 : Int32) - q_10))) hx hb d_X_store_32 rfl ?_
    exact b_33 a1 a2 a3 ((53 : Int32) - q_10) (jshl (jabs a2) ((53 : Int32) - q_10)) M_f P_f X_lo X_ro X_rc _ _ _ hP hD hS (lv_sub hl [2, 3, 4, 5, 0] rfl) hF
  · replace hF := hif_f c_18 hF
    refine lv_lload hx hb d_X_store_21 (lv_at hl 1 rfl) ?_
    refine lv_iconst (v := (1 : Int32)) hx hb d_X_store_23 (by decide) ?_
    refine lv_lshr (v := (jshr (jabs a2) (1 : Int32))) hx hb d_X_store_24 rfl ?_
    refine lv_goto (tgt := 33) hx hb d_X_store_25 (by decide) ?_
    exact b_33 a1 a2 a3 ((53 : Int32) - q_10) (jshr (jabs a2) (1 : Int32)) M_f P_f X_lo X_ro X_rc _ _ _ hP hD hS (lv_sub hl [2, 3, 4, 5, 0] rfl) hF
set_option maxHeartbeats 4000000 in
set_option maxRecDepth 100000 in
theorem c_X_put (l : Launch) (dC : Nat → ClassId) (dI : Nat → Nat → Nat) (h_X : Nat) (h_M : Nat) (h_P : Nat) (h_E1 : Nat) (h_E2 : Nat) (h_E3 : Nat) (k_M : ClassId) (k_P : ClassId) (sz : Nat) (X_lo : Int32) (X_ro : Int32) (X_rc : Int32) (M_f : Nat → Int64) (P_f : Nat → Int32) (a1 : Int32) (a2 : Int64) (a3 : Int32) (a4 : Int32) (o : Int32 × Int32 × Int32 × Int32 × (Nat → Int64) × (Nat → Int32)) (hF : f_X_put X_lo X_ro X_rc M_f P_f a1 a2 a3 a4 = some o) : Met l y_X_put w_X_put ({ frames := 4, cells := 0, slots := 0, locals := 93 } : Room) (va_Pc [.ref h_X, .int a1, .long a2, .int a3, .int a4] (fun U => U.heap.size = sz ∧ va_P (dC, dI) classes [cX h_X h_M h_P h_E1 h_E2 h_E3 X_lo X_ro X_rc, cL h_M k_M 8 M_f, cI h_P k_P 8 P_f] U.heap ∧ va_K (dC, dI) classes [(k_M, .long), (k_P, .int)] U ∧ va_D (fun _ => True) [cX h_X h_M h_P h_E1 h_E2 h_E3 X_lo X_ro X_rc, cL h_M k_M 8 M_f, cI h_P k_P 8 P_f])) (va_Qi (fun (r : Int32) (_ : Unit) => r = o.1) (fun (_ : Unit) (t : State) => va_P (dC, dI) classes [cX h_X h_M h_P h_E1 h_E2 h_E3 o.2.1 o.2.2.1 o.2.2.2.1, cL h_M k_M 8 o.2.2.2.2.1, cI h_P k_P 8 o.2.2.2.2.2] t.heap ∧ va_K (dC, dI) classes [(k_M, .long), (k_P, .int)] t ∧ va_D (va_A [cX h_X h_M h_P h_E1 h_E2 h_E3 X_lo X_ro X_rc, cL h_M k_M 8 M_f, cI h_P k_P 8 P_f] sz) [cX h_X h_M h_P h_E1 h_E2 h_E3 o.2.1 o.2.2.1 o.2.2.2.1, cL h_M k_M 8 o.2.2.2.2.1, cI h_P k_P 8 o.2.2.2.2.2]) (va_A [cX h_X h_M h_P h_E1 h_E2 h_E3 X_lo X_ro X_rc, cL h_M k_M 8 M_f, cI h_P k_P 8 P_f] sz)) 0 0 (va_A [cX h_X h_M h_P h_E1 h_E2 h_E3 X_lo X_ro X_rc, cL h_M k_M 8 M_f, cI h_P k_P 8 P_f] sz) := by
  refine Met.ofW (cc := prog_1_method_30_code) (maxL := 6) (ret := (some .int)) (by decide) rfl ?_
  intro p e s m args below meth c s₁ B hml hv
  obtain ⟨rfl, hsz, hP, hK, hD0⟩ := hv
  have hx := B.exec
  have hb := B.bytes
  have hr := B.returns
  have hts0 := atoms_spec (ws := w_X_put) B.pre
  have hts : ∀ w ∈ tb, w.before _ s = true := fun w h => hts0 w (List.mem_cons_of_mem _ h)
  clear hts0
  have hown : s.vm.findClass "RoundedNumbers" = some m.cls := findClass_of_methodNamed B.named
  have hlocks := B.notSynchronized
  subst hsz
  have hD := hD0.self (sz := s.heap.size)
  generalize hAe : va_A [cX h_X h_M h_P h_E1 h_E2 h_E3 X_lo X_ro X_rc, cL h_M k_M 8 M_f, cI h_P k_P 8 P_f] s.heap.size = A at hD ⊢
  have hA : ∀ q : Nat, s.heap.size ≤ q → A q := fun q h => by rw [← hAe]; exact Or.inr h
  clear hAe
  have hS : va_S A s.heap s.heap [] := va_S.rf
  have hP : va_P (dC, dI) classes [cX h_X h_M h_P h_E1 h_E2 h_E3 X_lo X_ro X_rc, cL h_M k_M 8 M_f, cI h_P k_P 8 P_f] s.heap := hP
  have hl := lv_entry ([.ref h_X, .int a1, .long a2, .int a3, .int a4]) (n := 6) (Nat.le_of_ble_eq_true rfl)
  rw [lg_entry_eq]
  generalize (lg_sl ([.ref h_X, .int a1, .long a2, .int a3, .int a4]) ++ List.replicate (6 - (lg_sl ([.ref h_X, .int a1, .long a2, .int a3, .int a4])).length) Slot.unset).toArray = ls at hl ⊢
  have hl : lv_has ls 6 [(0, .ref h_X), (1, .int a1), (2, .long a2), (4, .int a3), (5, .int a4)] := hl
  unfold f_X_put at hF
  refine lv_lload_n hx hb d_X_put_0 rfl (lv_at hl 2 rfl) ?_
  refine lv_iload hx hb d_X_put_1 (lv_at hl 3 rfl) ?_
  obtain ⟨q_3, hC_3, hF⟩ := hbd hF
  have hPc := hP.sub (ws' := []) [] rfl
  have hDc := hD.sub (ws' := []) [] (by decide) rfl
  have hKc := hK.sub (tys' := []) [] rfl
  have hFc := va_free (wc := []) hD hS hA [] rfl
  refine va_calli (va_runS (As := [.long a2, .int a3]) (rest := []) ⟨hx, hb, hml, hown, hts⟩ (c_X_isNumber l dC dI s.heap.size a2 a3 q_3 hC_3) (cwS 2 hts g_X_38_X_isNumber rfl rfl rfl (by decide +kernel) ⟨Nat.le_of_ble_eq_true rfl, Nat.le_of_ble_eq_true rfl⟩) ⟨fun a U g mk q => by obtain ⟨q0, q1, qP, qK, qD⟩ := q; exact ⟨q0, q1, qP, va_K.moved (u := U) (U := U.calling g mk a) (Vm.Alike.refl U.vm) qK, qD⟩, fun U hU hW => ⟨rfl, by rw [hU], by rw [hU]; exact hPc, va_K.moved hW.alike hKc, hDc.weaken (fun _ _ _ _ => trivial)⟩⟩ rfl rfl hl.1 rfl (lv_room (Nat.le_of_ble_eq_true rfl)) d_X_put_3 ⟨Nat.zero_le _, Nat.zero_le _⟩) hS (fun q _ h => hFc q h) hFc (fun r u t H1 locs ht hvm hw hB hz1 hk1 hS => ?_)
  obtain ⟨hP1, hK1, hD1⟩ := hB
  replace hw := hw.symm
  subst hw
  rw [ht] at hP1
  obtain ⟨hP, hD⟩ := va_join (wr := [cX h_X h_M h_P h_E1 h_E2 h_E3 X_lo X_ro X_rc, cL h_M k_M 8 M_f, cI h_P k_P 8 P_f]) (w1 := []) hP hD [] [0, 1, 2] rfl rfl (by decide) (by decide) hk1 hFc hP1 hD1
  generalize H1 = H at hP hS ⊢
  have hP := hP.sub (ws' := [cX h_X h_M h_P h_E1 h_E2 h_E3 X_lo X_ro X_rc, cL h_M k_M 8 M_f, cI h_P k_P 8 P_f]) [0, 1, 2] rfl
  have hD := hD.sub (ws' := [cX h_X h_M h_P h_E1 h_E2 h_E3 X_lo X_ro X_rc, cL h_M k_M 8 M_f, cI h_P k_P 8 P_f]) [0, 1, 2] (by decide) rfl
  refine lv_if_ne (tgt := 14) hx hb d_X_put_6 (by decide) (fun c_6 => ?_) (fun c_6 => ?_)
  · replace hF := hif_f c_6 hF
    refine lv_aload_n hx hb d_X_put_14 rfl (lv_at hl 0 rfl) ?_
    refine lv_iload_n hx hb d_X_put_15 rfl (lv_at hl 1 rfl) ?_
    refine lv_lload_n hx hb d_X_put_16 rfl (lv_at hl 2 rfl) ?_
    refine lv_iload hx hb d_X_put_17 (lv_at hl 3 rfl) ?_
    obtain ⟨q_19, hC_19, hF⟩ := hbd hF
    have hPc := hP.sub (ws' := [cX h_X h_M h_P h_E1 h_E2 h_E3 X_lo X_ro X_rc, cL h_M k_M 8 M_f, cI h_P k_P 8 P_f]) [0, 1, 2] rfl
    have hDc := hD.sub (ws' := [cX h_X h_M h_P h_E1 h_E2 h_E3 X_lo X_ro X_rc, cL h_M k_M 8 M_f, cI h_P k_P 8 P_f]) [0, 1, 2] (by decide) rfl
    have hKc := hK.sub (tys' := [(k_M, .long), (k_P, .int)]) [0, 1] rfl
    have hFc := va_free (wc := [cX h_X h_M h_P h_E1 h_E2 h_E3 X_lo X_ro X_rc, cL h_M k_M 8 M_f, cI h_P k_P 8 P_f]) hD hS hA [0, 1, 2] rfl
    refine va_callv (va_runV (As := [.int a1, .long a2, .int a3]) (rest := []) ⟨hx, hb, hml, hown, hts⟩ (c_X_store l dC dI h_X h_M h_P h_E1 h_E2 h_E3 k_M k_P H.size X_lo X_ro X_rc M_f P_f a1 a2 a3 q_19 hC_19) (cwV 3 hts g_X_46_X_store rfl rfl rfl (by decide +kernel) ⟨Nat.le_of_ble_eq_true rfl, Nat.le_of_ble_eq_true rfl⟩) ⟨fun a U g mk q => by obtain ⟨q0, q1, qP, qK, qD⟩ := q; exact ⟨q0, q1, qP, va_K.moved (u := U) (U := U.calling g mk a) (Vm.Alike.refl U.vm) qK, qD⟩, va_recv hKc hPc (ci := 1) (q0 := 0) rfl rfl, fun U hU hW => ⟨rfl, by rw [hU], by rw [hU]; exact hPc, va_K.moved hW.alike hKc, hDc.weaken (fun _ _ _ _ => trivial)⟩⟩ rfl rfl hl.1 rfl (lv_room (Nat.le_of_ble_eq_true rfl)) d_X_put_19 ⟨Nat.zero_le _, Nat.zero_le _⟩) hS (fun q _ h => hFc q h) hFc (fun u t H1 locs ht hvm hw hB hz1 hk1 hS => ?_)
    obtain ⟨hP1, hK1, hD1⟩ := hB
    rw [ht] at hP1
    obtain ⟨hP, hD⟩ := va_join (wr := []) (w1 := [cX h_X h_M h_P h_E1 h_E2 h_E3 X_lo X_ro X_rc, cL h_M k_M 8 q_19.1, cI h_P k_P 8 q_19.2]) hP hD [0, 1, 2] [] rfl rfl (by decide) (by decide) hk1 hFc hP1 hD1
    generalize H1 = H at hP hS ⊢
    have hP := hP.sub (ws' := [cX h_X h_M h_P h_E1 h_E2 h_E3 X_lo X_ro X_rc, cL h_M k_M 8 q_19.1, cI h_P k_P 8 q_19.2]) [0, 1, 2] rfl
    have hD := hD.sub (ws' := [cX h_X h_M h_P h_E1 h_E2 h_E3 X_lo X_ro X_rc, cL h_M k_M 8 q_19.1, cI h_P k_P 8 q_19.2]) [0, 1, 2] (by decide) rfl
    refine lv_aload_n hx hb d_X_put_22 rfl (lv_at hl 0 rfl) ?_
    refine lv_iload hx hb d_X_put_23 (lv_at hl 4 rfl) ?_
    refine va_put (D := (dC, dI)) (ci := 1) (v := .int a4) (ty := .int) (C := "RoundedNumbers") (T := F_X) (N := 8) hx hb hts in_X t_X t_X_ok n_X hown hK hP hD hS 0 rfl rfl 2 (by decide) (hts _ tw_45) (fun _ h9 => h9) rfl (by decide +kernel) rfl rfl (Nat.le_of_ble_eq_true rfl) d_X_put_25 (fun H locs hP hD hS => ?_)
    have hP : va_P (dC, dI) classes [cX h_X h_M h_P h_E1 h_E2 h_E3 a4 X_ro X_rc, cL h_M k_M 8 q_19.1, cI h_P k_P 8 q_19.2] H := hP
    have hD : va_D A [cX h_X h_M h_P h_E1 h_E2 h_E3 a4 X_ro X_rc, cL h_M k_M 8 q_19.1, cI h_P k_P 8 q_19.2] := hD
    refine lv_iload hx hb d_X_put_28 (lv_at hl 4 rfl) ?_
    refine lv_if_eq (tgt := 43) hx hb d_X_put_30 (by decide) (fun c_30 => ?_) (fun c_30 => ?_)
    · replace hF := hif_t c_30 hF
      refine lv_iconst (v := (0 : Int32)) hx hb d_X_put_43 (by decide) ?_
      obtain rfl := Option.some.inj hF
      exact W.iret (v := (0 : Int32)) hx hb hr (fun t ht hW => ⟨⟨(0 : Int32), (), rfl, rfl, by rw [ht]; exact hP, va_K.moved hW.alike hK, hD⟩, hS.F ht⟩) hS.2.2 d_X_put_44
    · replace hF := hif_f c_30 hF
      refine lv_aload_n hx hb d_X_put_33 rfl (lv_at hl 0 rfl) ?_
      refine lv_dup hx hb d_X_put_34 rfl ?_
      refine va_get (D := (dC, dI)) (ci := 1) (v := .int X_ro) (C := "RoundedNumbers") (T := F_X) (N := 8) hx hb hts in_X hown hK hP 0 rfl rfl 3 (by decide) (hts _ tw_46) (fun _ h9 => h9) rfl d_X_put_35 ?_
      refine lv_iconst (v := (1 : Int32)) hx hb d_X_put_38 (by decide) ?_
      refine lv_iadd hx hb d_X_put_39 ?_
      refine va_put (D := (dC, dI)) (ci := 1) (v := .int (X_ro + (1 : Int32))) (ty := .int) (C := "RoundedNumbers") (T := F_X) (N := 8) hx hb hts in_X t_X t_X_ok n_X hown hK hP hD hS 0 rfl rfl 3 (by decide) (hts _ tw_46) (fun _ h9 => h9) rfl (by decide +kernel) rfl rfl (Nat.le_of_ble_eq_true rfl) d_X_put_40 (fun H locs hP hD hS => ?_)
      have hP : va_P (dC, dI) classes [cX h_X h_M h_P h_E1 h_E2 h_E3 a4 (X_ro + (1 : Int32)) X_rc, cL h_M k_M 8 q_19.1, cI h_P k_P 8 q_19.2] H := hP
      have hD : va_D A [cX h_X h_M h_P h_E1 h_E2 h_E3 a4 (X_ro + (1 : Int32)) X_rc, cL h_M k_M 8 q_19.1, cI h_P k_P 8 q_19.2] := hD
      refine lv_iconst (v := (0 : Int32)) hx hb d_X_put_43 (by decide) ?_
      obtain rfl := Option.some.inj hF
      exact W.iret (v := (0 : Int32)) hx hb hr (fun t ht hW => ⟨⟨(0 : Int32), (), rfl, rfl, by rw [ht]; exact hP, va_K.moved hW.alike hK, hD⟩, hS.F ht⟩) hS.2.2 d_X_put_44
  · replace hF := hif_t c_6 hF
    refine lv_aload_n hx hb d_X_put_9 rfl (lv_at hl 0 rfl) ?_
    obtain ⟨q_10, hC_10, hF⟩ := hbd hF
    have hPc := hP.sub (ws' := [cX h_X h_M h_P h_E1 h_E2 h_E3 X_lo X_ro X_rc]) [0] rfl
    have hDc := hD.sub (ws' := [cX h_X h_M h_P h_E1 h_E2 h_E3 X_lo X_ro X_rc]) [0] (by decide) rfl
    have hKc := hK.sub (tys' := []) [] rfl
    have hFc := va_free (wc := [cX h_X h_M h_P h_E1 h_E2 h_E3 X_lo X_ro X_rc]) hD hS hA [0] rfl
    refine va_calli (va_runV (As := []) (rest := []) ⟨hx, hb, hml, hown, hts⟩ (c_X_outOfRange l dC dI h_X h_M h_P h_E1 h_E2 h_E3 H.size X_lo X_ro X_rc q_10 hC_10) (cwV 0 hts g_X_42_X_outOfRange rfl rfl rfl (by decide +kernel) ⟨Nat.le_of_ble_eq_true rfl, Nat.le_of_ble_eq_true rfl⟩) ⟨fun a U g mk q => by obtain ⟨q0, q1, qP, qK, qD⟩ := q; exact ⟨q0, q1, qP, va_K.moved (u := U) (U := U.calling g mk a) (Vm.Alike.refl U.vm) qK, qD⟩, va_recv hKc hPc (ci := 1) (q0 := 0) rfl rfl, fun U hU hW => ⟨rfl, by rw [hU], by rw [hU]; exact hPc, va_K.moved hW.alike hKc, hDc.weaken (fun _ _ _ _ => trivial)⟩⟩ rfl rfl hl.1 rfl (lv_room (Nat.le_of_ble_eq_true rfl)) d_X_put_10 ⟨Nat.zero_le _, Nat.zero_le _⟩) hS (fun q _ h => hFc q h) hFc (fun r u t H1 locs ht hvm hw hB hz1 hk1 hS => ?_)
    obtain ⟨hP1, hK1, hD1⟩ := hB
    replace hw := hw.symm
    subst hw
    rw [ht] at hP1
    obtain ⟨hP, hD⟩ := va_join (wr := [cL h_M k_M 8 M_f, cI h_P k_P 8 P_f]) (w1 := [cX h_X h_M h_P h_E1 h_E2 h_E3 X_lo X_ro q_10.2]) hP hD [0] [1, 2] rfl rfl (by decide) (by decide) hk1 hFc hP1 hD1
    generalize H1 = H at hP hS ⊢
    have hP := hP.sub (ws' := [cX h_X h_M h_P h_E1 h_E2 h_E3 X_lo X_ro q_10.2, cL h_M k_M 8 M_f, cI h_P k_P 8 P_f]) [2, 0, 1] rfl
    have hD := hD.sub (ws' := [cX h_X h_M h_P h_E1 h_E2 h_E3 X_lo X_ro q_10.2, cL h_M k_M 8 M_f, cI h_P k_P 8 P_f]) [2, 0, 1] (by decide) rfl
    obtain rfl := Option.some.inj hF
    exact W.iret (v := q_10.1) hx hb hr (fun t ht hW => ⟨⟨q_10.1, (), rfl, rfl, by rw [ht]; exact hP, va_K.moved hW.alike hK, hD⟩, hS.F ht⟩) hS.2.2 d_X_put_13
set_option maxHeartbeats 4000000 in
set_option maxRecDepth 100000 in
theorem c_X_finish (l : Launch) (dC : Nat → ClassId) (dI : Nat → Nat → Nat) (h_X : Nat) (h_M : Nat) (h_P : Nat) (h_E1 : Nat) (h_E2 : Nat) (h_E3 : Nat) (h_R : Nat) (k_M : ClassId) (k_P : ClassId) (sz : Nat) (X_lo : Int32) (X_ro : Int32) (X_rc : Int32) (M_f : Nat → Int64) (P_f : Nat → Int32) (R_sg : Int32) (R_hi : Int64) (R_lo : Int64) (R_pl : Int32) (R_mo : Int32) (a1 : Int32) (a3 : Int32) (o : Int32 × Int32 × Int32 × Int32 × (Nat → Int64) × (Nat → Int32) × Int64 × Int64 × Int32 × Int32) (hF : f_X_finish X_lo X_ro X_rc M_f P_f R_sg R_hi R_lo R_pl R_mo a1 a3 = some o) : Met l y_X_finish w_X_finish ({ frames := 5, cells := 0, slots := 0, locals := 118 } : Room) (va_Pc [.ref h_X, .int a1, .ref h_R, .int a3] (fun U => U.heap.size = sz ∧ va_P (dC, dI) classes [cX h_X h_M h_P h_E1 h_E2 h_E3 X_lo X_ro X_rc, cL h_M k_M 8 M_f, cI h_P k_P 8 P_f, cE h_R R_sg R_hi R_lo R_pl R_mo] U.heap ∧ va_K (dC, dI) classes [(k_M, .long), (k_P, .int)] U ∧ va_D (fun _ => True) [cX h_X h_M h_P h_E1 h_E2 h_E3 X_lo X_ro X_rc, cL h_M k_M 8 M_f, cI h_P k_P 8 P_f, cE h_R R_sg R_hi R_lo R_pl R_mo])) (va_Qi (fun (r : Int32) (_ : Unit) => r = o.1) (fun (_ : Unit) (t : State) => va_P (dC, dI) classes [cX h_X h_M h_P h_E1 h_E2 h_E3 o.2.1 o.2.2.1 o.2.2.2.1, cL h_M k_M 8 o.2.2.2.2.1, cI h_P k_P 8 o.2.2.2.2.2.1, cE h_R R_sg o.2.2.2.2.2.2.1 o.2.2.2.2.2.2.2.1 o.2.2.2.2.2.2.2.2.1 o.2.2.2.2.2.2.2.2.2] t.heap ∧ va_K (dC, dI) classes [(k_M, .long), (k_P, .int)] t ∧ va_D (va_A [cX h_X h_M h_P h_E1 h_E2 h_E3 X_lo X_ro X_rc, cL h_M k_M 8 M_f, cI h_P k_P 8 P_f, cE h_R R_sg R_hi R_lo R_pl R_mo] sz) [cX h_X h_M h_P h_E1 h_E2 h_E3 o.2.1 o.2.2.1 o.2.2.2.1, cL h_M k_M 8 o.2.2.2.2.1, cI h_P k_P 8 o.2.2.2.2.2.1, cE h_R R_sg o.2.2.2.2.2.2.1 o.2.2.2.2.2.2.2.1 o.2.2.2.2.2.2.2.2.1 o.2.2.2.2.2.2.2.2.2]) (va_A [cX h_X h_M h_P h_E1 h_E2 h_E3 X_lo X_ro X_rc, cL h_M k_M 8 M_f, cI h_P k_P 8 P_f, cE h_R R_sg R_hi R_lo R_pl R_mo] sz)) 0 0 (va_A [cX h_X h_M h_P h_E1 h_E2 h_E3 X_lo X_ro X_rc, cL h_M k_M 8 M_f, cI h_P k_P 8 P_f, cE h_R R_sg R_hi R_lo R_pl R_mo] sz) := by
  refine Met.ofW (cc := prog_1_method_31_code) (maxL := 5) (ret := (some .int)) (by decide) rfl ?_
  intro p e s m args below meth c s₁ B hml hv
  obtain ⟨rfl, hsz, hP, hK, hD0⟩ := hv
  have hx := B.exec
  have hb := B.bytes
  have hr := B.returns
  have hts0 := atoms_spec (ws := w_X_finish) B.pre
  have hts : ∀ w ∈ tb, w.before _ s = true := fun w h => hts0 w (List.mem_cons_of_mem _ h)
  clear hts0
  have hown : s.vm.findClass "RoundedNumbers" = some m.cls := findClass_of_methodNamed B.named
  have hlocks := B.notSynchronized
  subst hsz
  have hD := hD0.self (sz := s.heap.size)
  generalize hAe : va_A [cX h_X h_M h_P h_E1 h_E2 h_E3 X_lo X_ro X_rc, cL h_M k_M 8 M_f, cI h_P k_P 8 P_f, cE h_R R_sg R_hi R_lo R_pl R_mo] s.heap.size = A at hD ⊢
  have hA : ∀ q : Nat, s.heap.size ≤ q → A q := fun q h => by rw [← hAe]; exact Or.inr h
  clear hAe
  have hS : va_S A s.heap s.heap [] := va_S.rf
  have hP : va_P (dC, dI) classes [cX h_X h_M h_P h_E1 h_E2 h_E3 X_lo X_ro X_rc, cL h_M k_M 8 M_f, cI h_P k_P 8 P_f, cE h_R R_sg R_hi R_lo R_pl R_mo] s.heap := hP
  have hl := lv_entry ([.ref h_X, .int a1, .ref h_R, .int a3]) (n := 5) (Nat.le_of_ble_eq_true rfl)
  rw [lg_entry_eq]
  generalize (lg_sl ([.ref h_X, .int a1, .ref h_R, .int a3]) ++ List.replicate (5 - (lg_sl ([.ref h_X, .int a1, .ref h_R, .int a3])).length) Slot.unset).toArray = ls at hl ⊢
  have hl : lv_has ls 5 [(0, .ref h_X), (1, .int a1), (2, .ref h_R), (3, .int a3)] := hl
  have b_38 : ∀ (x4 : Int32) (y0 : Int64) (y1 : Int32) (X_lo : Int32) (X_ro : Int32) (X_rc : Int32) (M_f : Nat → Int64) (P_f : Nat → Int32) (R_sg : Int32) (R_hi : Int64) (R_lo : Int64) (R_pl : Int32) (R_mo : Int32) (H : Heap) (locs : List Loc) (ls : Array Slot), va_P (dC, dI) classes [cX h_X h_M h_P h_E1 h_E2 h_E3 X_lo X_ro X_rc, cL h_M k_M 8 M_f, cI h_P k_P 8 P_f, cE h_R R_sg R_hi R_lo R_pl R_mo] H → va_D A [cX h_X h_M h_P h_E1 h_E2 h_E3 X_lo X_ro X_rc, cL h_M k_M 8 M_f, cI h_P k_P 8 P_f, cE h_R R_sg R_hi R_lo R_pl R_mo] → va_S A s.heap H locs → lv_has ls 5 [(2, .ref h_R), (4, .int x4)] → f_X_finish_38  x4 y0 y1 X_lo X_ro X_rc M_f P_f R_sg R_hi R_lo R_pl R_mo = some o → W p l e (headSpec w_X_finish ({ frames := 5, cells := 0, slots := 0, locals := 118 } : Room)).room s m ([.ref h_X, .int a1, .ref h_R, .int a3] : List Value).toArray below meth c H locs 0 0 (MQ below (va_Qi (fun (r : Int32) (_ : Unit) => r = o.1) (fun (_ : Unit) (t : State) => va_P (dC, dI) classes [cX h_X h_M h_P h_E1 h_E2 h_E3 o.2.1 o.2.2.1 o.2.2.2.1, cL h_M k_M 8 o.2.2.2.2.1, cI h_P k_P 8 o.2.2.2.2.2.1, cE h_R R_sg o.2.2.2.2.2.2.1 o.2.2.2.2.2.2.2.1 o.2.2.2.2.2.2.2.2.1 o.2.2.2.2.2.2.2.2.2] t.heap ∧ va_K (dC, dI) classes [(k_M, .long), (k_P, .int)] t ∧ va_D A [cX h_X h_M h_P h_E1 h_E2 h_E3 o.2.1 o.2.2.1 o.2.2.2.1, cL h_M k_M 8 o.2.2.2.2.1, cI h_P k_P 8 o.2.2.2.2.2.1, cE h_R R_sg o.2.2.2.2.2.2.1 o.2.2.2.2.2.2.2.1 o.2.2.2.2.2.2.2.2.1 o.2.2.2.2.2.2.2.2.2]) A) ([.ref h_X, .int a1, .ref h_R, .int a3] : List Value).toArray s 0 0 A) (F0 m 38 ls [.long y0, .int y1, .ref h_X]) := by
    intro x4 y0 y1 X_lo X_ro X_rc M_f P_f R_sg R_hi R_lo R_pl R_mo H locs ls hP hD hS hl hF
    unfold f_X_finish_38 at hF
    refine lv_aload_n hx hb d_X_finish_38 rfl (lv_at hl 0 rfl) ?_
    refine va_get (D := (dC, dI)) (ci := 0) (v := .int R_pl) (C := "RoundedNumbers$Exact") (T := F_E) (N := 5) hx hb hts in_E hown hK hP 3 rfl rfl 3 (by decide) (hts _ tw_28) (fun _ h9 => h9) rfl d_X_finish_39 ?_
    refine lv_iload hx hb d_X_finish_42 (lv_at hl 1 rfl) ?_
    obtain ⟨q_44, hC_44, hF⟩ := hbd hF
    have hPc := hP.sub (ws' := [cX h_X h_M h_P h_E1 h_E2 h_E3 X_lo X_ro X_rc, cL h_M k_M 8 M_f, cI h_P k_P 8 P_f]) [0, 1, 2] rfl
    have hDc := hD.sub (ws' := [cX h_X h_M h_P h_E1 h_E2 h_E3 X_lo X_ro X_rc, cL h_M k_M 8 M_f, cI h_P k_P 8 P_f]) [0, 1, 2] (by decide) rfl
    have hKc := hK.sub (tys' := [(k_M, .long), (k_P, .int)]) [0, 1] rfl
    have hFc := va_free (wc := [cX h_X h_M h_P h_E1 h_E2 h_E3 X_lo X_ro X_rc, cL h_M k_M 8 M_f, cI h_P k_P 8 P_f]) hD hS hA [0, 1, 2] rfl
    refine va_calli (va_runV (As := [.int y1, .long y0, .int R_pl, .int x4]) (rest := []) ⟨hx, hb, hml, hown, hts⟩ (c_X_put l dC dI h_X h_M h_P h_E1 h_E2 h_E3 k_M k_P H.size X_lo X_ro X_rc M_f P_f y1 y0 R_pl x4 q_44 hC_44) (cwV 4 hts g_X_96_X_put rfl rfl rfl (by decide +kernel) ⟨Nat.le_of_ble_eq_true rfl, Nat.le_of_ble_eq_true rfl⟩) ⟨fun a U g mk q => by obtain ⟨q0, q1, qP, qK, qD⟩ := q; exact ⟨q0, q1, qP, va_K.moved (u := U) (U := U.calling g mk a) (Vm.Alike.refl U.vm) qK, qD⟩, va_recv hKc hPc (ci := 1) (q0 := 0) rfl rfl, fun U hU hW => ⟨rfl, by rw [hU], by rw [hU]; exact hPc, va_K.moved hW.alike hKc, hDc.weaken (fun _ _ _ _ => trivial)⟩⟩ rfl rfl hl.1 rfl (lv_room (Nat.le_of_ble_eq_true rfl)) d_X_finish_44 ⟨Nat.zero_le _, Nat.zero_le _⟩) hS (fun q _ h => hFc q h) hFc (fun r u t H1 locs ht hvm hw hB hz1 hk1 hS => ?_)
    obtain ⟨hP1, hK1, hD1⟩ := hB
    replace hw := hw.symm
    subst hw
    rw [ht] at hP1
    obtain ⟨hP, hD⟩ := va_join (wr := [cE h_R R_sg R_hi R_lo R_pl R_mo]) (w1 := [cX h_X h_M h_P h_E1 h_E2 h_E3 q_44.2.1 q_44.2.2.1 q_44.2.2.2.1, cL h_M k_M 8 q_44.2.2.2.2.1, cI h_P k_P 8 q_44.2.2.2.2.2]) hP hD [0, 1, 2] [3] rfl rfl (by decide) (by decide) hk1 hFc hP1 hD1
    generalize H1 = H at hP hS ⊢
    have hP := hP.sub (ws' := [cX h_X h_M h_P h_E1 h_E2 h_E3 q_44.2.1 q_44.2.2.1 q_44.2.2.2.1, cL h_M k_M 8 q_44.2.2.2.2.1, cI h_P k_P 8 q_44.2.2.2.2.2, cE h_R R_sg R_hi R_lo R_pl R_mo]) [1, 2, 3, 0] rfl
    have hD := hD.sub (ws' := [cX h_X h_M h_P h_E1 h_E2 h_E3 q_44.2.1 q_44.2.2.1 q_44.2.2.2.1, cL h_M k_M 8 q_44.2.2.2.2.1, cI h_P k_P 8 q_44.2.2.2.2.2, cE h_R R_sg R_hi R_lo R_pl R_mo]) [1, 2, 3, 0] (by decide) rfl
    obtain rfl := Option.some.inj hF
    exact W.iret (v := q_44.1) hx hb hr (fun t ht hW => ⟨⟨q_44.1, (), rfl, rfl, by rw [ht]; exact hP, va_K.moved hW.alike hK, hD⟩, hS.F ht⟩) hS.2.2 d_X_finish_47
  have b_12 : ∀ (x1 : Int32) (y0 : Int32) (X_lo : Int32) (X_ro : Int32) (X_rc : Int32) (M_f : Nat → Int64) (P_f : Nat → Int32) (R_sg : Int32) (R_hi : Int64) (R_lo : Int64) (R_pl : Int32) (R_mo : Int32) (H : Heap) (locs : List Loc) (ls : Array Slot), va_P (dC, dI) classes [cX h_X h_M h_P h_E1 h_E2 h_E3 X_lo X_ro X_rc, cL h_M k_M 8 M_f, cI h_P k_P 8 P_f, cE h_R R_sg R_hi R_lo R_pl R_mo] H → va_D A [cX h_X h_M h_P h_E1 h_E2 h_E3 X_lo X_ro X_rc, cL h_M k_M 8 M_f, cI h_P k_P 8 P_f, cE h_R R_sg R_hi R_lo R_pl R_mo] → va_S A s.heap H locs → lv_has ls 5 [(0, .ref h_X), (1, .int x1), (2, .ref h_R)] → f_X_finish_12  x1 y0 X_lo X_ro X_rc M_f P_f R_sg R_hi R_lo R_pl R_mo = some o → W p l e (headSpec w_X_finish ({ frames := 5, cells := 0, slots := 0, locals := 118 } : Room)).room s m ([.ref h_X, .int a1, .ref h_R, .int a3] : List Value).toArray below meth c H locs 0 0 (MQ below (va_Qi (fun (r : Int32) (_ : Unit) => r = o.1) (fun (_ : Unit) (t : State) => va_P (dC, dI) classes [cX h_X h_M h_P h_E1 h_E2 h_E3 o.2.1 o.2.2.1 o.2.2.2.1, cL h_M k_M 8 o.2.2.2.2.1, cI h_P k_P 8 o.2.2.2.2.2.1, cE h_R R_sg o.2.2.2.2.2.2.1 o.2.2.2.2.2.2.2.1 o.2.2.2.2.2.2.2.2.1 o.2.2.2.2.2.2.2.2.2] t.heap ∧ va_K (dC, dI) classes [(k_M, .long), (k_P, .int)] t ∧ va_D A [cX h_X h_M h_P h_E1 h_E2 h_E3 o.2.1 o.2.2.1 o.2.2.2.1, cL h_M k_M 8 o.2.2.2.2.1, cI h_P k_P 8 o.2.2.2.2.2.1, cE h_R R_sg o.2.2.2.2.2.2.1 o.2.2.2.2.2.2.2.1 o.2.2.2.2.2.2.2.2.1 o.2.2.2.2.2.2.2.2.2]) A) ([.ref h_X, .int a1, .ref h_R, .int a3] : List Value).toArray s 0 0 A) (F0 m 12 ls [.int y0, .ref h_R]) := by
    intro x1 y0 X_lo X_ro X_rc M_f P_f R_sg R_hi R_lo R_pl R_mo H locs ls hP hD hS hl hF
    unfold f_X_finish_12 at hF
    obtain ⟨q_12, hC_12, hF⟩ := hbd hF
    have hPc := hP.sub (ws' := [cE h_R R_sg R_hi R_lo R_pl R_mo]) [3] rfl
    have hDc := hD.sub (ws' := [cE h_R R_sg R_hi R_lo R_pl R_mo]) [3] (by decide) rfl
    have hKc := hK.sub (tys' := []) [] rfl
    have hFc := va_free (wc := [cE h_R R_sg R_hi R_lo R_pl R_mo]) hD hS hA [3] rfl
    refine va_calli (va_runV (As := [.int y0]) (rest := []) ⟨hx, hb, hml, hown, hts⟩ (c_E_roundTo l dC dI h_R H.size R_sg R_hi R_lo R_pl R_mo y0 q_12 hC_12) (cwV 1 hts g_X_171_E_roundTo rfl rfl rfl (by decide +kernel) ⟨Nat.le_of_ble_eq_true rfl, Nat.le_of_ble_eq_true rfl⟩) ⟨fun a U g mk q => by obtain ⟨q0, q1, qP, qK, qD⟩ := q; exact ⟨q0, q1, qP, va_K.moved (u := U) (U := U.calling g mk a) (Vm.Alike.refl U.vm) qK, qD⟩, va_recv hKc hPc (ci := 0) (q0 := 0) rfl rfl, fun U hU hW => ⟨rfl, by rw [hU], by rw [hU]; exact hPc, va_K.moved hW.alike hKc, hDc.weaken (fun _ _ _ _ => trivial)⟩⟩ rfl rfl hl.1 rfl (lv_room (Nat.le_of_ble_eq_true rfl)) d_X_finish_12 ⟨Nat.zero_le _, Nat.zero_le _⟩) hS (fun q _ h => hFc q h) hFc (fun r u t H1 locs ht hvm hw hB hz1 hk1 hS => ?_)
    obtain ⟨hP1, hK1, hD1⟩ := hB
    replace hw := hw.symm
    subst hw
    rw [ht] at hP1
    obtain ⟨hP, hD⟩ := va_join (wr := [cX h_X h_M h_P h_E1 h_E2 h_E3 X_lo X_ro X_rc, cL h_M k_M 8 M_f, cI h_P k_P 8 P_f]) (w1 := [cE h_R R_sg q_12.2.1 q_12.2.2.1 q_12.2.2.2.1 q_12.2.2.2.2]) hP hD [3] [0, 1, 2] rfl rfl (by decide) (by decide) hk1 hFc hP1 hD1
    generalize H1 = H at hP hS ⊢
    have hP := hP.sub (ws' := [cX h_X h_M h_P h_E1 h_E2 h_E3 X_lo X_ro X_rc, cL h_M k_M 8 M_f, cI h_P k_P 8 P_f, cE h_R R_sg q_12.2.1 q_12.2.2.1 q_12.2.2.2.1 q_12.2.2.2.2]) [0, 1, 2, 3] rfl
    have hD := hD.sub (ws' := [cX h_X h_M h_P h_E1 h_E2 h_E3 X_lo X_ro X_rc, cL h_M k_M 8 M_f, cI h_P k_P 8 P_f, cE h_R R_sg q_12.2.1 q_12.2.2.1 q_12.2.2.2.1 q_12.2.2.2.2]) [0, 1, 2, 3] (by decide) rfl
    refine lv_istore (lv' := [(4, .int q_12.1), (0, .ref h_X), (1, .int x1), (2, .ref h_R)]) hx hb d_X_finish_15 hl (by decide) rfl (fun ls hl => ?_)
    refine lv_aload_n hx hb d_X_finish_17 rfl (lv_at hl 1 rfl) ?_
    refine lv_iload_n hx hb d_X_finish_18 rfl (lv_at hl 2 rfl) ?_
    refine lv_aload_n hx hb d_X_finish_19 rfl (lv_at hl 3 rfl) ?_
    refine va_get (D := (dC, dI)) (ci := 0) (v := .int R_sg) (C := "RoundedNumbers$Exact") (T := F_E) (N := 5) hx hb hts in_E hown hK hP 3 rfl rfl 0 (by decide) (hts _ tw_22) (fun _ h9 => h9) rfl d_X_finish_20 ?_
    refine lv_if_ge (tgt := 34) hx hb d_X_finish_23 (by decide) (fun c_23 => ?_) (fun c_23 => ?_)
    · replace hF := hif_t c_23 hF
      refine lv_aload_n hx hb d_X_finish_34 rfl (lv_at hl 3 rfl) ?_
      refine va_get (D := (dC, dI)) (ci := 0) (v := .long q_12.2.2.1) (C := "RoundedNumbers$Exact") (T := F_E) (N := 5) hx hb hts in_E hown hK hP 3 rfl rfl 2 (by decide) (hts _ tw_26) (fun _ h9 => h9) rfl d_X_finish_35 ?_
      exact b_38 q_12.1 q_12.2.2.1 x1 X_lo X_ro X_rc M_f P_f R_sg q_12.2.1 q_12.2.2.1 q_12.2.2.2.1 q_12.2.2.2.2 _ _ _ hP hD hS (lv_sub hl [3, 0] rfl) hF
    · replace hF := hif_f c_23 hF
      refine lv_aload_n hx hb d_X_finish_26 rfl (lv_at hl 3 rfl) ?_
      refine va_get (D := (dC, dI)) (ci := 0) (v := .long q_12.2.2.1) (C := "RoundedNumbers$Exact") (T := F_E) (N := 5) hx hb hts in_E hown hK hP 3 rfl rfl 2 (by decide) (hts _ tw_26) (fun _ h9 => h9) rfl d_X_finish_27 ?_
      refine lv_lneg hx hb d_X_finish_30 ?_
      refine lv_goto (tgt := 38) hx hb d_X_finish_31 (by decide) ?_
      exact b_38 q_12.1 (-q_12.2.2.1) x1 X_lo X_ro X_rc M_f P_f R_sg q_12.2.1 q_12.2.2.1 q_12.2.2.2.1 q_12.2.2.2.2 _ _ _ hP hD hS (lv_sub hl [3, 0] rfl) hF
  unfold f_X_finish at hF
  refine lv_aload_n hx hb d_X_finish_0 rfl (lv_at hl 2 rfl) ?_
  refine lv_iload_n hx hb d_X_finish_1 rfl (lv_at hl 3 rfl) ?_
  refine lv_if_eq (tgt := 10) hx hb d_X_finish_2 (by decide) (fun c_2 => ?_) (fun c_2 => ?_)
  · replace hF := hif_t c_2 hF
    refine lv_bipush (v := (53 : Int32)) hx hb d_X_finish_10 (by decide) ?_
    exact b_12 a1 (53 : Int32) X_lo X_ro X_rc M_f P_f R_sg R_hi R_lo R_pl R_mo _ _ _ hP hD hS (lv_sub hl [0, 1, 2] rfl) hF
  · replace hF := hif_f c_2 hF
    refine lv_bipush (v := (24 : Int32)) hx hb d_X_finish_5 (by decide) ?_
    refine lv_goto (tgt := 12) hx hb d_X_finish_7 (by decide) ?_
    exact b_12 a1 (24 : Int32) X_lo X_ro X_rc M_f P_f R_sg R_hi R_lo R_pl R_mo _ _ _ hP hD hS (lv_sub hl [0, 1, 2] rfl) hF
set_option maxHeartbeats 4000000 in
set_option maxRecDepth 100000 in
theorem c_X_productPlus (l : Launch) (dC : Nat → ClassId) (dI : Nat → Nat → Nat) (h_X : Nat) (h_M : Nat) (h_P : Nat) (h_E1 : Nat) (h_E2 : Nat) (h_E3 : Nat) (k_M : ClassId) (k_P : ClassId) (sz : Nat) (X_lo : Int32) (X_ro : Int32) (X_rc : Int32) (M_f : Nat → Int64) (P_f : Nat → Int32) (E1_sg : Int32) (E1_hi : Int64) (E1_lo : Int64) (E1_pl : Int32) (E1_mo : Int32) (E2_sg : Int32) (E2_hi : Int64) (E2_lo : Int64) (E2_pl : Int32) (E2_mo : Int32) (a1 : Int32) (a2 : Int32) (a3 : Int32) (a4 : Int32) (a5 : Int32) (o : Int32 × Int32 × Int32 × Int32 × (Nat → Int64) × (Nat → Int32) × Int32 × Int64 × Int64 × Int32 × Int32 × Int32 × Int64 × Int64 × Int32 × Int32) (hF : f_X_productPlus X_lo X_ro X_rc M_f P_f E1_sg E1_hi E1_lo E1_pl E1_mo E2_sg E2_hi E2_lo E2_pl E2_mo a1 a2 a3 a4 a5 = some o) : Met l y_X_productPlus w_X_productPlus ({ frames := 6, cells := 0, slots := 0, locals := 142 } : Room) (va_Pc [.ref h_X, .int a1, .int a2, .int a3, .int a4, .int a5] (fun U => U.heap.size = sz ∧ va_P (dC, dI) classes [cX h_X h_M h_P h_E1 h_E2 h_E3 X_lo X_ro X_rc, cL h_M k_M 8 M_f, cI h_P k_P 8 P_f, cE h_E1 E1_sg E1_hi E1_lo E1_pl E1_mo, cE h_E2 E2_sg E2_hi E2_lo E2_pl E2_mo] U.heap ∧ va_K (dC, dI) classes [(k_M, .long), (k_P, .int)] U ∧ va_D (fun _ => True) [cX h_X h_M h_P h_E1 h_E2 h_E3 X_lo X_ro X_rc, cL h_M k_M 8 M_f, cI h_P k_P 8 P_f, cE h_E1 E1_sg E1_hi E1_lo E1_pl E1_mo, cE h_E2 E2_sg E2_hi E2_lo E2_pl E2_mo])) (va_Qi (fun (r : Int32) (_ : Unit) => r = o.1) (fun (_ : Unit) (t : State) => va_P (dC, dI) classes [cX h_X h_M h_P h_E1 h_E2 h_E3 o.2.1 o.2.2.1 o.2.2.2.1, cL h_M k_M 8 o.2.2.2.2.1, cI h_P k_P 8 o.2.2.2.2.2.1, cE h_E1 o.2.2.2.2.2.2.1 o.2.2.2.2.2.2.2.1 o.2.2.2.2.2.2.2.2.1 o.2.2.2.2.2.2.2.2.2.1 o.2.2.2.2.2.2.2.2.2.2.1, cE h_E2 o.2.2.2.2.2.2.2.2.2.2.2.1 o.2.2.2.2.2.2.2.2.2.2.2.2.1 o.2.2.2.2.2.2.2.2.2.2.2.2.2.1 o.2.2.2.2.2.2.2.2.2.2.2.2.2.2.1 o.2.2.2.2.2.2.2.2.2.2.2.2.2.2.2] t.heap ∧ va_K (dC, dI) classes [(k_M, .long), (k_P, .int)] t ∧ va_D (va_A [cX h_X h_M h_P h_E1 h_E2 h_E3 X_lo X_ro X_rc, cL h_M k_M 8 M_f, cI h_P k_P 8 P_f, cE h_E1 E1_sg E1_hi E1_lo E1_pl E1_mo, cE h_E2 E2_sg E2_hi E2_lo E2_pl E2_mo] sz) [cX h_X h_M h_P h_E1 h_E2 h_E3 o.2.1 o.2.2.1 o.2.2.2.1, cL h_M k_M 8 o.2.2.2.2.1, cI h_P k_P 8 o.2.2.2.2.2.1, cE h_E1 o.2.2.2.2.2.2.1 o.2.2.2.2.2.2.2.1 o.2.2.2.2.2.2.2.2.1 o.2.2.2.2.2.2.2.2.2.1 o.2.2.2.2.2.2.2.2.2.2.1, cE h_E2 o.2.2.2.2.2.2.2.2.2.2.2.1 o.2.2.2.2.2.2.2.2.2.2.2.2.1 o.2.2.2.2.2.2.2.2.2.2.2.2.2.1 o.2.2.2.2.2.2.2.2.2.2.2.2.2.2.1 o.2.2.2.2.2.2.2.2.2.2.2.2.2.2.2]) (va_A [cX h_X h_M h_P h_E1 h_E2 h_E3 X_lo X_ro X_rc, cL h_M k_M 8 M_f, cI h_P k_P 8 P_f, cE h_E1 E1_sg E1_hi E1_lo E1_pl E1_mo, cE h_E2 E2_sg E2_hi E2_lo E2_pl E2_mo] sz)) 0 0 (va_A [cX h_X h_M h_P h_E1 h_E2 h_E3 X_lo X_ro X_rc, cL h_M k_M 8 M_f, cI h_P k_P 8 P_f, cE h_E1 E1_sg E1_hi E1_lo E1_pl E1_mo, cE h_E2 E2_sg E2_hi E2_lo E2_pl E2_mo] sz) := by
  refine Met.ofW (cc := prog_1_method_32_code) (maxL := 6) (ret := (some .int)) (by decide) rfl ?_
  intro p e s m args below meth c s₁ B hml hv
  obtain ⟨rfl, hsz, hP, hK, hD0⟩ := hv
  have hx := B.exec
  have hb := B.bytes
  have hr := B.returns
  have hts0 := atoms_spec (ws := w_X_productPlus) B.pre
  have hts : ∀ w ∈ tb, w.before _ s = true := fun w h => hts0 w (List.mem_cons_of_mem _ h)
  clear hts0
  have hown : s.vm.findClass "RoundedNumbers" = some m.cls := findClass_of_methodNamed B.named
  have hlocks := B.notSynchronized
  subst hsz
  have hD := hD0.self (sz := s.heap.size)
  generalize hAe : va_A [cX h_X h_M h_P h_E1 h_E2 h_E3 X_lo X_ro X_rc, cL h_M k_M 8 M_f, cI h_P k_P 8 P_f, cE h_E1 E1_sg E1_hi E1_lo E1_pl E1_mo, cE h_E2 E2_sg E2_hi E2_lo E2_pl E2_mo] s.heap.size = A at hD ⊢
  have hA : ∀ q : Nat, s.heap.size ≤ q → A q := fun q h => by rw [← hAe]; exact Or.inr h
  clear hAe
  have hS : va_S A s.heap s.heap [] := va_S.rf
  have hP : va_P (dC, dI) classes [cX h_X h_M h_P h_E1 h_E2 h_E3 X_lo X_ro X_rc, cL h_M k_M 8 M_f, cI h_P k_P 8 P_f, cE h_E1 E1_sg E1_hi E1_lo E1_pl E1_mo, cE h_E2 E2_sg E2_hi E2_lo E2_pl E2_mo] s.heap := hP
  have hl := lv_entry ([.ref h_X, .int a1, .int a2, .int a3, .int a4, .int a5]) (n := 6) (Nat.le_of_ble_eq_true rfl)
  rw [lg_entry_eq]
  generalize (lg_sl ([.ref h_X, .int a1, .int a2, .int a3, .int a4, .int a5]) ++ List.replicate (6 - (lg_sl ([.ref h_X, .int a1, .int a2, .int a3, .int a4, .int a5])).length) Slot.unset).toArray = ls at hl ⊢
  have hl : lv_has ls 6 [(0, .ref h_X), (1, .int a1), (2, .int a2), (3, .int a3), (4, .int a4), (5, .int a5)] := hl
  unfold f_X_productPlus at hF
  refine lv_aload_n hx hb d_X_productPlus_0 rfl (lv_at hl 0 rfl) ?_
  refine lv_iload_n hx hb d_X_productPlus_1 rfl (lv_at hl 1 rfl) ?_
  refine lv_iload_n hx hb d_X_productPlus_2 rfl (lv_at hl 2 rfl) ?_
  refine lv_iload_n hx hb d_X_productPlus_3 rfl (lv_at hl 3 rfl) ?_
  refine lv_iload hx hb d_X_productPlus_4 (lv_at hl 5 rfl) ?_
  obtain ⟨q_6, hC_6, hF⟩ := hbd hF
  have hPc := hP.sub (ws' := [cX h_X h_M h_P h_E1 h_E2 h_E3 X_lo X_ro X_rc, cL h_M k_M 8 M_f]) [0, 1] rfl
  have hDc := hD.sub (ws' := [cX h_X h_M h_P h_E1 h_E2 h_E3 X_lo X_ro X_rc, cL h_M k_M 8 M_f]) [0, 1] (by decide) rfl
  have hKc := hK.sub (tys' := [(k_M, .long)]) [0] rfl
  have hFc := va_free (wc := [cX h_X h_M h_P h_E1 h_E2 h_E3 X_lo X_ro X_rc, cL h_M k_M 8 M_f]) hD hS hA [0, 1] rfl
  refine va_calli (va_runV (As := [.int a1, .int a2, .int a3, .int a5]) (rest := []) ⟨hx, hb, hml, hown, hts⟩ (c_X_mayTake l dC dI h_X h_M h_P h_E1 h_E2 h_E3 k_M s.heap.size X_lo X_ro X_rc M_f a1 a2 a3 a5 q_6 hC_6) (cwV 4 hts g_X_50_X_mayTake rfl rfl rfl (by decide +kernel) ⟨Nat.le_of_ble_eq_true rfl, Nat.le_of_ble_eq_true rfl⟩) ⟨fun a U g mk q => by obtain ⟨q0, q1, qP, qK, qD⟩ := q; exact ⟨q0, q1, qP, va_K.moved (u := U) (U := U.calling g mk a) (Vm.Alike.refl U.vm) qK, qD⟩, va_recv hKc hPc (ci := 1) (q0 := 0) rfl rfl, fun U hU hW => ⟨rfl, by rw [hU], by rw [hU]; exact hPc, va_K.moved hW.alike hKc, hDc.weaken (fun _ _ _ _ => trivial)⟩⟩ rfl rfl hl.1 rfl (lv_room (Nat.le_of_ble_eq_true rfl)) d_X_productPlus_6 ⟨Nat.zero_le _, Nat.zero_le _⟩) hS (fun q _ h => hFc q h) hFc (fun r u t H1 locs ht hvm hw hB hz1 hk1 hS => ?_)
  obtain ⟨hP1, hK1, hD1⟩ := hB
  replace hw := hw.symm
  subst hw
  rw [ht] at hP1
  obtain ⟨hP, hD⟩ := va_join (wr := [cI h_P k_P 8 P_f, cE h_E1 E1_sg E1_hi E1_lo E1_pl E1_mo, cE h_E2 E2_sg E2_hi E2_lo E2_pl E2_mo]) (w1 := [cX h_X h_M h_P h_E1 h_E2 h_E3 X_lo X_ro X_rc, cL h_M k_M 8 M_f]) hP hD [0, 1] [2, 3, 4] rfl rfl (by decide) (by decide) hk1 hFc hP1 hD1
  generalize H1 = H at hP hS ⊢
  have hP := hP.sub (ws' := [cX h_X h_M h_P h_E1 h_E2 h_E3 X_lo X_ro X_rc, cL h_M k_M 8 M_f, cI h_P k_P 8 P_f, cE h_E1 E1_sg E1_hi E1_lo E1_pl E1_mo, cE h_E2 E2_sg E2_hi E2_lo E2_pl E2_mo]) [3, 4, 0, 1, 2] rfl
  have hD := hD.sub (ws' := [cX h_X h_M h_P h_E1 h_E2 h_E3 X_lo X_ro X_rc, cL h_M k_M 8 M_f, cI h_P k_P 8 P_f, cE h_E1 E1_sg E1_hi E1_lo E1_pl E1_mo, cE h_E2 E2_sg E2_hi E2_lo E2_pl E2_mo]) [3, 4, 0, 1, 2] (by decide) rfl
  refine lv_if_eq (tgt := 25) hx hb d_X_productPlus_9 (by decide) (fun c_9 => ?_) (fun c_9 => ?_)
  · replace hF := hif_t c_9 hF
    refine lv_iconst (v := (-1 : Int32)) hx hb d_X_productPlus_25 (by decide) ?_
    obtain rfl := Option.some.inj hF
    exact W.iret (v := (-1 : Int32)) hx hb hr (fun t ht hW => ⟨⟨(-1 : Int32), (), rfl, rfl, by rw [ht]; exact hP, va_K.moved hW.alike hK, hD⟩, hS.F ht⟩) hS.2.2 d_X_productPlus_26
  · replace hF := hif_f c_9 hF
    refine lv_aload_n hx hb d_X_productPlus_12 rfl (lv_at hl 0 rfl) ?_
    refine lv_iload_n hx hb d_X_productPlus_13 rfl (lv_at hl 1 rfl) ?_
    refine lv_iload_n hx hb d_X_productPlus_14 rfl (lv_at hl 2 rfl) ?_
    refine lv_iload hx hb d_X_productPlus_15 (lv_at hl 4 rfl) ?_
    refine lv_iload hx hb d_X_productPlus_17 (lv_at hl 5 rfl) ?_
    obtain ⟨q_19, hC_19, hF⟩ := hbd hF
    have hPc := hP.sub (ws' := [cX h_X h_M h_P h_E1 h_E2 h_E3 X_lo X_ro X_rc, cL h_M k_M 8 M_f]) [0, 1] rfl
    have hDc := hD.sub (ws' := [cX h_X h_M h_P h_E1 h_E2 h_E3 X_lo X_ro X_rc, cL h_M k_M 8 M_f]) [0, 1] (by decide) rfl
    have hKc := hK.sub (tys' := [(k_M, .long)]) [0] rfl
    have hFc := va_free (wc := [cX h_X h_M h_P h_E1 h_E2 h_E3 X_lo X_ro X_rc, cL h_M k_M 8 M_f]) hD hS hA [0, 1] rfl
    refine va_calli (va_runV (As := [.int a1, .int a2, .int a4, .int a5]) (rest := []) ⟨hx, hb, hml, hown, hts⟩ (c_X_mayTake l dC dI h_X h_M h_P h_E1 h_E2 h_E3 k_M H.size X_lo X_ro X_rc M_f a1 a2 a4 a5 q_19 hC_19) (cwV 4 hts g_X_50_X_mayTake rfl rfl rfl (by decide +kernel) ⟨Nat.le_of_ble_eq_true rfl, Nat.le_of_ble_eq_true rfl⟩) ⟨fun a U g mk q => by obtain ⟨q0, q1, qP, qK, qD⟩ := q; exact ⟨q0, q1, qP, va_K.moved (u := U) (U := U.calling g mk a) (Vm.Alike.refl U.vm) qK, qD⟩, va_recv hKc hPc (ci := 1) (q0 := 0) rfl rfl, fun U hU hW => ⟨rfl, by rw [hU], by rw [hU]; exact hPc, va_K.moved hW.alike hKc, hDc.weaken (fun _ _ _ _ => trivial)⟩⟩ rfl rfl hl.1 rfl (lv_room (Nat.le_of_ble_eq_true rfl)) d_X_productPlus_19 ⟨Nat.zero_le _, Nat.zero_le _⟩) hS (fun q _ h => hFc q h) hFc (fun r u t H1 locs ht hvm hw hB hz1 hk1 hS => ?_)
    obtain ⟨hP1, hK1, hD1⟩ := hB
    replace hw := hw.symm
    subst hw
    rw [ht] at hP1
    obtain ⟨hP, hD⟩ := va_join (wr := [cI h_P k_P 8 P_f, cE h_E1 E1_sg E1_hi E1_lo E1_pl E1_mo, cE h_E2 E2_sg E2_hi E2_lo E2_pl E2_mo]) (w1 := [cX h_X h_M h_P h_E1 h_E2 h_E3 X_lo X_ro X_rc, cL h_M k_M 8 M_f]) hP hD [0, 1] [2, 3, 4] rfl rfl (by decide) (by decide) hk1 hFc hP1 hD1
    generalize H1 = H at hP hS ⊢
    have hP := hP.sub (ws' := [cX h_X h_M h_P h_E1 h_E2 h_E3 X_lo X_ro X_rc, cL h_M k_M 8 M_f, cI h_P k_P 8 P_f, cE h_E1 E1_sg E1_hi E1_lo E1_pl E1_mo, cE h_E2 E2_sg E2_hi E2_lo E2_pl E2_mo]) [3, 4, 0, 1, 2] rfl
    have hD := hD.sub (ws' := [cX h_X h_M h_P h_E1 h_E2 h_E3 X_lo X_ro X_rc, cL h_M k_M 8 M_f, cI h_P k_P 8 P_f, cE h_E1 E1_sg E1_hi E1_lo E1_pl E1_mo, cE h_E2 E2_sg E2_hi E2_lo E2_pl E2_mo]) [3, 4, 0, 1, 2] (by decide) rfl
    refine lv_if_ne (tgt := 27) hx hb d_X_productPlus_22 (by decide) (fun c_22 => ?_) (fun c_22 => ?_)
    · replace hF := hif_f c_22 hF
      refine lv_aload_n hx hb d_X_productPlus_27 rfl (lv_at hl 0 rfl) ?_
      refine va_get (D := (dC, dI)) (ci := 1) (v := .ref h_E1) (C := "RoundedNumbers") (T := F_X) (N := 8) hx hb hts in_X hown hK hP 0 rfl rfl 5 (by decide) (hts _ tw_48) (fun _ h9 => h9) rfl d_X_productPlus_28 ?_
      refine lv_aload_n hx hb d_X_productPlus_31 rfl (lv_at hl 0 rfl) ?_
      refine va_get (D := (dC, dI)) (ci := 1) (v := .ref h_M) (C := "RoundedNumbers") (T := F_X) (N := 8) hx hb hts in_X hown hK hP 0 rfl rfl 0 (by decide) (hts _ tw_43) (fun _ h9 => h9) rfl d_X_productPlus_32 ?_
      refine lv_iload_n hx hb d_X_productPlus_35 rfl (lv_at hl 2 rfl) ?_
      have c_36 : ¬ (a2 < 0 ∨ 8 ≤ a2.toNatClampNeg) := hif_n hF
      replace hF := hif_f c_36 hF
      refine va_lald hx hb hK hP 1 0 rfl rfl c_36 d_X_productPlus_36 ?_
      refine lv_aload_n hx hb d_X_productPlus_37 rfl (lv_at hl 0 rfl) ?_
      refine va_get (D := (dC, dI)) (ci := 1) (v := .ref h_M) (C := "RoundedNumbers") (T := F_X) (N := 8) hx hb hts in_X hown hK hP 0 rfl rfl 0 (by decide) (hts _ tw_43) (fun _ h9 => h9) rfl d_X_productPlus_38 ?_
      refine lv_iload_n hx hb d_X_productPlus_41 rfl (lv_at hl 3 rfl) ?_
      have c_42 : ¬ (a3 < 0 ∨ 8 ≤ a3.toNatClampNeg) := hif_n hF
      replace hF := hif_f c_42 hF
      refine va_lald hx hb hK hP 1 0 rfl rfl c_42 d_X_productPlus_42 ?_
      refine lv_aload_n hx hb d_X_productPlus_43 rfl (lv_at hl 0 rfl) ?_
      refine va_get (D := (dC, dI)) (ci := 1) (v := .ref h_P) (C := "RoundedNumbers") (T := F_X) (N := 8) hx hb hts in_X hown hK hP 0 rfl rfl 1 (by decide) (hts _ tw_44) (fun _ h9 => h9) rfl d_X_productPlus_44 ?_
      refine lv_iload_n hx hb d_X_productPlus_47 rfl (lv_at hl 2 rfl) ?_
      have c_48 : ¬ (a2 < 0 ∨ 8 ≤ a2.toNatClampNeg) := hif_n hF
      replace hF := hif_f c_48 hF
      refine va_iald hx hb hK hP 2 1 rfl rfl c_48 d_X_productPlus_48 ?_
      refine lv_aload_n hx hb d_X_productPlus_49 rfl (lv_at hl 0 rfl) ?_
      refine va_get (D := (dC, dI)) (ci := 1) (v := .ref h_P) (C := "RoundedNumbers") (T := F_X) (N := 8) hx hb hts in_X hown hK hP 0 rfl rfl 1 (by decide) (hts _ tw_44) (fun _ h9 => h9) rfl d_X_productPlus_50 ?_
      refine lv_iload_n hx hb d_X_productPlus_53 rfl (lv_at hl 3 rfl) ?_
      have c_54 : ¬ (a3 < 0 ∨ 8 ≤ a3.toNatClampNeg) := hif_n hF
      replace hF := hif_f c_54 hF
      refine va_iald hx hb hK hP 2 1 rfl rfl c_54 d_X_productPlus_54 ?_
      refine lv_iadd hx hb d_X_productPlus_55 ?_
      obtain ⟨q_56, hC_56, hF⟩ := hbd hF
      have hPc := hP.sub (ws' := [cE h_E1 E1_sg E1_hi E1_lo E1_pl E1_mo]) [3] rfl
      have hDc := hD.sub (ws' := [cE h_E1 E1_sg E1_hi E1_lo E1_pl E1_mo]) [3] (by decide) rfl
      have hKc := hK.sub (tys' := []) [] rfl
      have hFc := va_free (wc := [cE h_E1 E1_sg E1_hi E1_lo E1_pl E1_mo]) hD hS hA [3] rfl
      refine va_callv (va_runV (As := [.long (M_f a2.toNatClampNeg), .long (M_f a3.toNatClampNeg), .int ((P_f a2.toNatClampNeg) + (P_f a3.toNatClampNeg))]) (rest := []) ⟨hx, hb, hml, hown, hts⟩ (c_E_holdProduct l dC dI h_E1 H.size E1_sg E1_hi E1_lo E1_pl E1_mo (M_f a2.toNatClampNeg) (M_f a3.toNatClampNeg) ((P_f a2.toNatClampNeg) + (P_f a3.toNatClampNeg)) q_56 hC_56) (cwV 3 hts g_X_66_E_holdProduct rfl rfl rfl (by decide +kernel) ⟨Nat.le_of_ble_eq_true rfl, Nat.le_of_ble_eq_true rfl⟩) ⟨fun a U g mk q => by obtain ⟨q0, q1, qP, qK, qD⟩ := q; exact ⟨q0, q1, qP, va_K.moved (u := U) (U := U.calling g mk a) (Vm.Alike.refl U.vm) qK, qD⟩, va_recv hKc hPc (ci := 0) (q0 := 0) rfl rfl, fun U hU hW => ⟨rfl, by rw [hU], by rw [hU]; exact hPc, va_K.moved hW.alike hKc, hDc.weaken (fun _ _ _ _ => trivial)⟩⟩ rfl rfl hl.1 rfl (lv_room (Nat.le_of_ble_eq_true rfl)) d_X_productPlus_56 ⟨Nat.zero_le _, Nat.zero_le _⟩) hS (fun q _ h => hFc q h) hFc (fun u t H1 locs ht hvm hw hB hz1 hk1 hS => ?_)
      obtain ⟨hP1, hK1, hD1⟩ := hB
      rw [ht] at hP1
      obtain ⟨hP, hD⟩ := va_join (wr := [cX h_X h_M h_P h_E1 h_E2 h_E3 X_lo X_ro X_rc, cL h_M k_M 8 M_f, cI h_P k_P 8 P_f, cE h_E2 E2_sg E2_hi E2_lo E2_pl E2_mo]) (w1 := [cE h_E1 q_56.1 q_56.2.1 q_56.2.2.1 q_56.2.2.2.1 q_56.2.2.2.2]) hP hD [3] [0, 1, 2, 4] rfl rfl (by decide) (by decide) hk1 hFc hP1 hD1
      generalize H1 = H at hP hS ⊢
      have hP := hP.sub (ws' := [cX h_X h_M h_P h_E1 h_E2 h_E3 X_lo X_ro X_rc, cL h_M k_M 8 M_f, cI h_P k_P 8 P_f, cE h_E1 q_56.1 q_56.2.1 q_56.2.2.1 q_56.2.2.2.1 q_56.2.2.2.2, cE h_E2 E2_sg E2_hi E2_lo E2_pl E2_mo]) [0, 1, 2, 4, 3] rfl
      have hD := hD.sub (ws' := [cX h_X h_M h_P h_E1 h_E2 h_E3 X_lo X_ro X_rc, cL h_M k_M 8 M_f, cI h_P k_P 8 P_f, cE h_E1 q_56.1 q_56.2.1 q_56.2.2.1 q_56.2.2.2.1 q_56.2.2.2.2, cE h_E2 E2_sg E2_hi E2_lo E2_pl E2_mo]) [0, 1, 2, 4, 3] (by decide) rfl
      refine lv_aload_n hx hb d_X_productPlus_59 rfl (lv_at hl 0 rfl) ?_
      refine va_get (D := (dC, dI)) (ci := 1) (v := .ref h_E2) (C := "RoundedNumbers") (T := F_X) (N := 8) hx hb hts in_X hown hK hP 0 rfl rfl 6 (by decide) (hts _ tw_49) (fun _ h9 => h9) rfl d_X_productPlus_60 ?_
      refine lv_aload_n hx hb d_X_productPlus_63 rfl (lv_at hl 0 rfl) ?_
      refine va_get (D := (dC, dI)) (ci := 1) (v := .ref h_M) (C := "RoundedNumbers") (T := F_X) (N := 8) hx hb hts in_X hown hK hP 0 rfl rfl 0 (by decide) (hts _ tw_43) (fun _ h9 => h9) rfl d_X_productPlus_64 ?_
      refine lv_iload hx hb d_X_productPlus_67 (lv_at hl 4 rfl) ?_
      have c_69 : ¬ (a4 < 0 ∨ 8 ≤ a4.toNatClampNeg) := hif_n hF
      replace hF := hif_f c_69 hF
      refine va_lald hx hb hK hP 1 0 rfl rfl c_69 d_X_productPlus_69 ?_
      refine lv_aload_n hx hb d_X_productPlus_70 rfl (lv_at hl 0 rfl) ?_
      refine va_get (D := (dC, dI)) (ci := 1) (v := .ref h_P) (C := "RoundedNumbers") (T := F_X) (N := 8) hx hb hts in_X hown hK hP 0 rfl rfl 1 (by decide) (hts _ tw_44) (fun _ h9 => h9) rfl d_X_productPlus_71 ?_
      refine lv_iload hx hb d_X_productPlus_74 (lv_at hl 4 rfl) ?_
      have c_76 : ¬ (a4 < 0 ∨ 8 ≤ a4.toNatClampNeg) := hif_n hF
      replace hF := hif_f c_76 hF
      refine va_iald hx hb hK hP 2 1 rfl rfl c_76 d_X_productPlus_76 ?_
      obtain ⟨q_77, hC_77, hF⟩ := hbd hF
      have hPc := hP.sub (ws' := [cE h_E2 E2_sg E2_hi E2_lo E2_pl E2_mo]) [4] rfl
      have hDc := hD.sub (ws' := [cE h_E2 E2_sg E2_hi E2_lo E2_pl E2_mo]) [4] (by decide) rfl
      have hKc := hK.sub (tys' := []) [] rfl
      have hFc := va_free (wc := [cE h_E2 E2_sg E2_hi E2_lo E2_pl E2_mo]) hD hS hA [4] rfl
      refine va_callv (va_runV (As := [.long (M_f a4.toNatClampNeg), .int (P_f a4.toNatClampNeg)]) (rest := []) ⟨hx, hb, hml, hown, hts⟩ (c_E_hold l dC dI h_E2 H.size E2_sg E2_hi E2_lo E2_pl E2_mo (M_f a4.toNatClampNeg) (P_f a4.toNatClampNeg) q_77 hC_77) (cwV 2 hts g_X_54_E_hold rfl rfl rfl (by decide +kernel) ⟨Nat.le_of_ble_eq_true rfl, Nat.le_of_ble_eq_true rfl⟩) ⟨fun a U g mk q => by obtain ⟨q0, q1, qP, qK, qD⟩ := q; exact ⟨q0, q1, qP, va_K.moved (u := U) (U := U.calling g mk a) (Vm.Alike.refl U.vm) qK, qD⟩, va_recv hKc hPc (ci := 0) (q0 := 0) rfl rfl, fun U hU hW => ⟨rfl, by rw [hU], by rw [hU]; exact hPc, va_K.moved hW.alike hKc, hDc.weaken (fun _ _ _ _ => trivial)⟩⟩ rfl rfl hl.1 rfl (lv_room (Nat.le_of_ble_eq_true rfl)) d_X_productPlus_77 ⟨Nat.zero_le _, Nat.zero_le _⟩) hS (fun q _ h => hFc q h) hFc (fun u t H1 locs ht hvm hw hB hz1 hk1 hS => ?_)
      obtain ⟨hP1, hK1, hD1⟩ := hB
      rw [ht] at hP1
      obtain ⟨hP, hD⟩ := va_join (wr := [cX h_X h_M h_P h_E1 h_E2 h_E3 X_lo X_ro X_rc, cL h_M k_M 8 M_f, cI h_P k_P 8 P_f, cE h_E1 q_56.1 q_56.2.1 q_56.2.2.1 q_56.2.2.2.1 q_56.2.2.2.2]) (w1 := [cE h_E2 q_77.1 q_77.2.1 q_77.2.2.1 q_77.2.2.2.1 q_77.2.2.2.2]) hP hD [4] [0, 1, 2, 3] rfl rfl (by decide) (by decide) hk1 hFc hP1 hD1
      generalize H1 = H at hP hS ⊢
      have hP := hP.sub (ws' := [cX h_X h_M h_P h_E1 h_E2 h_E3 X_lo X_ro X_rc, cL h_M k_M 8 M_f, cI h_P k_P 8 P_f, cE h_E1 q_56.1 q_56.2.1 q_56.2.2.1 q_56.2.2.2.1 q_56.2.2.2.2, cE h_E2 q_77.1 q_77.2.1 q_77.2.2.1 q_77.2.2.2.1 q_77.2.2.2.2]) [0, 1, 2, 3, 4] rfl
      have hD := hD.sub (ws' := [cX h_X h_M h_P h_E1 h_E2 h_E3 X_lo X_ro X_rc, cL h_M k_M 8 M_f, cI h_P k_P 8 P_f, cE h_E1 q_56.1 q_56.2.1 q_56.2.2.1 q_56.2.2.2.1 q_56.2.2.2.2, cE h_E2 q_77.1 q_77.2.1 q_77.2.2.1 q_77.2.2.2.1 q_77.2.2.2.2]) [0, 1, 2, 3, 4] (by decide) rfl
      refine lv_aload_n hx hb d_X_productPlus_80 rfl (lv_at hl 0 rfl) ?_
      refine lv_iload_n hx hb d_X_productPlus_81 rfl (lv_at hl 1 rfl) ?_
      refine lv_aload_n hx hb d_X_productPlus_82 rfl (lv_at hl 0 rfl) ?_
      refine va_get (D := (dC, dI)) (ci := 1) (v := .ref h_E1) (C := "RoundedNumbers") (T := F_X) (N := 8) hx hb hts in_X hown hK hP 0 rfl rfl 5 (by decide) (hts _ tw_48) (fun _ h9 => h9) rfl d_X_productPlus_83 ?_
      refine lv_aload_n hx hb d_X_productPlus_86 rfl (lv_at hl 0 rfl) ?_
      refine va_get (D := (dC, dI)) (ci := 1) (v := .ref h_E2) (C := "RoundedNumbers") (T := F_X) (N := 8) hx hb hts in_X hown hK hP 0 rfl rfl 6 (by decide) (hts _ tw_49) (fun _ h9 => h9) rfl d_X_productPlus_87 ?_
      obtain ⟨q_90, hC_90, hF⟩ := hbd hF
      have hPc := hP.sub (ws' := [cE h_E1 q_56.1 q_56.2.1 q_56.2.2.1 q_56.2.2.2.1 q_56.2.2.2.2, cE h_E2 q_77.1 q_77.2.1 q_77.2.2.1 q_77.2.2.2.1 q_77.2.2.2.2]) [3, 4] rfl
      have hDc := hD.sub (ws' := [cE h_E1 q_56.1 q_56.2.1 q_56.2.2.1 q_56.2.2.2.1 q_56.2.2.2.2, cE h_E2 q_77.1 q_77.2.1 q_77.2.2.1 q_77.2.2.2.1 q_77.2.2.2.2]) [3, 4] (by decide) rfl
      have hKc := hK.sub (tys' := []) [] rfl
      have hFc := va_free (wc := [cE h_E1 q_56.1 q_56.2.1 q_56.2.2.1 q_56.2.2.2.1 q_56.2.2.2.2, cE h_E2 q_77.1 q_77.2.1 q_77.2.2.1 q_77.2.2.2.1 q_77.2.2.2.2]) hD hS hA [3, 4] rfl
      refine va_callr (va_runS (As := [.ref h_E1, .ref h_E2]) (rest := [.int a1, .ref h_X]) ⟨hx, hb, hml, hown, hts⟩ (c_E_sum l dC dI h_E1 h_E2 H.size q_56.1 q_56.2.1 q_56.2.2.1 q_56.2.2.2.1 q_56.2.2.2.2 q_77.1 q_77.2.1 q_77.2.2.1 q_77.2.2.2.1 q_77.2.2.2.2 q_90 hC_90) (va_cwS 2 hts g_X_58_E_sum rfl rfl rfl (by decide +kernel) ⟨Nat.le_of_ble_eq_true rfl, Nat.le_of_ble_eq_true rfl⟩) ⟨fun a U g mk q => by obtain ⟨q0, q1, qP, qK, qD⟩ := q; exact ⟨q0, q1, qP, va_K.moved (u := U) (U := U.calling g mk a) (Vm.Alike.refl U.vm) qK, qD⟩, fun U hU hW => ⟨rfl, by rw [hU], by rw [hU]; exact hPc, va_K.moved hW.alike hKc, hDc.weaken (fun _ _ _ _ => trivial)⟩⟩ rfl rfl hl.1 rfl (lv_room (Nat.le_of_ble_eq_true rfl)) d_X_productPlus_90 ⟨Nat.zero_le _, Nat.zero_le _⟩) hS (fun q _ h => hFc q h) hFc (fun u ra t H1 locs ht hvm hw hB hz1 hk1 hS => ?_)
      obtain ⟨hra, hP1, hK1, hD1⟩ := hB
      rw [ht] at hP1
      obtain ⟨hP, hD⟩ := va_join (wr := [cX h_X h_M h_P h_E1 h_E2 h_E3 X_lo X_ro X_rc, cL h_M k_M 8 M_f, cI h_P k_P 8 P_f]) (w1 := [cE h_E1 q_90.2.1 q_90.2.2.1 q_90.2.2.2.1 q_90.2.2.2.2.1 q_90.2.2.2.2.2.1, cE h_E2 q_90.2.2.2.2.2.2.1 q_90.2.2.2.2.2.2.2.1 q_90.2.2.2.2.2.2.2.2.1 q_90.2.2.2.2.2.2.2.2.2.1 q_90.2.2.2.2.2.2.2.2.2.2]) hP hD [3, 4] [0, 1, 2] rfl rfl (by decide) (by decide) hk1 hFc hP1 hD1
      generalize H1 = H at hP hS ⊢
      have hP := hP.sub (ws' := [cX h_X h_M h_P h_E1 h_E2 h_E3 X_lo X_ro X_rc, cL h_M k_M 8 M_f, cI h_P k_P 8 P_f, cE h_E1 q_90.2.1 q_90.2.2.1 q_90.2.2.2.1 q_90.2.2.2.2.1 q_90.2.2.2.2.2.1, cE h_E2 q_90.2.2.2.2.2.2.1 q_90.2.2.2.2.2.2.2.1 q_90.2.2.2.2.2.2.2.2.1 q_90.2.2.2.2.2.2.2.2.2.1 q_90.2.2.2.2.2.2.2.2.2.2]) [0, 1, 2, 3, 4] rfl
      have hD := hD.sub (ws' := [cX h_X h_M h_P h_E1 h_E2 h_E3 X_lo X_ro X_rc, cL h_M k_M 8 M_f, cI h_P k_P 8 P_f, cE h_E1 q_90.2.1 q_90.2.2.1 q_90.2.2.2.1 q_90.2.2.2.2.1 q_90.2.2.2.2.2.1, cE h_E2 q_90.2.2.2.2.2.2.1 q_90.2.2.2.2.2.2.2.1 q_90.2.2.2.2.2.2.2.2.1 q_90.2.2.2.2.2.2.2.2.2.1 q_90.2.2.2.2.2.2.2.2.2.2]) [0, 1, 2, 3, 4] (by decide) rfl
      rcases Bool.eq_false_or_eq_true q_90.1 with hsel | hsel
      · obtain rfl := (hra.1 hsel).symm
        replace hF := hif_t hsel hF
        refine lv_iload hx hb d_X_productPlus_93 (lv_at hl 5 rfl) ?_
        obtain ⟨q_95, hC_95, hF⟩ := hbd hF
        have hPc := hP.sub (ws' := [cX h_X h_M h_P h_E1 h_E2 h_E3 X_lo X_ro X_rc, cL h_M k_M 8 M_f, cI h_P k_P 8 P_f, cE h_E1 q_90.2.1 q_90.2.2.1 q_90.2.2.2.1 q_90.2.2.2.2.1 q_90.2.2.2.2.2.1]) [0, 1, 2, 3] rfl
        have hDc := hD.sub (ws' := [cX h_X h_M h_P h_E1 h_E2 h_E3 X_lo X_ro X_rc, cL h_M k_M 8 M_f, cI h_P k_P 8 P_f, cE h_E1 q_90.2.1 q_90.2.2.1 q_90.2.2.2.1 q_90.2.2.2.2.1 q_90.2.2.2.2.2.1]) [0, 1, 2, 3] (by decide) rfl
        have hKc := hK.sub (tys' := [(k_M, .long), (k_P, .int)]) [0, 1] rfl
        have hFc := va_free (wc := [cX h_X h_M h_P h_E1 h_E2 h_E3 X_lo X_ro X_rc, cL h_M k_M 8 M_f, cI h_P k_P 8 P_f, cE h_E1 q_90.2.1 q_90.2.2.1 q_90.2.2.2.1 q_90.2.2.2.2.1 q_90.2.2.2.2.2.1]) hD hS hA [0, 1, 2, 3] rfl
        refine va_calli (va_runV (As := [.int a1, .ref h_E1, .int a5]) (rest := []) ⟨hx, hb, hml, hown, hts⟩ (c_X_finish l dC dI h_X h_M h_P h_E1 h_E2 h_E3 h_E1 k_M k_P H.size X_lo X_ro X_rc M_f P_f q_90.2.1 q_90.2.2.1 q_90.2.2.2.1 q_90.2.2.2.2.1 q_90.2.2.2.2.2.1 a1 a5 q_95 hC_95) (cwV 3 hts g_X_62_X_finish rfl rfl rfl (by decide +kernel) ⟨Nat.le_of_ble_eq_true rfl, Nat.le_of_ble_eq_true rfl⟩) ⟨fun a U g mk q => by obtain ⟨q0, q1, qP, qK, qD⟩ := q; exact ⟨q0, q1, qP, va_K.moved (u := U) (U := U.calling g mk a) (Vm.Alike.refl U.vm) qK, qD⟩, va_recv hKc hPc (ci := 1) (q0 := 0) rfl rfl, fun U hU hW => ⟨rfl, by rw [hU], by rw [hU]; exact hPc, va_K.moved hW.alike hKc, hDc.weaken (fun _ _ _ _ => trivial)⟩⟩ rfl rfl hl.1 rfl (lv_room (Nat.le_of_ble_eq_true rfl)) d_X_productPlus_95 ⟨Nat.zero_le _, Nat.zero_le _⟩) hS (fun q _ h => hFc q h) hFc (fun r u t H1 locs ht hvm hw hB hz1 hk1 hS => ?_)
        obtain ⟨hP1, hK1, hD1⟩ := hB
        replace hw := hw.symm
        subst hw
        rw [ht] at hP1
        obtain ⟨hP, hD⟩ := va_join (wr := [cE h_E2 q_90.2.2.2.2.2.2.1 q_90.2.2.2.2.2.2.2.1 q_90.2.2.2.2.2.2.2.2.1 q_90.2.2.2.2.2.2.2.2.2.1 q_90.2.2.2.2.2.2.2.2.2.2]) (w1 := [cX h_X h_M h_P h_E1 h_E2 h_E3 q_95.2.1 q_95.2.2.1 q_95.2.2.2.1, cL h_M k_M 8 q_95.2.2.2.2.1, cI h_P k_P 8 q_95.2.2.2.2.2.1, cE h_E1 q_90.2.1 q_95.2.2.2.2.2.2.1 q_95.2.2.2.2.2.2.2.1 q_95.2.2.2.2.2.2.2.2.1 q_95.2.2.2.2.2.2.2.2.2]) hP hD [0, 1, 2, 3] [4] rfl rfl (by decide) (by decide) hk1 hFc hP1 hD1
        generalize H1 = H at hP hS ⊢
        have hP := hP.sub (ws' := [cX h_X h_M h_P h_E1 h_E2 h_E3 q_95.2.1 q_95.2.2.1 q_95.2.2.2.1, cL h_M k_M 8 q_95.2.2.2.2.1, cI h_P k_P 8 q_95.2.2.2.2.2.1, cE h_E1 q_90.2.1 q_95.2.2.2.2.2.2.1 q_95.2.2.2.2.2.2.2.1 q_95.2.2.2.2.2.2.2.2.1 q_95.2.2.2.2.2.2.2.2.2, cE h_E2 q_90.2.2.2.2.2.2.1 q_90.2.2.2.2.2.2.2.1 q_90.2.2.2.2.2.2.2.2.1 q_90.2.2.2.2.2.2.2.2.2.1 q_90.2.2.2.2.2.2.2.2.2.2]) [1, 2, 3, 4, 0] rfl
        have hD := hD.sub (ws' := [cX h_X h_M h_P h_E1 h_E2 h_E3 q_95.2.1 q_95.2.2.1 q_95.2.2.2.1, cL h_M k_M 8 q_95.2.2.2.2.1, cI h_P k_P 8 q_95.2.2.2.2.2.1, cE h_E1 q_90.2.1 q_95.2.2.2.2.2.2.1 q_95.2.2.2.2.2.2.2.1 q_95.2.2.2.2.2.2.2.2.1 q_95.2.2.2.2.2.2.2.2.2, cE h_E2 q_90.2.2.2.2.2.2.1 q_90.2.2.2.2.2.2.2.1 q_90.2.2.2.2.2.2.2.2.1 q_90.2.2.2.2.2.2.2.2.2.1 q_90.2.2.2.2.2.2.2.2.2.2]) [1, 2, 3, 4, 0] (by decide) rfl
        obtain rfl := Option.some.inj hF
        exact W.iret (v := q_95.1) hx hb hr (fun t ht hW => ⟨⟨q_95.1, (), rfl, rfl, by rw [ht]; exact hP, va_K.moved hW.alike hK, hD⟩, hS.F ht⟩) hS.2.2 d_X_productPlus_98
      · obtain rfl := (hra.2 hsel).symm
        replace hF := hif_f (by rw [hsel]; decide) hF
        refine lv_iload hx hb d_X_productPlus_93 (lv_at hl 5 rfl) ?_
        obtain ⟨q_95, hC_95, hF⟩ := hbd hF
        have hPc := hP.sub (ws' := [cX h_X h_M h_P h_E1 h_E2 h_E3 X_lo X_ro X_rc, cL h_M k_M 8 M_f, cI h_P k_P 8 P_f, cE h_E2 q_90.2.2.2.2.2.2.1 q_90.2.2.2.2.2.2.2.1 q_90.2.2.2.2.2.2.2.2.1 q_90.2.2.2.2.2.2.2.2.2.1 q_90.2.2.2.2.2.2.2.2.2.2]) [0, 1, 2, 4] rfl
        have hDc := hD.sub (ws' := [cX h_X h_M h_P h_E1 h_E2 h_E3 X_lo X_ro X_rc, cL h_M k_M 8 M_f, cI h_P k_P 8 P_f, cE h_E2 q_90.2.2.2.2.2.2.1 q_90.2.2.2.2.2.2.2.1 q_90.2.2.2.2.2.2.2.2.1 q_90.2.2.2.2.2.2.2.2.2.1 q_90.2.2.2.2.2.2.2.2.2.2]) [0, 1, 2, 4] (by decide) rfl
        have hKc := hK.sub (tys' := [(k_M, .long), (k_P, .int)]) [0, 1] rfl
        have hFc := va_free (wc := [cX h_X h_M h_P h_E1 h_E2 h_E3 X_lo X_ro X_rc, cL h_M k_M 8 M_f, cI h_P k_P 8 P_f, cE h_E2 q_90.2.2.2.2.2.2.1 q_90.2.2.2.2.2.2.2.1 q_90.2.2.2.2.2.2.2.2.1 q_90.2.2.2.2.2.2.2.2.2.1 q_90.2.2.2.2.2.2.2.2.2.2]) hD hS hA [0, 1, 2, 4] rfl
        refine va_calli (va_runV (As := [.int a1, .ref h_E2, .int a5]) (rest := []) ⟨hx, hb, hml, hown, hts⟩ (c_X_finish l dC dI h_X h_M h_P h_E1 h_E2 h_E3 h_E2 k_M k_P H.size X_lo X_ro X_rc M_f P_f q_90.2.2.2.2.2.2.1 q_90.2.2.2.2.2.2.2.1 q_90.2.2.2.2.2.2.2.2.1 q_90.2.2.2.2.2.2.2.2.2.1 q_90.2.2.2.2.2.2.2.2.2.2 a1 a5 q_95 hC_95) (cwV 3 hts g_X_62_X_finish rfl rfl rfl (by decide +kernel) ⟨Nat.le_of_ble_eq_true rfl, Nat.le_of_ble_eq_true rfl⟩) ⟨fun a U g mk q => by obtain ⟨q0, q1, qP, qK, qD⟩ := q; exact ⟨q0, q1, qP, va_K.moved (u := U) (U := U.calling g mk a) (Vm.Alike.refl U.vm) qK, qD⟩, va_recv hKc hPc (ci := 1) (q0 := 0) rfl rfl, fun U hU hW => ⟨rfl, by rw [hU], by rw [hU]; exact hPc, va_K.moved hW.alike hKc, hDc.weaken (fun _ _ _ _ => trivial)⟩⟩ rfl rfl hl.1 rfl (lv_room (Nat.le_of_ble_eq_true rfl)) d_X_productPlus_95 ⟨Nat.zero_le _, Nat.zero_le _⟩) hS (fun q _ h => hFc q h) hFc (fun r u t H1 locs ht hvm hw hB hz1 hk1 hS => ?_)
        obtain ⟨hP1, hK1, hD1⟩ := hB
        replace hw := hw.symm
        subst hw
        rw [ht] at hP1
        obtain ⟨hP, hD⟩ := va_join (wr := [cE h_E1 q_90.2.1 q_90.2.2.1 q_90.2.2.2.1 q_90.2.2.2.2.1 q_90.2.2.2.2.2.1]) (w1 := [cX h_X h_M h_P h_E1 h_E2 h_E3 q_95.2.1 q_95.2.2.1 q_95.2.2.2.1, cL h_M k_M 8 q_95.2.2.2.2.1, cI h_P k_P 8 q_95.2.2.2.2.2.1, cE h_E2 q_90.2.2.2.2.2.2.1 q_95.2.2.2.2.2.2.1 q_95.2.2.2.2.2.2.2.1 q_95.2.2.2.2.2.2.2.2.1 q_95.2.2.2.2.2.2.2.2.2]) hP hD [0, 1, 2, 4] [3] rfl rfl (by decide) (by decide) hk1 hFc hP1 hD1
        generalize H1 = H at hP hS ⊢
        have hP := hP.sub (ws' := [cX h_X h_M h_P h_E1 h_E2 h_E3 q_95.2.1 q_95.2.2.1 q_95.2.2.2.1, cL h_M k_M 8 q_95.2.2.2.2.1, cI h_P k_P 8 q_95.2.2.2.2.2.1, cE h_E1 q_90.2.1 q_90.2.2.1 q_90.2.2.2.1 q_90.2.2.2.2.1 q_90.2.2.2.2.2.1, cE h_E2 q_90.2.2.2.2.2.2.1 q_95.2.2.2.2.2.2.1 q_95.2.2.2.2.2.2.2.1 q_95.2.2.2.2.2.2.2.2.1 q_95.2.2.2.2.2.2.2.2.2]) [1, 2, 3, 0, 4] rfl
        have hD := hD.sub (ws' := [cX h_X h_M h_P h_E1 h_E2 h_E3 q_95.2.1 q_95.2.2.1 q_95.2.2.2.1, cL h_M k_M 8 q_95.2.2.2.2.1, cI h_P k_P 8 q_95.2.2.2.2.2.1, cE h_E1 q_90.2.1 q_90.2.2.1 q_90.2.2.2.1 q_90.2.2.2.2.1 q_90.2.2.2.2.2.1, cE h_E2 q_90.2.2.2.2.2.2.1 q_95.2.2.2.2.2.2.1 q_95.2.2.2.2.2.2.2.1 q_95.2.2.2.2.2.2.2.2.1 q_95.2.2.2.2.2.2.2.2.2]) [1, 2, 3, 0, 4] (by decide) rfl
        obtain rfl := Option.some.inj hF
        exact W.iret (v := q_95.1) hx hb hr (fun t ht hW => ⟨⟨q_95.1, (), rfl, rfl, by rw [ht]; exact hP, va_K.moved hW.alike hK, hD⟩, hS.F ht⟩) hS.2.2 d_X_productPlus_98
    · replace hF := hif_t c_22 hF
      refine lv_iconst (v := (-1 : Int32)) hx hb d_X_productPlus_25 (by decide) ?_
      obtain rfl := Option.some.inj hF
      exact W.iret (v := (-1 : Int32)) hx hb hr (fun t ht hW => ⟨⟨(-1 : Int32), (), rfl, rfl, by rw [ht]; exact hP, va_K.moved hW.alike hK, hD⟩, hS.F ht⟩) hS.2.2 d_X_productPlus_26
set_option maxHeartbeats 4000000 in
set_option maxRecDepth 100000 in
theorem c_X_isFarGreater (l : Launch) (dC : Nat → ClassId) (dI : Nat → Nat → Nat) (h_X : Nat) (h_M : Nat) (h_P : Nat) (h_E1 : Nat) (h_E2 : Nat) (h_E3 : Nat) (k_M : ClassId) (k_P : ClassId) (sz : Nat) (X_lo : Int32) (X_ro : Int32) (X_rc : Int32) (M_f : Nat → Int64) (P_f : Nat → Int32) (a1 : Int32) (a2 : Int32) (o : Int32) (hF : f_X_isFarGreater M_f P_f a1 a2 = some o) : Met l y_X_isFarGreater w_X_isFarGreater ({ frames := 1, cells := 0, slots := 0, locals := 23 } : Room) (va_Pc [.ref h_X, .int a1, .int a2] (fun U => U.heap.size = sz ∧ va_P (dC, dI) classes [cX h_X h_M h_P h_E1 h_E2 h_E3 X_lo X_ro X_rc, cL h_M k_M 8 M_f, cI h_P k_P 8 P_f] U.heap ∧ va_K (dC, dI) classes [(k_M, .long), (k_P, .int)] U ∧ va_D (fun _ => True) [cX h_X h_M h_P h_E1 h_E2 h_E3 X_lo X_ro X_rc, cL h_M k_M 8 M_f, cI h_P k_P 8 P_f])) (va_Qi (fun (r : Int32) (_ : Unit) => r = o) (fun (_ : Unit) (t : State) => va_P (dC, dI) classes [cX h_X h_M h_P h_E1 h_E2 h_E3 X_lo X_ro X_rc, cL h_M k_M 8 M_f, cI h_P k_P 8 P_f] t.heap ∧ va_K (dC, dI) classes [(k_M, .long), (k_P, .int)] t ∧ va_D (va_A [cX h_X h_M h_P h_E1 h_E2 h_E3 X_lo X_ro X_rc, cL h_M k_M 8 M_f, cI h_P k_P 8 P_f] sz) [cX h_X h_M h_P h_E1 h_E2 h_E3 X_lo X_ro X_rc, cL h_M k_M 8 M_f, cI h_P k_P 8 P_f]) (va_A [cX h_X h_M h_P h_E1 h_E2 h_E3 X_lo X_ro X_rc, cL h_M k_M 8 M_f, cI h_P k_P 8 P_f] sz)) 0 0 (va_A [cX h_X h_M h_P h_E1 h_E2 h_E3 X_lo X_ro X_rc, cL h_M k_M 8 M_f, cI h_P k_P 8 P_f] sz) := by
  refine Met.ofW (cc := prog_1_method_33_code) (maxL := 4) (ret := (some .boolean)) (by decide) rfl ?_
  intro p e s m args below meth c s₁ B hml hv
  obtain ⟨rfl, hsz, hP, hK, hD0⟩ := hv
  have hx := B.exec
  have hb := B.bytes
  have hr := B.returns
  have hts0 := atoms_spec (ws := w_X_isFarGreater) B.pre
  have hts : ∀ w ∈ tb, w.before _ s = true := fun w h => hts0 w (List.mem_cons_of_mem _ h)
  clear hts0
  have hown : s.vm.findClass "RoundedNumbers" = some m.cls := findClass_of_methodNamed B.named
  have hlocks := B.notSynchronized
  subst hsz
  have hD := hD0.self (sz := s.heap.size)
  generalize hAe : va_A [cX h_X h_M h_P h_E1 h_E2 h_E3 X_lo X_ro X_rc, cL h_M k_M 8 M_f, cI h_P k_P 8 P_f] s.heap.size = A at hD ⊢
  have hA : ∀ q : Nat, s.heap.size ≤ q → A q := fun q h => by rw [← hAe]; exact Or.inr h
  clear hAe
  have hS : va_S A s.heap s.heap [] := va_S.rf
  have hP : va_P (dC, dI) classes [cX h_X h_M h_P h_E1 h_E2 h_E3 X_lo X_ro X_rc, cL h_M k_M 8 M_f, cI h_P k_P 8 P_f] s.heap := hP
  have hl := lv_entry ([.ref h_X, .int a1, .int a2]) (n := 4) (Nat.le_of_ble_eq_true rfl)
  rw [lg_entry_eq]
  generalize (lg_sl ([.ref h_X, .int a1, .int a2]) ++ List.replicate (4 - (lg_sl ([.ref h_X, .int a1, .int a2])).length) Slot.unset).toArray = ls at hl ⊢
  have hl : lv_has ls 4 [(0, .ref h_X), (1, .int a1), (2, .int a2)] := hl
  unfold f_X_isFarGreater at hF
  refine lv_aload_n hx hb d_X_isFarGreater_0 rfl (lv_at hl 0 rfl) ?_
  refine va_get (D := (dC, dI)) (ci := 1) (v := .ref h_P) (C := "RoundedNumbers") (T := F_X) (N := 8) hx hb hts in_X hown hK hP 0 rfl rfl 1 (by decide) (hts _ tw_44) (fun _ h9 => h9) rfl d_X_isFarGreater_1 ?_
  refine lv_iload_n hx hb d_X_isFarGreater_4 rfl (lv_at hl 1 rfl) ?_
  have c_5 : ¬ (a1 < 0 ∨ 8 ≤ a1.toNatClampNeg) := hif_n hF
  replace hF := hif_f c_5 hF
  refine va_iald hx hb hK hP 2 1 rfl rfl c_5 d_X_isFarGreater_5 ?_
  refine lv_aload_n hx hb d_X_isFarGreater_6 rfl (lv_at hl 0 rfl) ?_
  refine va_get (D := (dC, dI)) (ci := 1) (v := .ref h_P) (C := "RoundedNumbers") (T := F_X) (N := 8) hx hb hts in_X hown hK hP 0 rfl rfl 1 (by decide) (hts _ tw_44) (fun _ h9 => h9) rfl d_X_isFarGreater_7 ?_
  refine lv_iload_n hx hb d_X_isFarGreater_10 rfl (lv_at hl 2 rfl) ?_
  have c_11 : ¬ (a2 < 0 ∨ 8 ≤ a2.toNatClampNeg) := hif_n hF
  replace hF := hif_f c_11 hF
  refine va_iald hx hb hK hP 2 1 rfl rfl c_11 d_X_isFarGreater_11 ?_
  refine lv_isub hx hb d_X_isFarGreater_12 ?_
  refine lv_istore_n (lv' := [(3, .int ((P_f a1.toNatClampNeg) - (P_f a2.toNatClampNeg))), (0, .ref h_X), (1, .int a1), (2, .int a2)]) hx hb d_X_isFarGreater_13 rfl hl (by decide) rfl (fun ls hl => ?_)
  refine lv_aload_n hx hb d_X_isFarGreater_14 rfl (lv_at hl 1 rfl) ?_
  refine va_get (D := (dC, dI)) (ci := 1) (v := .ref h_M) (C := "RoundedNumbers") (T := F_X) (N := 8) hx hb hts in_X hown hK hP 0 rfl rfl 0 (by decide) (hts _ tw_43) (fun _ h9 => h9) rfl d_X_isFarGreater_15 ?_
  refine lv_iload_n hx hb d_X_isFarGreater_18 rfl (lv_at hl 2 rfl) ?_
  have c_19 : ¬ (a1 < 0 ∨ 8 ≤ a1.toNatClampNeg) := hif_n hF
  replace hF := hif_f c_19 hF
  refine va_lald hx hb hK hP 1 0 rfl rfl c_19 d_X_isFarGreater_19 ?_
  refine lv_lconst (v := (0 : Int64)) hx hb d_X_isFarGreater_20 (by decide) ?_
  refine W.lcmp hx hb d_X_isFarGreater_21 ?_
  refine lv_if_eq (tgt := 31) hx hb d_X_isFarGreater_22 (by decide) (fun c_22 => ?_) (fun c_22 => ?_)
  · replace hF := hif_t c_22 hF
    refine lv_iconst (v := (0 : Int32)) hx hb d_X_isFarGreater_31 (by decide) ?_
    obtain rfl := Option.some.inj hF
    exact W.zret (v := (0 : Int32)) (ty := .boolean) hx hb hr rfl (fun t ht hW => ⟨⟨(0 : Int32), (), rfl, rfl, by rw [ht]; exact hP, va_K.moved hW.alike hK, hD⟩, hS.F ht⟩) hS.2.2 d_X_isFarGreater_32
  · replace hF := hif_f c_22 hF
    refine lv_iload_n hx hb d_X_isFarGreater_25 rfl (lv_at hl 0 rfl) ?_
    refine lv_bipush (v := (60 : Int32)) hx hb d_X_isFarGreater_26 (by decide) ?_
    refine lv_icmp_ge (tgt := 33) hx hb d_X_isFarGreater_28 (by decide) (fun c_28 => ?_) (fun c_28 => ?_)
    · replace hF := hif_t c_28 hF
      refine lv_iload_n hx hb d_X_isFarGreater_33 rfl (lv_at hl 0 rfl) ?_
      refine lv_bipush (v := (60 : Int32)) hx hb d_X_isFarGreater_34 (by decide) ?_
      refine lv_icmp_gt (tgt := 61) hx hb d_X_isFarGreater_36 (by decide) (fun c_36 => ?_) (fun c_36 => ?_)
      · replace hF := hif_t c_36 hF
        refine lv_iconst (v := (1 : Int32)) hx hb d_X_isFarGreater_61 (by decide) ?_
        refine lv_goto (tgt := 66) hx hb d_X_isFarGreater_62 (by decide) ?_
        obtain rfl := Option.some.inj hF
        exact W.zret (v := (1 : Int32)) (ty := .boolean) hx hb hr rfl (fun t ht hW => ⟨⟨(1 : Int32), (), rfl, rfl, by rw [ht]; exact hP, va_K.moved hW.alike hK, hD⟩, hS.F ht⟩) hS.2.2 d_X_isFarGreater_66
      · replace hF := hif_f c_36 hF
        refine lv_aload_n hx hb d_X_isFarGreater_39 rfl (lv_at hl 1 rfl) ?_
        refine va_get (D := (dC, dI)) (ci := 1) (v := .ref h_M) (C := "RoundedNumbers") (T := F_X) (N := 8) hx hb hts in_X hown hK hP 0 rfl rfl 0 (by decide) (hts _ tw_43) (fun _ h9 => h9) rfl d_X_isFarGreater_40 ?_
        refine lv_iload_n hx hb d_X_isFarGreater_43 rfl (lv_at hl 2 rfl) ?_
        have c_44 : ¬ (a1 < 0 ∨ 8 ≤ a1.toNatClampNeg) := hif_n hF
        replace hF := hif_f c_44 hF
        refine va_lald hx hb hK hP 1 0 rfl rfl c_44 d_X_isFarGreater_44 ?_
        refine va_mabs_long hx hb (hml.trans hl.1.symm) hown (hts _ tw_80) (hts _ tw_81) (hts _ tw_4) (hts _ tw_82) (Nat.le_of_ble_eq_true rfl) (Nat.le_of_ble_eq_true rfl) (Nat.zero_le _) (Nat.zero_le _) d_X_isFarGreater_45 ?_
        refine W.eq (g2 := F0 m 48 ls [.long (jabs (M_f a1.toNatClampNeg))]) rfl ?_
        refine lv_aload_n hx hb d_X_isFarGreater_48 rfl (lv_at hl 1 rfl) ?_
        refine va_get (D := (dC, dI)) (ci := 1) (v := .ref h_M) (C := "RoundedNumbers") (T := F_X) (N := 8) hx hb hts in_X hown hK hP 0 rfl rfl 0 (by decide) (hts _ tw_43) (fun _ h9 => h9) rfl d_X_isFarGreater_49 ?_
        refine lv_iload_n hx hb d_X_isFarGreater_52 rfl (lv_at hl 3 rfl) ?_
        have c_53 : ¬ (a2 < 0 ∨ 8 ≤ a2.toNatClampNeg) := hif_n hF
        replace hF := hif_f c_53 hF
        refine va_lald hx hb hK hP 1 0 rfl rfl c_53 d_X_isFarGreater_53 ?_
        refine va_mabs_long hx hb (hml.trans hl.1.symm) hown (hts _ tw_80) (hts _ tw_81) (hts _ tw_4) (hts _ tw_82) (Nat.le_of_ble_eq_true rfl) (Nat.le_of_ble_eq_true rfl) (Nat.zero_le _) (Nat.zero_le _) d_X_isFarGreater_54 ?_
        refine W.eq (g2 := F0 m 57 ls [.long (jabs (M_f a2.toNatClampNeg)), .long (jabs (M_f a1.toNatClampNeg))]) rfl ?_
        refine W.lcmp hx hb d_X_isFarGreater_57 ?_
        refine lv_if_lt (tgt := 65) hx hb d_X_isFarGreater_58 (by decide) (fun c_58 => ?_) (fun c_58 => ?_)
        · replace hF := hif_t c_58 hF
          refine lv_iconst (v := (0 : Int32)) hx hb d_X_isFarGreater_65 (by decide) ?_
          obtain rfl := Option.some.inj hF
          exact W.zret (v := (0 : Int32)) (ty := .boolean) hx hb hr rfl (fun t ht hW => ⟨⟨(0 : Int32), (), rfl, rfl, by rw [ht]; exact hP, va_K.moved hW.alike hK, hD⟩, hS.F ht⟩) hS.2.2 d_X_isFarGreater_66
        · replace hF := hif_f c_58 hF
          refine lv_iconst (v := (1 : Int32)) hx hb d_X_isFarGreater_61 (by decide) ?_
          refine lv_goto (tgt := 66) hx hb d_X_isFarGreater_62 (by decide) ?_
          obtain rfl := Option.some.inj hF
          exact W.zret (v := (1 : Int32)) (ty := .boolean) hx hb hr rfl (fun t ht hW => ⟨⟨(1 : Int32), (), rfl, rfl, by rw [ht]; exact hP, va_K.moved hW.alike hK, hD⟩, hS.F ht⟩) hS.2.2 d_X_isFarGreater_66
    · replace hF := hif_f c_28 hF
      refine lv_iconst (v := (0 : Int32)) hx hb d_X_isFarGreater_31 (by decide) ?_
      obtain rfl := Option.some.inj hF
      exact W.zret (v := (0 : Int32)) (ty := .boolean) hx hb hr rfl (fun t ht hW => ⟨⟨(0 : Int32), (), rfl, rfl, by rw [ht]; exact hP, va_K.moved hW.alike hK, hD⟩, hS.F ht⟩) hS.2.2 d_X_isFarGreater_32
set_option maxHeartbeats 4000000 in
set_option maxRecDepth 100000 in
theorem c_X_cubeOrder (l : Launch) (dC : Nat → ClassId) (dI : Nat → Nat → Nat) (h_X : Nat) (h_M : Nat) (h_P : Nat) (h_E1 : Nat) (h_E2 : Nat) (h_E3 : Nat) (k_M : ClassId) (k_P : ClassId) (sz : Nat) (X_lo : Int32) (X_ro : Int32) (X_rc : Int32) (M_f : Nat → Int64) (P_f : Nat → Int32) (E1_sg : Int32) (E1_hi : Int64) (E1_lo : Int64) (E1_pl : Int32) (E1_mo : Int32) (E2_sg : Int32) (E2_hi : Int64) (E2_lo : Int64) (E2_pl : Int32) (E2_mo : Int32) (E3_sg : Int32) (E3_hi : Int64) (E3_lo : Int64) (E3_pl : Int32) (E3_mo : Int32) (a1 : Int64) (a2 : Int32) (a3 : Int32) (o : Int32 × Int32 × Int64 × Int64 × Int32 × Int32 × Int32 × Int64 × Int64 × Int32 × Int32 × Int32 × Int64 × Int64 × Int32 × Int32) (hF : f_X_cubeOrder M_f P_f E1_sg E1_hi E1_lo E1_pl E1_mo E2_sg E2_hi E2_lo E2_pl E2_mo E3_sg E3_hi E3_lo E3_pl E3_mo a1 a2 a3 = some o) : Met l y_X_cubeOrder w_X_cubeOrder ({ frames := 6, cells := 0, slots := 0, locals := 126 } : Room) (va_Pc [.ref h_X, .long a1, .int a2, .int a3] (fun U => U.heap.size = sz ∧ va_P (dC, dI) classes [cX h_X h_M h_P h_E1 h_E2 h_E3 X_lo X_ro X_rc, cL h_M k_M 8 M_f, cI h_P k_P 8 P_f, cE h_E1 E1_sg E1_hi E1_lo E1_pl E1_mo, cE h_E2 E2_sg E2_hi E2_lo E2_pl E2_mo, cE h_E3 E3_sg E3_hi E3_lo E3_pl E3_mo] U.heap ∧ va_K (dC, dI) classes [(k_M, .long), (k_P, .int)] U ∧ va_D (fun _ => True) [cX h_X h_M h_P h_E1 h_E2 h_E3 X_lo X_ro X_rc, cL h_M k_M 8 M_f, cI h_P k_P 8 P_f, cE h_E1 E1_sg E1_hi E1_lo E1_pl E1_mo, cE h_E2 E2_sg E2_hi E2_lo E2_pl E2_mo, cE h_E3 E3_sg E3_hi E3_lo E3_pl E3_mo])) (va_Qi (fun (r : Int32) (_ : Unit) => r = o.1) (fun (_ : Unit) (t : State) => va_P (dC, dI) classes [cX h_X h_M h_P h_E1 h_E2 h_E3 X_lo X_ro X_rc, cL h_M k_M 8 M_f, cI h_P k_P 8 P_f, cE h_E1 o.2.1 o.2.2.1 o.2.2.2.1 o.2.2.2.2.1 o.2.2.2.2.2.1, cE h_E2 o.2.2.2.2.2.2.1 o.2.2.2.2.2.2.2.1 o.2.2.2.2.2.2.2.2.1 o.2.2.2.2.2.2.2.2.2.1 o.2.2.2.2.2.2.2.2.2.2.1, cE h_E3 o.2.2.2.2.2.2.2.2.2.2.2.1 o.2.2.2.2.2.2.2.2.2.2.2.2.1 o.2.2.2.2.2.2.2.2.2.2.2.2.2.1 o.2.2.2.2.2.2.2.2.2.2.2.2.2.2.1 o.2.2.2.2.2.2.2.2.2.2.2.2.2.2.2] t.heap ∧ va_K (dC, dI) classes [(k_M, .long), (k_P, .int)] t ∧ va_D (va_A [cX h_X h_M h_P h_E1 h_E2 h_E3 X_lo X_ro X_rc, cL h_M k_M 8 M_f, cI h_P k_P 8 P_f, cE h_E1 E1_sg E1_hi E1_lo E1_pl E1_mo, cE h_E2 E2_sg E2_hi E2_lo E2_pl E2_mo, cE h_E3 E3_sg E3_hi E3_lo E3_pl E3_mo] sz) [cX h_X h_M h_P h_E1 h_E2 h_E3 X_lo X_ro X_rc, cL h_M k_M 8 M_f, cI h_P k_P 8 P_f, cE h_E1 o.2.1 o.2.2.1 o.2.2.2.1 o.2.2.2.2.1 o.2.2.2.2.2.1, cE h_E2 o.2.2.2.2.2.2.1 o.2.2.2.2.2.2.2.1 o.2.2.2.2.2.2.2.2.1 o.2.2.2.2.2.2.2.2.2.1 o.2.2.2.2.2.2.2.2.2.2.1, cE h_E3 o.2.2.2.2.2.2.2.2.2.2.2.1 o.2.2.2.2.2.2.2.2.2.2.2.2.1 o.2.2.2.2.2.2.2.2.2.2.2.2.2.1 o.2.2.2.2.2.2.2.2.2.2.2.2.2.2.1 o.2.2.2.2.2.2.2.2.2.2.2.2.2.2.2]) (va_A [cX h_X h_M h_P h_E1 h_E2 h_E3 X_lo X_ro X_rc, cL h_M k_M 8 M_f, cI h_P k_P 8 P_f, cE h_E1 E1_sg E1_hi E1_lo E1_pl E1_mo, cE h_E2 E2_sg E2_hi E2_lo E2_pl E2_mo, cE h_E3 E3_sg E3_hi E3_lo E3_pl E3_mo] sz)) 0 0 (va_A [cX h_X h_M h_P h_E1 h_E2 h_E3 X_lo X_ro X_rc, cL h_M k_M 8 M_f, cI h_P k_P 8 P_f, cE h_E1 E1_sg E1_hi E1_lo E1_pl E1_mo, cE h_E2 E2_sg E2_hi E2_lo E2_pl E2_mo, cE h_E3 E3_sg E3_hi E3_lo E3_pl E3_mo] sz) := by
  refine Met.ofW (cc := prog_1_method_36_code) (maxL := 9) (ret := (some .int)) (by decide) rfl ?_
  intro p e s m args below meth c s₁ B hml hv
  obtain ⟨rfl, hsz, hP, hK, hD0⟩ := hv
  have hx := B.exec
  have hb := B.bytes
  have hr := B.returns
  have hts0 := atoms_spec (ws := w_X_cubeOrder) B.pre
  have hts : ∀ w ∈ tb, w.before _ s = true := fun w h => hts0 w (List.mem_cons_of_mem _ h)
  clear hts0
  have hown : s.vm.findClass "RoundedNumbers" = some m.cls := findClass_of_methodNamed B.named
  have hlocks := B.notSynchronized
  subst hsz
  have hD := hD0.self (sz := s.heap.size)
  generalize hAe : va_A [cX h_X h_M h_P h_E1 h_E2 h_E3 X_lo X_ro X_rc, cL h_M k_M 8 M_f, cI h_P k_P 8 P_f, cE h_E1 E1_sg E1_hi E1_lo E1_pl E1_mo, cE h_E2 E2_sg E2_hi E2_lo E2_pl E2_mo, cE h_E3 E3_sg E3_hi E3_lo E3_pl E3_mo] s.heap.size = A at hD ⊢
  have hA : ∀ q : Nat, s.heap.size ≤ q → A q := fun q h => by rw [← hAe]; exact Or.inr h
  clear hAe
  have hS : va_S A s.heap s.heap [] := va_S.rf
  have hP : va_P (dC, dI) classes [cX h_X h_M h_P h_E1 h_E2 h_E3 X_lo X_ro X_rc, cL h_M k_M 8 M_f, cI h_P k_P 8 P_f, cE h_E1 E1_sg E1_hi E1_lo E1_pl E1_mo, cE h_E2 E2_sg E2_hi E2_lo E2_pl E2_mo, cE h_E3 E3_sg E3_hi E3_lo E3_pl E3_mo] s.heap := hP
  have hl := lv_entry ([.ref h_X, .long a1, .int a2, .int a3]) (n := 9) (Nat.le_of_ble_eq_true rfl)
  rw [lg_entry_eq]
  generalize (lg_sl ([.ref h_X, .long a1, .int a2, .int a3]) ++ List.replicate (9 - (lg_sl ([.ref h_X, .long a1, .int a2, .int a3])).length) Slot.unset).toArray = ls at hl ⊢
  have hl : lv_has ls 9 [(0, .ref h_X), (1, .long a1), (3, .int a2), (4, .int a3)] := hl
  unfold f_X_cubeOrder at hF
  refine lv_aload_n hx hb d_X_cubeOrder_0 rfl (lv_at hl 0 rfl) ?_
  refine va_get (D := (dC, dI)) (ci := 1) (v := .ref h_E1) (C := "RoundedNumbers") (T := F_X) (N := 8) hx hb hts in_X hown hK hP 0 rfl rfl 5 (by decide) (hts _ tw_48) (fun _ h9 => h9) rfl d_X_cubeOrder_1 ?_
  refine lv_lload_n hx hb d_X_cubeOrder_4 rfl (lv_at hl 1 rfl) ?_
  refine lv_lload_n hx hb d_X_cubeOrder_5 rfl (lv_at hl 1 rfl) ?_
  refine lv_iconst (v := (0 : Int32)) hx hb d_X_cubeOrder_6 (by decide) ?_
  obtain ⟨q_7, hC_7, hF⟩ := hbd hF
  have hPc := hP.sub (ws' := [cE h_E1 E1_sg E1_hi E1_lo E1_pl E1_mo]) [3] rfl
  have hDc := hD.sub (ws' := [cE h_E1 E1_sg E1_hi E1_lo E1_pl E1_mo]) [3] (by decide) rfl
  have hKc := hK.sub (tys' := []) [] rfl
  have hFc := va_free (wc := [cE h_E1 E1_sg E1_hi E1_lo E1_pl E1_mo]) hD hS hA [3] rfl
  refine va_callv (va_runV (As := [.long a1, .long a1, .int (0 : Int32)]) (rest := []) ⟨hx, hb, hml, hown, hts⟩ (c_E_holdProduct l dC dI h_E1 s.heap.size E1_sg E1_hi E1_lo E1_pl E1_mo a1 a1 (0 : Int32) q_7 hC_7) (cwV 3 hts g_X_66_E_holdProduct rfl rfl rfl (by decide +kernel) ⟨Nat.le_of_ble_eq_true rfl, Nat.le_of_ble_eq_true rfl⟩) ⟨fun a U g mk q => by obtain ⟨q0, q1, qP, qK, qD⟩ := q; exact ⟨q0, q1, qP, va_K.moved (u := U) (U := U.calling g mk a) (Vm.Alike.refl U.vm) qK, qD⟩, va_recv hKc hPc (ci := 0) (q0 := 0) rfl rfl, fun U hU hW => ⟨rfl, by rw [hU], by rw [hU]; exact hPc, va_K.moved hW.alike hKc, hDc.weaken (fun _ _ _ _ => trivial)⟩⟩ rfl rfl hl.1 rfl (lv_room (Nat.le_of_ble_eq_true rfl)) d_X_cubeOrder_7 ⟨Nat.zero_le _, Nat.zero_le _⟩) hS (fun q _ h => hFc q h) hFc (fun u t H1 locs ht hvm hw hB hz1 hk1 hS => ?_)
  obtain ⟨hP1, hK1, hD1⟩ := hB
  rw [ht] at hP1
  obtain ⟨hP, hD⟩ := va_join (wr := [cX h_X h_M h_P h_E1 h_E2 h_E3 X_lo X_ro X_rc, cL h_M k_M 8 M_f, cI h_P k_P 8 P_f, cE h_E2 E2_sg E2_hi E2_lo E2_pl E2_mo, cE h_E3 E3_sg E3_hi E3_lo E3_pl E3_mo]) (w1 := [cE h_E1 q_7.1 q_7.2.1 q_7.2.2.1 q_7.2.2.2.1 q_7.2.2.2.2]) hP hD [3] [0, 1, 2, 4, 5] rfl rfl (by decide) (by decide) hk1 hFc hP1 hD1
  generalize H1 = H at hP hS ⊢
  have hP := hP.sub (ws' := [cX h_X h_M h_P h_E1 h_E2 h_E3 X_lo X_ro X_rc, cL h_M k_M 8 M_f, cI h_P k_P 8 P_f, cE h_E1 q_7.1 q_7.2.1 q_7.2.2.1 q_7.2.2.2.1 q_7.2.2.2.2, cE h_E2 E2_sg E2_hi E2_lo E2_pl E2_mo, cE h_E3 E3_sg E3_hi E3_lo E3_pl E3_mo]) [0, 1, 2, 5, 3, 4] rfl
  have hD := hD.sub (ws' := [cX h_X h_M h_P h_E1 h_E2 h_E3 X_lo X_ro X_rc, cL h_M k_M 8 M_f, cI h_P k_P 8 P_f, cE h_E1 q_7.1 q_7.2.1 q_7.2.2.1 q_7.2.2.2.1 q_7.2.2.2.2, cE h_E2 E2_sg E2_hi E2_lo E2_pl E2_mo, cE h_E3 E3_sg E3_hi E3_lo E3_pl E3_mo]) [0, 1, 2, 5, 3, 4] (by decide) rfl
  refine lv_aload_n hx hb d_X_cubeOrder_10 rfl (lv_at hl 0 rfl) ?_
  refine va_get (D := (dC, dI)) (ci := 1) (v := .ref h_E1) (C := "RoundedNumbers") (T := F_X) (N := 8) hx hb hts in_X hown hK hP 0 rfl rfl 5 (by decide) (hts _ tw_48) (fun _ h9 => h9) rfl d_X_cubeOrder_11 ?_
  refine va_get (D := (dC, dI)) (ci := 0) (v := .long q_7.2.1) (C := "RoundedNumbers$Exact") (T := F_E) (N := 5) hx hb hts in_E hown hK hP 3 rfl rfl 1 (by decide) (hts _ tw_24) (fun _ h9 => h9) rfl d_X_cubeOrder_14 ?_
  refine lv_bipush (v := (11 : Int32)) hx hb d_X_cubeOrder_17 (by decide) ?_
  refine lv_lshl (v := (jshl q_7.2.1 (11 : Int32))) hx hb d_X_cubeOrder_19 rfl ?_
  refine lv_aload_n hx hb d_X_cubeOrder_20 rfl (lv_at hl 0 rfl) ?_
  refine va_get (D := (dC, dI)) (ci := 1) (v := .ref h_E1) (C := "RoundedNumbers") (T := F_X) (N := 8) hx hb hts in_X hown hK hP 0 rfl rfl 5 (by decide) (hts _ tw_48) (fun _ h9 => h9) rfl d_X_cubeOrder_21 ?_
  refine va_get (D := (dC, dI)) (ci := 0) (v := .long q_7.2.2.1) (C := "RoundedNumbers$Exact") (T := F_E) (N := 5) hx hb hts in_E hown hK hP 3 rfl rfl 2 (by decide) (hts _ tw_26) (fun _ h9 => h9) rfl d_X_cubeOrder_24 ?_
  refine lv_bipush (v := (53 : Int32)) hx hb d_X_cubeOrder_27 (by decide) ?_
  refine lv_lushr (v := (jushr q_7.2.2.1 (53 : Int32))) hx hb d_X_cubeOrder_29 rfl ?_
  refine lv_lor hx hb d_X_cubeOrder_30 ?_
  refine lv_lstore (lv' := [(5, .long ((jshl q_7.2.1 (11 : Int32)) ||| (jushr q_7.2.2.1 (53 : Int32)))), (0, .ref h_X), (1, .long a1), (3, .int a2), (4, .int a3)]) hx hb d_X_cubeOrder_31 hl (by decide) rfl (fun ls hl => ?_)
  refine lv_aload_n hx hb d_X_cubeOrder_33 rfl (lv_at hl 1 rfl) ?_
  refine va_get (D := (dC, dI)) (ci := 1) (v := .ref h_E1) (C := "RoundedNumbers") (T := F_X) (N := 8) hx hb hts in_X hown hK hP 0 rfl rfl 5 (by decide) (hts _ tw_48) (fun _ h9 => h9) rfl d_X_cubeOrder_34 ?_
  refine va_get (D := (dC, dI)) (ci := 0) (v := .long q_7.2.2.1) (C := "RoundedNumbers$Exact") (T := F_E) (N := 5) hx hb hts in_E hown hK hP 3 rfl rfl 2 (by decide) (hts _ tw_26) (fun _ h9 => h9) rfl d_X_cubeOrder_37 ?_
  refine lv_ldc2 (v := (9007199254740991 : Int64)) hx hb hown (hts _ tw_259) d_X_cubeOrder_40 ?_
  refine lv_land hx hb d_X_cubeOrder_43 ?_
  refine lv_lstore (lv' := [(7, .long (q_7.2.2.1 &&& (9007199254740991 : Int64))), (5, .long ((jshl q_7.2.1 (11 : Int32)) ||| (jushr q_7.2.2.1 (53 : Int32)))), (0, .ref h_X), (1, .long a1), (3, .int a2), (4, .int a3)]) hx hb d_X_cubeOrder_44 hl (by decide) rfl (fun ls hl => ?_)
  refine lv_aload_n hx hb d_X_cubeOrder_46 rfl (lv_at hl 2 rfl) ?_
  refine va_get (D := (dC, dI)) (ci := 1) (v := .ref h_E1) (C := "RoundedNumbers") (T := F_X) (N := 8) hx hb hts in_X hown hK hP 0 rfl rfl 5 (by decide) (hts _ tw_48) (fun _ h9 => h9) rfl d_X_cubeOrder_47 ?_
  refine lv_lload hx hb d_X_cubeOrder_50 (lv_at hl 1 rfl) ?_
  refine lv_lload_n hx hb d_X_cubeOrder_52 rfl (lv_at hl 3 rfl) ?_
  refine lv_iconst (v := (3 : Int32)) hx hb d_X_cubeOrder_53 (by decide) ?_
  refine lv_iload_n hx hb d_X_cubeOrder_54 rfl (lv_at hl 4 rfl) ?_
  refine lv_imul hx hb d_X_cubeOrder_55 ?_
  refine lv_bipush (v := (53 : Int32)) hx hb d_X_cubeOrder_56 (by decide) ?_
  refine lv_iadd hx hb d_X_cubeOrder_58 ?_
  obtain ⟨q_59, hC_59, hF⟩ := hbd hF
  have hPc := hP.sub (ws' := [cE h_E1 q_7.1 q_7.2.1 q_7.2.2.1 q_7.2.2.2.1 q_7.2.2.2.2]) [3] rfl
  have hDc := hD.sub (ws' := [cE h_E1 q_7.1 q_7.2.1 q_7.2.2.1 q_7.2.2.2.1 q_7.2.2.2.2]) [3] (by decide) rfl
  have hKc := hK.sub (tys' := []) [] rfl
  have hFc := va_free (wc := [cE h_E1 q_7.1 q_7.2.1 q_7.2.2.1 q_7.2.2.2.1 q_7.2.2.2.2]) hD hS hA [3] rfl
  refine va_callv (va_runV (As := [.long ((jshl q_7.2.1 (11 : Int32)) ||| (jushr q_7.2.2.1 (53 : Int32))), .long a1, .int (((3 : Int32) * a2) + (53 : Int32))]) (rest := []) ⟨hx, hb, hml, hown, hts⟩ (c_E_holdProduct l dC dI h_E1 H.size q_7.1 q_7.2.1 q_7.2.2.1 q_7.2.2.2.1 q_7.2.2.2.2 ((jshl q_7.2.1 (11 : Int32)) ||| (jushr q_7.2.2.1 (53 : Int32))) a1 (((3 : Int32) * a2) + (53 : Int32)) q_59 hC_59) (cwV 3 hts g_X_66_E_holdProduct rfl rfl rfl (by decide +kernel) ⟨Nat.le_of_ble_eq_true rfl, Nat.le_of_ble_eq_true rfl⟩) ⟨fun a U g mk q => by obtain ⟨q0, q1, qP, qK, qD⟩ := q; exact ⟨q0, q1, qP, va_K.moved (u := U) (U := U.calling g mk a) (Vm.Alike.refl U.vm) qK, qD⟩, va_recv hKc hPc (ci := 0) (q0 := 0) rfl rfl, fun U hU hW => ⟨rfl, by rw [hU], by rw [hU]; exact hPc, va_K.moved hW.alike hKc, hDc.weaken (fun _ _ _ _ => trivial)⟩⟩ rfl rfl hl.1 rfl (lv_room (Nat.le_of_ble_eq_true rfl)) d_X_cubeOrder_59 ⟨Nat.zero_le _, Nat.zero_le _⟩) hS (fun q _ h => hFc q h) hFc (fun u t H1 locs ht hvm hw hB hz1 hk1 hS => ?_)
  obtain ⟨hP1, hK1, hD1⟩ := hB
  rw [ht] at hP1
  obtain ⟨hP, hD⟩ := va_join (wr := [cX h_X h_M h_P h_E1 h_E2 h_E3 X_lo X_ro X_rc, cL h_M k_M 8 M_f, cI h_P k_P 8 P_f, cE h_E2 E2_sg E2_hi E2_lo E2_pl E2_mo, cE h_E3 E3_sg E3_hi E3_lo E3_pl E3_mo]) (w1 := [cE h_E1 q_59.1 q_59.2.1 q_59.2.2.1 q_59.2.2.2.1 q_59.2.2.2.2]) hP hD [3] [0, 1, 2, 4, 5] rfl rfl (by decide) (by decide) hk1 hFc hP1 hD1
  generalize H1 = H at hP hS ⊢
  have hP := hP.sub (ws' := [cX h_X h_M h_P h_E1 h_E2 h_E3 X_lo X_ro X_rc, cL h_M k_M 8 M_f, cI h_P k_P 8 P_f, cE h_E1 q_59.1 q_59.2.1 q_59.2.2.1 q_59.2.2.2.1 q_59.2.2.2.2, cE h_E2 E2_sg E2_hi E2_lo E2_pl E2_mo, cE h_E3 E3_sg E3_hi E3_lo E3_pl E3_mo]) [0, 1, 2, 5, 3, 4] rfl
  have hD := hD.sub (ws' := [cX h_X h_M h_P h_E1 h_E2 h_E3 X_lo X_ro X_rc, cL h_M k_M 8 M_f, cI h_P k_P 8 P_f, cE h_E1 q_59.1 q_59.2.1 q_59.2.2.1 q_59.2.2.2.1 q_59.2.2.2.2, cE h_E2 E2_sg E2_hi E2_lo E2_pl E2_mo, cE h_E3 E3_sg E3_hi E3_lo E3_pl E3_mo]) [0, 1, 2, 5, 3, 4] (by decide) rfl
  refine lv_aload_n hx hb d_X_cubeOrder_62 rfl (lv_at hl 2 rfl) ?_
  refine va_get (D := (dC, dI)) (ci := 1) (v := .ref h_E2) (C := "RoundedNumbers") (T := F_X) (N := 8) hx hb hts in_X hown hK hP 0 rfl rfl 6 (by decide) (hts _ tw_49) (fun _ h9 => h9) rfl d_X_cubeOrder_63 ?_
  refine lv_lload hx hb d_X_cubeOrder_66 (lv_at hl 0 rfl) ?_
  refine lv_lload_n hx hb d_X_cubeOrder_68 rfl (lv_at hl 3 rfl) ?_
  refine lv_iconst (v := (3 : Int32)) hx hb d_X_cubeOrder_69 (by decide) ?_
  refine lv_iload_n hx hb d_X_cubeOrder_70 rfl (lv_at hl 4 rfl) ?_
  refine lv_imul hx hb d_X_cubeOrder_71 ?_
  obtain ⟨q_72, hC_72, hF⟩ := hbd hF
  have hPc := hP.sub (ws' := [cE h_E2 E2_sg E2_hi E2_lo E2_pl E2_mo]) [4] rfl
  have hDc := hD.sub (ws' := [cE h_E2 E2_sg E2_hi E2_lo E2_pl E2_mo]) [4] (by decide) rfl
  have hKc := hK.sub (tys' := []) [] rfl
  have hFc := va_free (wc := [cE h_E2 E2_sg E2_hi E2_lo E2_pl E2_mo]) hD hS hA [4] rfl
  refine va_callv (va_runV (As := [.long (q_7.2.2.1 &&& (9007199254740991 : Int64)), .long a1, .int ((3 : Int32) * a2)]) (rest := []) ⟨hx, hb, hml, hown, hts⟩ (c_E_holdProduct l dC dI h_E2 H.size E2_sg E2_hi E2_lo E2_pl E2_mo (q_7.2.2.1 &&& (9007199254740991 : Int64)) a1 ((3 : Int32) * a2) q_72 hC_72) (cwV 3 hts g_X_66_E_holdProduct rfl rfl rfl (by decide +kernel) ⟨Nat.le_of_ble_eq_true rfl, Nat.le_of_ble_eq_true rfl⟩) ⟨fun a U g mk q => by obtain ⟨q0, q1, qP, qK, qD⟩ := q; exact ⟨q0, q1, qP, va_K.moved (u := U) (U := U.calling g mk a) (Vm.Alike.refl U.vm) qK, qD⟩, va_recv hKc hPc (ci := 0) (q0 := 0) rfl rfl, fun U hU hW => ⟨rfl, by rw [hU], by rw [hU]; exact hPc, va_K.moved hW.alike hKc, hDc.weaken (fun _ _ _ _ => trivial)⟩⟩ rfl rfl hl.1 rfl (lv_room (Nat.le_of_ble_eq_true rfl)) d_X_cubeOrder_72 ⟨Nat.zero_le _, Nat.zero_le _⟩) hS (fun q _ h => hFc q h) hFc (fun u t H1 locs ht hvm hw hB hz1 hk1 hS => ?_)
  obtain ⟨hP1, hK1, hD1⟩ := hB
  rw [ht] at hP1
  obtain ⟨hP, hD⟩ := va_join (wr := [cX h_X h_M h_P h_E1 h_E2 h_E3 X_lo X_ro X_rc, cL h_M k_M 8 M_f, cI h_P k_P 8 P_f, cE h_E1 q_59.1 q_59.2.1 q_59.2.2.1 q_59.2.2.2.1 q_59.2.2.2.2, cE h_E3 E3_sg E3_hi E3_lo E3_pl E3_mo]) (w1 := [cE h_E2 q_72.1 q_72.2.1 q_72.2.2.1 q_72.2.2.2.1 q_72.2.2.2.2]) hP hD [4] [0, 1, 2, 3, 5] rfl rfl (by decide) (by decide) hk1 hFc hP1 hD1
  generalize H1 = H at hP hS ⊢
  have hP := hP.sub (ws' := [cX h_X h_M h_P h_E1 h_E2 h_E3 X_lo X_ro X_rc, cL h_M k_M 8 M_f, cI h_P k_P 8 P_f, cE h_E1 q_59.1 q_59.2.1 q_59.2.2.1 q_59.2.2.2.1 q_59.2.2.2.2, cE h_E2 q_72.1 q_72.2.1 q_72.2.2.1 q_72.2.2.2.1 q_72.2.2.2.2, cE h_E3 E3_sg E3_hi E3_lo E3_pl E3_mo]) [0, 1, 2, 3, 5, 4] rfl
  have hD := hD.sub (ws' := [cX h_X h_M h_P h_E1 h_E2 h_E3 X_lo X_ro X_rc, cL h_M k_M 8 M_f, cI h_P k_P 8 P_f, cE h_E1 q_59.1 q_59.2.1 q_59.2.2.1 q_59.2.2.2.1 q_59.2.2.2.2, cE h_E2 q_72.1 q_72.2.1 q_72.2.2.1 q_72.2.2.2.1 q_72.2.2.2.2, cE h_E3 E3_sg E3_hi E3_lo E3_pl E3_mo]) [0, 1, 2, 3, 5, 4] (by decide) rfl
  refine lv_aload_n hx hb d_X_cubeOrder_75 rfl (lv_at hl 2 rfl) ?_
  refine va_get (D := (dC, dI)) (ci := 1) (v := .ref h_E3) (C := "RoundedNumbers") (T := F_X) (N := 8) hx hb hts in_X hown hK hP 0 rfl rfl 7 (by decide) (hts _ tw_50) (fun _ h9 => h9) rfl d_X_cubeOrder_76 ?_
  refine lv_aload_n hx hb d_X_cubeOrder_79 rfl (lv_at hl 2 rfl) ?_
  refine va_get (D := (dC, dI)) (ci := 1) (v := .ref h_M) (C := "RoundedNumbers") (T := F_X) (N := 8) hx hb hts in_X hown hK hP 0 rfl rfl 0 (by decide) (hts _ tw_43) (fun _ h9 => h9) rfl d_X_cubeOrder_80 ?_
  refine lv_iload hx hb d_X_cubeOrder_83 (lv_at hl 5 rfl) ?_
  have c_85 : ¬ (a3 < 0 ∨ 8 ≤ a3.toNatClampNeg) := hif_n hF
  replace hF := hif_f c_85 hF
  refine va_lald hx hb hK hP 1 0 rfl rfl c_85 d_X_cubeOrder_85 ?_
  refine va_mabs_long hx hb (hml.trans hl.1.symm) hown (hts _ tw_80) (hts _ tw_81) (hts _ tw_4) (hts _ tw_82) (Nat.le_of_ble_eq_true rfl) (Nat.le_of_ble_eq_true rfl) (Nat.zero_le _) (Nat.zero_le _) d_X_cubeOrder_86 ?_
  refine W.eq (g2 := F0 m 89 ls [.long (jabs (M_f a3.toNatClampNeg)), .ref h_E3]) rfl ?_
  refine lv_aload_n hx hb d_X_cubeOrder_89 rfl (lv_at hl 2 rfl) ?_
  refine va_get (D := (dC, dI)) (ci := 1) (v := .ref h_P) (C := "RoundedNumbers") (T := F_X) (N := 8) hx hb hts in_X hown hK hP 0 rfl rfl 1 (by decide) (hts _ tw_44) (fun _ h9 => h9) rfl d_X_cubeOrder_90 ?_
  refine lv_iload hx hb d_X_cubeOrder_93 (lv_at hl 5 rfl) ?_
  have c_95 : ¬ (a3 < 0 ∨ 8 ≤ a3.toNatClampNeg) := hif_n hF
  replace hF := hif_f c_95 hF
  refine va_iald hx hb hK hP 2 1 rfl rfl c_95 d_X_cubeOrder_95 ?_
  obtain ⟨q_96, hC_96, hF⟩ := hbd hF
  have hPc := hP.sub (ws' := [cE h_E3 E3_sg E3_hi E3_lo E3_pl E3_mo]) [5] rfl
  have hDc := hD.sub (ws' := [cE h_E3 E3_sg E3_hi E3_lo E3_pl E3_mo]) [5] (by decide) rfl
  have hKc := hK.sub (tys' := []) [] rfl
  have hFc := va_free (wc := [cE h_E3 E3_sg E3_hi E3_lo E3_pl E3_mo]) hD hS hA [5] rfl
  refine va_callv (va_runV (As := [.long (jabs (M_f a3.toNatClampNeg)), .int (P_f a3.toNatClampNeg)]) (rest := []) ⟨hx, hb, hml, hown, hts⟩ (c_E_hold l dC dI h_E3 H.size E3_sg E3_hi E3_lo E3_pl E3_mo (jabs (M_f a3.toNatClampNeg)) (P_f a3.toNatClampNeg) q_96 hC_96) (cwV 2 hts g_X_54_E_hold rfl rfl rfl (by decide +kernel) ⟨Nat.le_of_ble_eq_true rfl, Nat.le_of_ble_eq_true rfl⟩) ⟨fun a U g mk q => by obtain ⟨q0, q1, qP, qK, qD⟩ := q; exact ⟨q0, q1, qP, va_K.moved (u := U) (U := U.calling g mk a) (Vm.Alike.refl U.vm) qK, qD⟩, va_recv hKc hPc (ci := 0) (q0 := 0) rfl rfl, fun U hU hW => ⟨rfl, by rw [hU], by rw [hU]; exact hPc, va_K.moved hW.alike hKc, hDc.weaken (fun _ _ _ _ => trivial)⟩⟩ rfl rfl hl.1 rfl (lv_room (Nat.le_of_ble_eq_true rfl)) d_X_cubeOrder_96 ⟨Nat.zero_le _, Nat.zero_le _⟩) hS (fun q _ h => hFc q h) hFc (fun u t H1 locs ht hvm hw hB hz1 hk1 hS => ?_)
  obtain ⟨hP1, hK1, hD1⟩ := hB
  rw [ht] at hP1
  obtain ⟨hP, hD⟩ := va_join (wr := [cX h_X h_M h_P h_E1 h_E2 h_E3 X_lo X_ro X_rc, cL h_M k_M 8 M_f, cI h_P k_P 8 P_f, cE h_E1 q_59.1 q_59.2.1 q_59.2.2.1 q_59.2.2.2.1 q_59.2.2.2.2, cE h_E2 q_72.1 q_72.2.1 q_72.2.2.1 q_72.2.2.2.1 q_72.2.2.2.2]) (w1 := [cE h_E3 q_96.1 q_96.2.1 q_96.2.2.1 q_96.2.2.2.1 q_96.2.2.2.2]) hP hD [5] [0, 1, 2, 3, 4] rfl rfl (by decide) (by decide) hk1 hFc hP1 hD1
  generalize H1 = H at hP hS ⊢
  have hP := hP.sub (ws' := [cX h_X h_M h_P h_E1 h_E2 h_E3 X_lo X_ro X_rc, cL h_M k_M 8 M_f, cI h_P k_P 8 P_f, cE h_E1 q_59.1 q_59.2.1 q_59.2.2.1 q_59.2.2.2.1 q_59.2.2.2.2, cE h_E2 q_72.1 q_72.2.1 q_72.2.2.1 q_72.2.2.2.1 q_72.2.2.2.2, cE h_E3 q_96.1 q_96.2.1 q_96.2.2.1 q_96.2.2.2.1 q_96.2.2.2.2]) [0, 1, 2, 3, 4, 5] rfl
  have hD := hD.sub (ws' := [cX h_X h_M h_P h_E1 h_E2 h_E3 X_lo X_ro X_rc, cL h_M k_M 8 M_f, cI h_P k_P 8 P_f, cE h_E1 q_59.1 q_59.2.1 q_59.2.2.1 q_59.2.2.2.1 q_59.2.2.2.2, cE h_E2 q_72.1 q_72.2.1 q_72.2.2.1 q_72.2.2.2.1 q_72.2.2.2.2, cE h_E3 q_96.1 q_96.2.1 q_96.2.2.1 q_96.2.2.2.1 q_96.2.2.2.2]) [0, 1, 2, 3, 4, 5] (by decide) rfl
  refine lv_aload_n hx hb d_X_cubeOrder_99 rfl (lv_at hl 2 rfl) ?_
  refine va_get (D := (dC, dI)) (ci := 1) (v := .ref h_E1) (C := "RoundedNumbers") (T := F_X) (N := 8) hx hb hts in_X hown hK hP 0 rfl rfl 5 (by decide) (hts _ tw_48) (fun _ h9 => h9) rfl d_X_cubeOrder_100 ?_
  refine lv_aload_n hx hb d_X_cubeOrder_103 rfl (lv_at hl 2 rfl) ?_
  refine va_get (D := (dC, dI)) (ci := 1) (v := .ref h_E2) (C := "RoundedNumbers") (T := F_X) (N := 8) hx hb hts in_X hown hK hP 0 rfl rfl 6 (by decide) (hts _ tw_49) (fun _ h9 => h9) rfl d_X_cubeOrder_104 ?_
  obtain ⟨q_107, hC_107, hF⟩ := hbd hF
  have hPc := hP.sub (ws' := [cE h_E1 q_59.1 q_59.2.1 q_59.2.2.1 q_59.2.2.2.1 q_59.2.2.2.2, cE h_E2 q_72.1 q_72.2.1 q_72.2.2.1 q_72.2.2.2.1 q_72.2.2.2.2]) [3, 4] rfl
  have hDc := hD.sub (ws' := [cE h_E1 q_59.1 q_59.2.1 q_59.2.2.1 q_59.2.2.2.1 q_59.2.2.2.2, cE h_E2 q_72.1 q_72.2.1 q_72.2.2.1 q_72.2.2.2.1 q_72.2.2.2.2]) [3, 4] (by decide) rfl
  have hKc := hK.sub (tys' := []) [] rfl
  have hFc := va_free (wc := [cE h_E1 q_59.1 q_59.2.1 q_59.2.2.1 q_59.2.2.2.1 q_59.2.2.2.2, cE h_E2 q_72.1 q_72.2.1 q_72.2.2.1 q_72.2.2.2.1 q_72.2.2.2.2]) hD hS hA [3, 4] rfl
  refine va_callr (va_runS (As := [.ref h_E1, .ref h_E2]) (rest := []) ⟨hx, hb, hml, hown, hts⟩ (c_E_sum l dC dI h_E1 h_E2 H.size q_59.1 q_59.2.1 q_59.2.2.1 q_59.2.2.2.1 q_59.2.2.2.2 q_72.1 q_72.2.1 q_72.2.2.1 q_72.2.2.2.1 q_72.2.2.2.2 q_107 hC_107) (va_cwS 2 hts g_X_58_E_sum rfl rfl rfl (by decide +kernel) ⟨Nat.le_of_ble_eq_true rfl, Nat.le_of_ble_eq_true rfl⟩) ⟨fun a U g mk q => by obtain ⟨q0, q1, qP, qK, qD⟩ := q; exact ⟨q0, q1, qP, va_K.moved (u := U) (U := U.calling g mk a) (Vm.Alike.refl U.vm) qK, qD⟩, fun U hU hW => ⟨rfl, by rw [hU], by rw [hU]; exact hPc, va_K.moved hW.alike hKc, hDc.weaken (fun _ _ _ _ => trivial)⟩⟩ rfl rfl hl.1 rfl (lv_room (Nat.le_of_ble_eq_true rfl)) d_X_cubeOrder_107 ⟨Nat.zero_le _, Nat.zero_le _⟩) hS (fun q _ h => hFc q h) hFc (fun u ra t H1 locs ht hvm hw hB hz1 hk1 hS => ?_)
  obtain ⟨hra, hP1, hK1, hD1⟩ := hB
  rw [ht] at hP1
  obtain ⟨hP, hD⟩ := va_join (wr := [cX h_X h_M h_P h_E1 h_E2 h_E3 X_lo X_ro X_rc, cL h_M k_M 8 M_f, cI h_P k_P 8 P_f, cE h_E3 q_96.1 q_96.2.1 q_96.2.2.1 q_96.2.2.2.1 q_96.2.2.2.2]) (w1 := [cE h_E1 q_107.2.1 q_107.2.2.1 q_107.2.2.2.1 q_107.2.2.2.2.1 q_107.2.2.2.2.2.1, cE h_E2 q_107.2.2.2.2.2.2.1 q_107.2.2.2.2.2.2.2.1 q_107.2.2.2.2.2.2.2.2.1 q_107.2.2.2.2.2.2.2.2.2.1 q_107.2.2.2.2.2.2.2.2.2.2]) hP hD [3, 4] [0, 1, 2, 5] rfl rfl (by decide) (by decide) hk1 hFc hP1 hD1
  generalize H1 = H at hP hS ⊢
  have hP := hP.sub (ws' := [cX h_X h_M h_P h_E1 h_E2 h_E3 X_lo X_ro X_rc, cL h_M k_M 8 M_f, cI h_P k_P 8 P_f, cE h_E1 q_107.2.1 q_107.2.2.1 q_107.2.2.2.1 q_107.2.2.2.2.1 q_107.2.2.2.2.2.1, cE h_E2 q_107.2.2.2.2.2.2.1 q_107.2.2.2.2.2.2.2.1 q_107.2.2.2.2.2.2.2.2.1 q_107.2.2.2.2.2.2.2.2.2.1 q_107.2.2.2.2.2.2.2.2.2.2, cE h_E3 q_96.1 q_96.2.1 q_96.2.2.1 q_96.2.2.2.1 q_96.2.2.2.2]) [0, 1, 2, 4, 5, 3] rfl
  have hD := hD.sub (ws' := [cX h_X h_M h_P h_E1 h_E2 h_E3 X_lo X_ro X_rc, cL h_M k_M 8 M_f, cI h_P k_P 8 P_f, cE h_E1 q_107.2.1 q_107.2.2.1 q_107.2.2.2.1 q_107.2.2.2.2.1 q_107.2.2.2.2.2.1, cE h_E2 q_107.2.2.2.2.2.2.1 q_107.2.2.2.2.2.2.2.1 q_107.2.2.2.2.2.2.2.2.1 q_107.2.2.2.2.2.2.2.2.2.1 q_107.2.2.2.2.2.2.2.2.2.2, cE h_E3 q_96.1 q_96.2.1 q_96.2.2.1 q_96.2.2.2.1 q_96.2.2.2.2]) [0, 1, 2, 4, 5, 3] (by decide) rfl
  rcases Bool.eq_false_or_eq_true q_107.1 with hsel | hsel
  · obtain rfl := (hra.1 hsel).symm
    replace hF := hif_t hsel hF
    refine lv_aload_n hx hb d_X_cubeOrder_110 rfl (lv_at hl 2 rfl) ?_
    refine va_get (D := (dC, dI)) (ci := 1) (v := .ref h_E3) (C := "RoundedNumbers") (T := F_X) (N := 8) hx hb hts in_X hown hK hP 0 rfl rfl 7 (by decide) (hts _ tw_50) (fun _ h9 => h9) rfl d_X_cubeOrder_111 ?_
    obtain ⟨q_114, hC_114, hF⟩ := hbd hF
    have hPc := hP.sub (ws' := [cE h_E1 q_107.2.1 q_107.2.2.1 q_107.2.2.2.1 q_107.2.2.2.2.1 q_107.2.2.2.2.2.1, cE h_E3 q_96.1 q_96.2.1 q_96.2.2.1 q_96.2.2.2.1 q_96.2.2.2.2]) [3, 5] rfl
    have hDc := hD.sub (ws' := [cE h_E1 q_107.2.1 q_107.2.2.1 q_107.2.2.2.1 q_107.2.2.2.2.1 q_107.2.2.2.2.2.1, cE h_E3 q_96.1 q_96.2.1 q_96.2.2.1 q_96.2.2.2.1 q_96.2.2.2.2]) [3, 5] (by decide) rfl
    have hKc := hK.sub (tys' := []) [] rfl
    have hFc := va_free (wc := [cE h_E1 q_107.2.1 q_107.2.2.1 q_107.2.2.2.1 q_107.2.2.2.2.1 q_107.2.2.2.2.2.1, cE h_E3 q_96.1 q_96.2.1 q_96.2.2.1 q_96.2.2.2.1 q_96.2.2.2.2]) hD hS hA [3, 5] rfl
    refine va_calli (va_runV (As := [.ref h_E3]) (rest := []) ⟨hx, hb, hml, hown, hts⟩ (c_E_sizeOrder l dC dI h_E1 h_E3 H.size q_107.2.1 q_107.2.2.1 q_107.2.2.2.1 q_107.2.2.2.2.1 q_107.2.2.2.2.2.1 q_96.1 q_96.2.1 q_96.2.2.1 q_96.2.2.2.1 q_96.2.2.2.2 q_114 hC_114) (cwV 1 hts g_X_192_E_sizeOrder rfl rfl rfl (by decide +kernel) ⟨Nat.le_of_ble_eq_true rfl, Nat.le_of_ble_eq_true rfl⟩) ⟨fun a U g mk q => by obtain ⟨q0, q1, qP, qK, qD⟩ := q; exact ⟨q0, q1, qP, va_K.moved (u := U) (U := U.calling g mk a) (Vm.Alike.refl U.vm) qK, qD⟩, va_recv hKc hPc (ci := 0) (q0 := 0) rfl rfl, fun U hU hW => ⟨rfl, by rw [hU], by rw [hU]; exact hPc, va_K.moved hW.alike hKc, hDc.weaken (fun _ _ _ _ => trivial)⟩⟩ rfl rfl hl.1 rfl (lv_room (Nat.le_of_ble_eq_true rfl)) d_X_cubeOrder_114 ⟨Nat.zero_le _, Nat.zero_le _⟩) hS (fun q _ h => hFc q h) hFc (fun r u t H1 locs ht hvm hw hB hz1 hk1 hS => ?_)
    obtain ⟨hP1, hK1, hD1⟩ := hB
    replace hw := hw.symm
    subst hw
    rw [ht] at hP1
    obtain ⟨hP, hD⟩ := va_join (wr := [cX h_X h_M h_P h_E1 h_E2 h_E3 X_lo X_ro X_rc, cL h_M k_M 8 M_f, cI h_P k_P 8 P_f, cE h_E2 q_107.2.2.2.2.2.2.1 q_107.2.2.2.2.2.2.2.1 q_107.2.2.2.2.2.2.2.2.1 q_107.2.2.2.2.2.2.2.2.2.1 q_107.2.2.2.2.2.2.2.2.2.2]) (w1 := [cE h_E1 q_107.2.1 q_114.2.1 q_114.2.2.1 q_114.2.2.2.1 q_114.2.2.2.2.1, cE h_E3 q_96.1 q_114.2.2.2.2.2.1 q_114.2.2.2.2.2.2.1 q_114.2.2.2.2.2.2.2.1 q_114.2.2.2.2.2.2.2.2]) hP hD [3, 5] [0, 1, 2, 4] rfl rfl (by decide) (by decide) hk1 hFc hP1 hD1
    generalize H1 = H at hP hS ⊢
    have hP := hP.sub (ws' := [cX h_X h_M h_P h_E1 h_E2 h_E3 X_lo X_ro X_rc, cL h_M k_M 8 M_f, cI h_P k_P 8 P_f, cE h_E1 q_107.2.1 q_114.2.1 q_114.2.2.1 q_114.2.2.2.1 q_114.2.2.2.2.1, cE h_E2 q_107.2.2.2.2.2.2.1 q_107.2.2.2.2.2.2.2.1 q_107.2.2.2.2.2.2.2.2.1 q_107.2.2.2.2.2.2.2.2.2.1 q_107.2.2.2.2.2.2.2.2.2.2, cE h_E3 q_96.1 q_114.2.2.2.2.2.1 q_114.2.2.2.2.2.2.1 q_114.2.2.2.2.2.2.2.1 q_114.2.2.2.2.2.2.2.2]) [0, 1, 2, 4, 3, 5] rfl
    have hD := hD.sub (ws' := [cX h_X h_M h_P h_E1 h_E2 h_E3 X_lo X_ro X_rc, cL h_M k_M 8 M_f, cI h_P k_P 8 P_f, cE h_E1 q_107.2.1 q_114.2.1 q_114.2.2.1 q_114.2.2.2.1 q_114.2.2.2.2.1, cE h_E2 q_107.2.2.2.2.2.2.1 q_107.2.2.2.2.2.2.2.1 q_107.2.2.2.2.2.2.2.2.1 q_107.2.2.2.2.2.2.2.2.2.1 q_107.2.2.2.2.2.2.2.2.2.2, cE h_E3 q_96.1 q_114.2.2.2.2.2.1 q_114.2.2.2.2.2.2.1 q_114.2.2.2.2.2.2.2.1 q_114.2.2.2.2.2.2.2.2]) [0, 1, 2, 4, 3, 5] (by decide) rfl
    obtain rfl := Option.some.inj hF
    exact W.iret (v := q_114.1) hx hb hr (fun t ht hW => ⟨⟨q_114.1, (), rfl, rfl, by rw [ht]; exact hP, va_K.moved hW.alike hK, hD⟩, hS.F ht⟩) hS.2.2 d_X_cubeOrder_117
  · obtain rfl := (hra.2 hsel).symm
    replace hF := hif_f (by rw [hsel]; decide) hF
    refine lv_aload_n hx hb d_X_cubeOrder_110 rfl (lv_at hl 2 rfl) ?_
    refine va_get (D := (dC, dI)) (ci := 1) (v := .ref h_E3) (C := "RoundedNumbers") (T := F_X) (N := 8) hx hb hts in_X hown hK hP 0 rfl rfl 7 (by decide) (hts _ tw_50) (fun _ h9 => h9) rfl d_X_cubeOrder_111 ?_
    obtain ⟨q_114, hC_114, hF⟩ := hbd hF
    have hPc := hP.sub (ws' := [cE h_E2 q_107.2.2.2.2.2.2.1 q_107.2.2.2.2.2.2.2.1 q_107.2.2.2.2.2.2.2.2.1 q_107.2.2.2.2.2.2.2.2.2.1 q_107.2.2.2.2.2.2.2.2.2.2, cE h_E3 q_96.1 q_96.2.1 q_96.2.2.1 q_96.2.2.2.1 q_96.2.2.2.2]) [4, 5] rfl
    have hDc := hD.sub (ws' := [cE h_E2 q_107.2.2.2.2.2.2.1 q_107.2.2.2.2.2.2.2.1 q_107.2.2.2.2.2.2.2.2.1 q_107.2.2.2.2.2.2.2.2.2.1 q_107.2.2.2.2.2.2.2.2.2.2, cE h_E3 q_96.1 q_96.2.1 q_96.2.2.1 q_96.2.2.2.1 q_96.2.2.2.2]) [4, 5] (by decide) rfl
    have hKc := hK.sub (tys' := []) [] rfl
    have hFc := va_free (wc := [cE h_E2 q_107.2.2.2.2.2.2.1 q_107.2.2.2.2.2.2.2.1 q_107.2.2.2.2.2.2.2.2.1 q_107.2.2.2.2.2.2.2.2.2.1 q_107.2.2.2.2.2.2.2.2.2.2, cE h_E3 q_96.1 q_96.2.1 q_96.2.2.1 q_96.2.2.2.1 q_96.2.2.2.2]) hD hS hA [4, 5] rfl
    refine va_calli (va_runV (As := [.ref h_E3]) (rest := []) ⟨hx, hb, hml, hown, hts⟩ (c_E_sizeOrder l dC dI h_E2 h_E3 H.size q_107.2.2.2.2.2.2.1 q_107.2.2.2.2.2.2.2.1 q_107.2.2.2.2.2.2.2.2.1 q_107.2.2.2.2.2.2.2.2.2.1 q_107.2.2.2.2.2.2.2.2.2.2 q_96.1 q_96.2.1 q_96.2.2.1 q_96.2.2.2.1 q_96.2.2.2.2 q_114 hC_114) (cwV 1 hts g_X_192_E_sizeOrder rfl rfl rfl (by decide +kernel) ⟨Nat.le_of_ble_eq_true rfl, Nat.le_of_ble_eq_true rfl⟩) ⟨fun a U g mk q => by obtain ⟨q0, q1, qP, qK, qD⟩ := q; exact ⟨q0, q1, qP, va_K.moved (u := U) (U := U.calling g mk a) (Vm.Alike.refl U.vm) qK, qD⟩, va_recv hKc hPc (ci := 0) (q0 := 0) rfl rfl, fun U hU hW => ⟨rfl, by rw [hU], by rw [hU]; exact hPc, va_K.moved hW.alike hKc, hDc.weaken (fun _ _ _ _ => trivial)⟩⟩ rfl rfl hl.1 rfl (lv_room (Nat.le_of_ble_eq_true rfl)) d_X_cubeOrder_114 ⟨Nat.zero_le _, Nat.zero_le _⟩) hS (fun q _ h => hFc q h) hFc (fun r u t H1 locs ht hvm hw hB hz1 hk1 hS => ?_)
    obtain ⟨hP1, hK1, hD1⟩ := hB
    replace hw := hw.symm
    subst hw
    rw [ht] at hP1
    obtain ⟨hP, hD⟩ := va_join (wr := [cX h_X h_M h_P h_E1 h_E2 h_E3 X_lo X_ro X_rc, cL h_M k_M 8 M_f, cI h_P k_P 8 P_f, cE h_E1 q_107.2.1 q_107.2.2.1 q_107.2.2.2.1 q_107.2.2.2.2.1 q_107.2.2.2.2.2.1]) (w1 := [cE h_E2 q_107.2.2.2.2.2.2.1 q_114.2.1 q_114.2.2.1 q_114.2.2.2.1 q_114.2.2.2.2.1, cE h_E3 q_96.1 q_114.2.2.2.2.2.1 q_114.2.2.2.2.2.2.1 q_114.2.2.2.2.2.2.2.1 q_114.2.2.2.2.2.2.2.2]) hP hD [4, 5] [0, 1, 2, 3] rfl rfl (by decide) (by decide) hk1 hFc hP1 hD1
    generalize H1 = H at hP hS ⊢
    have hP := hP.sub (ws' := [cX h_X h_M h_P h_E1 h_E2 h_E3 X_lo X_ro X_rc, cL h_M k_M 8 M_f, cI h_P k_P 8 P_f, cE h_E1 q_107.2.1 q_107.2.2.1 q_107.2.2.2.1 q_107.2.2.2.2.1 q_107.2.2.2.2.2.1, cE h_E2 q_107.2.2.2.2.2.2.1 q_114.2.1 q_114.2.2.1 q_114.2.2.2.1 q_114.2.2.2.2.1, cE h_E3 q_96.1 q_114.2.2.2.2.2.1 q_114.2.2.2.2.2.2.1 q_114.2.2.2.2.2.2.2.1 q_114.2.2.2.2.2.2.2.2]) [0, 1, 2, 3, 4, 5] rfl
    have hD := hD.sub (ws' := [cX h_X h_M h_P h_E1 h_E2 h_E3 X_lo X_ro X_rc, cL h_M k_M 8 M_f, cI h_P k_P 8 P_f, cE h_E1 q_107.2.1 q_107.2.2.1 q_107.2.2.2.1 q_107.2.2.2.2.1 q_107.2.2.2.2.2.1, cE h_E2 q_107.2.2.2.2.2.2.1 q_114.2.1 q_114.2.2.1 q_114.2.2.2.1 q_114.2.2.2.2.1, cE h_E3 q_96.1 q_114.2.2.2.2.2.1 q_114.2.2.2.2.2.2.1 q_114.2.2.2.2.2.2.2.1 q_114.2.2.2.2.2.2.2.2]) [0, 1, 2, 3, 4, 5] (by decide) rfl
    obtain rfl := Option.some.inj hF
    exact W.iret (v := q_114.1) hx hb hr (fun t ht hW => ⟨⟨q_114.1, (), rfl, rfl, by rw [ht]; exact hP, va_K.moved hW.alike hK, hD⟩, hS.F ht⟩) hS.2.2 d_X_cubeOrder_117
set_option maxHeartbeats 4000000 in
set_option maxRecDepth 100000 in
theorem c_X_set (l : Launch) (dC : Nat → ClassId) (dI : Nat → Nat → Nat) (h_X : Nat) (h_M : Nat) (h_P : Nat) (h_E1 : Nat) (h_E2 : Nat) (h_E3 : Nat) (k_M : ClassId) (k_P : ClassId) (sz : Nat) (X_lo : Int32) (X_ro : Int32) (X_rc : Int32) (M_f : Nat → Int64) (P_f : Nat → Int32) (a1 : Int32) (a2 : Int64) (a3 : Int32) (o : Int32 × Int32 × (Nat → Int64) × (Nat → Int32)) (hF : f_X_set X_rc M_f P_f a1 a2 a3 = some o) : Met l y_X_set w_X_set ({ frames := 4, cells := 0, slots := 0, locals := 93 } : Room) (va_Pc [.ref h_X, .int a1, .long a2, .int a3] (fun U => U.heap.size = sz ∧ va_P (dC, dI) classes [cX h_X h_M h_P h_E1 h_E2 h_E3 X_lo X_ro X_rc, cL h_M k_M 8 M_f, cI h_P k_P 8 P_f] U.heap ∧ va_K (dC, dI) classes [(k_M, .long), (k_P, .int)] U ∧ va_D (fun _ => True) [cX h_X h_M h_P h_E1 h_E2 h_E3 X_lo X_ro X_rc, cL h_M k_M 8 M_f, cI h_P k_P 8 P_f])) (va_Qi (fun (r : Int32) (_ : Unit) => r = o.1) (fun (_ : Unit) (t : State) => va_P (dC, dI) classes [cX h_X h_M h_P h_E1 h_E2 h_E3 X_lo X_ro o.2.1, cL h_M k_M 8 o.2.2.1, cI h_P k_P 8 o.2.2.2] t.heap ∧ va_K (dC, dI) classes [(k_M, .long), (k_P, .int)] t ∧ va_D (va_A [cX h_X h_M h_P h_E1 h_E2 h_E3 X_lo X_ro X_rc, cL h_M k_M 8 M_f, cI h_P k_P 8 P_f] sz) [cX h_X h_M h_P h_E1 h_E2 h_E3 X_lo X_ro o.2.1, cL h_M k_M 8 o.2.2.1, cI h_P k_P 8 o.2.2.2]) (va_A [cX h_X h_M h_P h_E1 h_E2 h_E3 X_lo X_ro X_rc, cL h_M k_M 8 M_f, cI h_P k_P 8 P_f] sz)) 0 0 (va_A [cX h_X h_M h_P h_E1 h_E2 h_E3 X_lo X_ro X_rc, cL h_M k_M 8 M_f, cI h_P k_P 8 P_f] sz) := by
  refine Met.ofW (cc := prog_1_method_2_code) (maxL := 5) (ret := (some .int)) (by decide) rfl ?_
  intro p e s m args below meth c s₁ B hml hv
  obtain ⟨rfl, hsz, hP, hK, hD0⟩ := hv
  have hx := B.exec
  have hb := B.bytes
  have hr := B.returns
  have hts0 := atoms_spec (ws := w_X_set) B.pre
  have hts : ∀ w ∈ tb, w.before _ s = true := fun w h => hts0 w (List.mem_cons_of_mem _ h)
  clear hts0
  have hown : s.vm.findClass "RoundedNumbers" = some m.cls := findClass_of_methodNamed B.named
  have hlocks := B.notSynchronized
  subst hsz
  have hD := hD0.self (sz := s.heap.size)
  generalize hAe : va_A [cX h_X h_M h_P h_E1 h_E2 h_E3 X_lo X_ro X_rc, cL h_M k_M 8 M_f, cI h_P k_P 8 P_f] s.heap.size = A at hD ⊢
  have hA : ∀ q : Nat, s.heap.size ≤ q → A q := fun q h => by rw [← hAe]; exact Or.inr h
  clear hAe
  have hS : va_S A s.heap s.heap [] := va_S.rf
  have hP : va_P (dC, dI) classes [cX h_X h_M h_P h_E1 h_E2 h_E3 X_lo X_ro X_rc, cL h_M k_M 8 M_f, cI h_P k_P 8 P_f] s.heap := hP
  have hl := lv_entry ([.ref h_X, .int a1, .long a2, .int a3]) (n := 5) (Nat.le_of_ble_eq_true rfl)
  rw [lg_entry_eq]
  generalize (lg_sl ([.ref h_X, .int a1, .long a2, .int a3]) ++ List.replicate (5 - (lg_sl ([.ref h_X, .int a1, .long a2, .int a3])).length) Slot.unset).toArray = ls at hl ⊢
  have hl : lv_has ls 5 [(0, .ref h_X), (1, .int a1), (2, .long a2), (4, .int a3)] := hl
  unfold f_X_set at hF
  refine lv_iload_n hx hb d_X_set_0 rfl (lv_at hl 1 rfl) ?_
  obtain ⟨q_1, hC_1, hF⟩ := hbd hF
  have hPc := hP.sub (ws' := []) [] rfl
  have hDc := hD.sub (ws' := []) [] (by decide) rfl
  have hKc := hK.sub (tys' := []) [] rfl
  have hFc := va_free (wc := []) hD hS hA [] rfl
  refine va_calli (va_runS (As := [.int a1]) (rest := []) ⟨hx, hb, hml, hown, hts⟩ (c_X_isRegister l dC dI s.heap.size a1 q_1 hC_1) (cwS 1 hts g_X_30_X_isRegister rfl rfl rfl (by decide +kernel) ⟨Nat.le_of_ble_eq_true rfl, Nat.le_of_ble_eq_true rfl⟩) ⟨fun a U g mk q => by obtain ⟨q0, q1, qP, qK, qD⟩ := q; exact ⟨q0, q1, qP, va_K.moved (u := U) (U := U.calling g mk a) (Vm.Alike.refl U.vm) qK, qD⟩, fun U hU hW => ⟨rfl, by rw [hU], by rw [hU]; exact hPc, va_K.moved hW.alike hKc, hDc.weaken (fun _ _ _ _ => trivial)⟩⟩ rfl rfl hl.1 rfl (lv_room (Nat.le_of_ble_eq_true rfl)) d_X_set_1 ⟨Nat.zero_le _, Nat.zero_le _⟩) hS (fun q _ h => hFc q h) hFc (fun r u t H1 locs ht hvm hw hB hz1 hk1 hS => ?_)
  obtain ⟨hP1, hK1, hD1⟩ := hB
  replace hw := hw.symm
  subst hw
  rw [ht] at hP1
  obtain ⟨hP, hD⟩ := va_join (wr := [cX h_X h_M h_P h_E1 h_E2 h_E3 X_lo X_ro X_rc, cL h_M k_M 8 M_f, cI h_P k_P 8 P_f]) (w1 := []) hP hD [] [0, 1, 2] rfl rfl (by decide) (by decide) hk1 hFc hP1 hD1
  generalize H1 = H at hP hS ⊢
  have hP := hP.sub (ws' := [cX h_X h_M h_P h_E1 h_E2 h_E3 X_lo X_ro X_rc, cL h_M k_M 8 M_f, cI h_P k_P 8 P_f]) [0, 1, 2] rfl
  have hD := hD.sub (ws' := [cX h_X h_M h_P h_E1 h_E2 h_E3 X_lo X_ro X_rc, cL h_M k_M 8 M_f, cI h_P k_P 8 P_f]) [0, 1, 2] (by decide) rfl
  refine lv_if_eq (tgt := 39) hx hb d_X_set_4 (by decide) (fun c_4 => ?_) (fun c_4 => ?_)
  · replace hF := hif_t c_4 hF
    refine lv_iconst (v := (-1 : Int32)) hx hb d_X_set_39 (by decide) ?_
    obtain rfl := Option.some.inj hF
    exact W.iret (v := (-1 : Int32)) hx hb hr (fun t ht hW => ⟨⟨(-1 : Int32), (), rfl, rfl, by rw [ht]; exact hP, va_K.moved hW.alike hK, hD⟩, hS.F ht⟩) hS.2.2 d_X_set_40
  · replace hF := hif_f c_4 hF
    refine lv_lload_n hx hb d_X_set_7 rfl (lv_at hl 2 rfl) ?_
    refine lv_ldc2 (v := (-9007199254740992 : Int64)) hx hb hown (hts _ tw_75) d_X_set_8 ?_
    refine W.lcmp hx hb d_X_set_11 ?_
    refine lv_if_le (tgt := 39) hx hb d_X_set_12 (by decide) (fun c_12 => ?_) (fun c_12 => ?_)
    · replace hF := hif_t c_12 hF
      refine lv_iconst (v := (-1 : Int32)) hx hb d_X_set_39 (by decide) ?_
      obtain rfl := Option.some.inj hF
      exact W.iret (v := (-1 : Int32)) hx hb hr (fun t ht hW => ⟨⟨(-1 : Int32), (), rfl, rfl, by rw [ht]; exact hP, va_K.moved hW.alike hK, hD⟩, hS.F ht⟩) hS.2.2 d_X_set_40
    · replace hF := hif_f c_12 hF
      refine lv_lload_n hx hb d_X_set_15 rfl (lv_at hl 2 rfl) ?_
      refine lv_ldc2 (v := (9007199254740992 : Int64)) hx hb hown (hts _ tw_76) d_X_set_16 ?_
      refine W.lcmp hx hb d_X_set_19 ?_
      refine lv_if_ge (tgt := 39) hx hb d_X_set_20 (by decide) (fun c_20 => ?_) (fun c_20 => ?_)
      · replace hF := hif_t c_20 hF
        refine lv_iconst (v := (-1 : Int32)) hx hb d_X_set_39 (by decide) ?_
        obtain rfl := Option.some.inj hF
        exact W.iret (v := (-1 : Int32)) hx hb hr (fun t ht hW => ⟨⟨(-1 : Int32), (), rfl, rfl, by rw [ht]; exact hP, va_K.moved hW.alike hK, hD⟩, hS.F ht⟩) hS.2.2 d_X_set_40
      · replace hF := hif_f c_20 hF
        refine lv_iload hx hb d_X_set_23 (lv_at hl 3 rfl) ?_
        refine lv_sipush (v := (-250 : Int32)) hx hb d_X_set_25 (by decide) ?_
        refine lv_icmp_lt (tgt := 39) hx hb d_X_set_28 (by decide) (fun c_28 => ?_) (fun c_28 => ?_)
        · replace hF := hif_t c_28 hF
          refine lv_iconst (v := (-1 : Int32)) hx hb d_X_set_39 (by decide) ?_
          obtain rfl := Option.some.inj hF
          exact W.iret (v := (-1 : Int32)) hx hb hr (fun t ht hW => ⟨⟨(-1 : Int32), (), rfl, rfl, by rw [ht]; exact hP, va_K.moved hW.alike hK, hD⟩, hS.F ht⟩) hS.2.2 d_X_set_40
        · replace hF := hif_f c_28 hF
          refine lv_iload hx hb d_X_set_31 (lv_at hl 3 rfl) ?_
          refine lv_sipush (v := (250 : Int32)) hx hb d_X_set_33 (by decide) ?_
          refine lv_icmp_le (tgt := 41) hx hb d_X_set_36 (by decide) (fun c_36 => ?_) (fun c_36 => ?_)
          · replace hF := hif_t c_36 hF
            refine lv_lload_n hx hb d_X_set_41 rfl (lv_at hl 2 rfl) ?_
            refine lv_iload hx hb d_X_set_42 (lv_at hl 3 rfl) ?_
            obtain ⟨q_44, hC_44, hF⟩ := hbd hF
            have hPc := hP.sub (ws' := []) [] rfl
            have hDc := hD.sub (ws' := []) [] (by decide) rfl
            have hKc := hK.sub (tys' := []) [] rfl
            have hFc := va_free (wc := []) hD hS hA [] rfl
            refine va_calli (va_runS (As := [.long a2, .int a3]) (rest := []) ⟨hx, hb, hml, hown, hts⟩ (c_X_isNumber l dC dI H.size a2 a3 q_44 hC_44) (cwS 2 hts g_X_38_X_isNumber rfl rfl rfl (by decide +kernel) ⟨Nat.le_of_ble_eq_true rfl, Nat.le_of_ble_eq_true rfl⟩) ⟨fun a U g mk q => by obtain ⟨q0, q1, qP, qK, qD⟩ := q; exact ⟨q0, q1, qP, va_K.moved (u := U) (U := U.calling g mk a) (Vm.Alike.refl U.vm) qK, qD⟩, fun U hU hW => ⟨rfl, by rw [hU], by rw [hU]; exact hPc, va_K.moved hW.alike hKc, hDc.weaken (fun _ _ _ _ => trivial)⟩⟩ rfl rfl hl.1 rfl (lv_room (Nat.le_of_ble_eq_true rfl)) d_X_set_44 ⟨Nat.zero_le _, Nat.zero_le _⟩) hS (fun q _ h => hFc q h) hFc (fun r u t H1 locs ht hvm hw hB hz1 hk1 hS => ?_)
            obtain ⟨hP1, hK1, hD1⟩ := hB
            replace hw := hw.symm
            subst hw
            rw [ht] at hP1
            obtain ⟨hP, hD⟩ := va_join (wr := [cX h_X h_M h_P h_E1 h_E2 h_E3 X_lo X_ro X_rc, cL h_M k_M 8 M_f, cI h_P k_P 8 P_f]) (w1 := []) hP hD [] [0, 1, 2] rfl rfl (by decide) (by decide) hk1 hFc hP1 hD1
            generalize H1 = H at hP hS ⊢
            have hP := hP.sub (ws' := [cX h_X h_M h_P h_E1 h_E2 h_E3 X_lo X_ro X_rc, cL h_M k_M 8 M_f, cI h_P k_P 8 P_f]) [0, 1, 2] rfl
            have hD := hD.sub (ws' := [cX h_X h_M h_P h_E1 h_E2 h_E3 X_lo X_ro X_rc, cL h_M k_M 8 M_f, cI h_P k_P 8 P_f]) [0, 1, 2] (by decide) rfl
            refine lv_if_ne (tgt := 55) hx hb d_X_set_47 (by decide) (fun c_47 => ?_) (fun c_47 => ?_)
            · replace hF := hif_f c_47 hF
              refine lv_aload_n hx hb d_X_set_55 rfl (lv_at hl 0 rfl) ?_
              refine lv_iload_n hx hb d_X_set_56 rfl (lv_at hl 1 rfl) ?_
              refine lv_lload_n hx hb d_X_set_57 rfl (lv_at hl 2 rfl) ?_
              refine lv_iload hx hb d_X_set_58 (lv_at hl 3 rfl) ?_
              obtain ⟨q_60, hC_60, hF⟩ := hbd hF
              have hPc := hP.sub (ws' := [cX h_X h_M h_P h_E1 h_E2 h_E3 X_lo X_ro X_rc, cL h_M k_M 8 M_f, cI h_P k_P 8 P_f]) [0, 1, 2] rfl
              have hDc := hD.sub (ws' := [cX h_X h_M h_P h_E1 h_E2 h_E3 X_lo X_ro X_rc, cL h_M k_M 8 M_f, cI h_P k_P 8 P_f]) [0, 1, 2] (by decide) rfl
              have hKc := hK.sub (tys' := [(k_M, .long), (k_P, .int)]) [0, 1] rfl
              have hFc := va_free (wc := [cX h_X h_M h_P h_E1 h_E2 h_E3 X_lo X_ro X_rc, cL h_M k_M 8 M_f, cI h_P k_P 8 P_f]) hD hS hA [0, 1, 2] rfl
              refine va_callv (va_runV (As := [.int a1, .long a2, .int a3]) (rest := []) ⟨hx, hb, hml, hown, hts⟩ (c_X_store l dC dI h_X h_M h_P h_E1 h_E2 h_E3 k_M k_P H.size X_lo X_ro X_rc M_f P_f a1 a2 a3 q_60 hC_60) (cwV 3 hts g_X_46_X_store rfl rfl rfl (by decide +kernel) ⟨Nat.le_of_ble_eq_true rfl, Nat.le_of_ble_eq_true rfl⟩) ⟨fun a U g mk q => by obtain ⟨q0, q1, qP, qK, qD⟩ := q; exact ⟨q0, q1, qP, va_K.moved (u := U) (U := U.calling g mk a) (Vm.Alike.refl U.vm) qK, qD⟩, va_recv hKc hPc (ci := 1) (q0 := 0) rfl rfl, fun U hU hW => ⟨rfl, by rw [hU], by rw [hU]; exact hPc, va_K.moved hW.alike hKc, hDc.weaken (fun _ _ _ _ => trivial)⟩⟩ rfl rfl hl.1 rfl (lv_room (Nat.le_of_ble_eq_true rfl)) d_X_set_60 ⟨Nat.zero_le _, Nat.zero_le _⟩) hS (fun q _ h => hFc q h) hFc (fun u t H1 locs ht hvm hw hB hz1 hk1 hS => ?_)
              obtain ⟨hP1, hK1, hD1⟩ := hB
              rw [ht] at hP1
              obtain ⟨hP, hD⟩ := va_join (wr := []) (w1 := [cX h_X h_M h_P h_E1 h_E2 h_E3 X_lo X_ro X_rc, cL h_M k_M 8 q_60.1, cI h_P k_P 8 q_60.2]) hP hD [0, 1, 2] [] rfl rfl (by decide) (by decide) hk1 hFc hP1 hD1
              generalize H1 = H at hP hS ⊢
              have hP := hP.sub (ws' := [cX h_X h_M h_P h_E1 h_E2 h_E3 X_lo X_ro X_rc, cL h_M k_M 8 q_60.1, cI h_P k_P 8 q_60.2]) [0, 1, 2] rfl
              have hD := hD.sub (ws' := [cX h_X h_M h_P h_E1 h_E2 h_E3 X_lo X_ro X_rc, cL h_M k_M 8 q_60.1, cI h_P k_P 8 q_60.2]) [0, 1, 2] (by decide) rfl
              refine lv_iconst (v := (0 : Int32)) hx hb d_X_set_63 (by decide) ?_
              obtain rfl := Option.some.inj hF
              exact W.iret (v := (0 : Int32)) hx hb hr (fun t ht hW => ⟨⟨(0 : Int32), (), rfl, rfl, by rw [ht]; exact hP, va_K.moved hW.alike hK, hD⟩, hS.F ht⟩) hS.2.2 d_X_set_64
            · replace hF := hif_t c_47 hF
              refine lv_aload_n hx hb d_X_set_50 rfl (lv_at hl 0 rfl) ?_
              obtain ⟨q_51, hC_51, hF⟩ := hbd hF
              have hPc := hP.sub (ws' := [cX h_X h_M h_P h_E1 h_E2 h_E3 X_lo X_ro X_rc]) [0] rfl
              have hDc := hD.sub (ws' := [cX h_X h_M h_P h_E1 h_E2 h_E3 X_lo X_ro X_rc]) [0] (by decide) rfl
              have hKc := hK.sub (tys' := []) [] rfl
              have hFc := va_free (wc := [cX h_X h_M h_P h_E1 h_E2 h_E3 X_lo X_ro X_rc]) hD hS hA [0] rfl
              refine va_calli (va_runV (As := []) (rest := []) ⟨hx, hb, hml, hown, hts⟩ (c_X_outOfRange l dC dI h_X h_M h_P h_E1 h_E2 h_E3 H.size X_lo X_ro X_rc q_51 hC_51) (cwV 0 hts g_X_42_X_outOfRange rfl rfl rfl (by decide +kernel) ⟨Nat.le_of_ble_eq_true rfl, Nat.le_of_ble_eq_true rfl⟩) ⟨fun a U g mk q => by obtain ⟨q0, q1, qP, qK, qD⟩ := q; exact ⟨q0, q1, qP, va_K.moved (u := U) (U := U.calling g mk a) (Vm.Alike.refl U.vm) qK, qD⟩, va_recv hKc hPc (ci := 1) (q0 := 0) rfl rfl, fun U hU hW => ⟨rfl, by rw [hU], by rw [hU]; exact hPc, va_K.moved hW.alike hKc, hDc.weaken (fun _ _ _ _ => trivial)⟩⟩ rfl rfl hl.1 rfl (lv_room (Nat.le_of_ble_eq_true rfl)) d_X_set_51 ⟨Nat.zero_le _, Nat.zero_le _⟩) hS (fun q _ h => hFc q h) hFc (fun r u t H1 locs ht hvm hw hB hz1 hk1 hS => ?_)
              obtain ⟨hP1, hK1, hD1⟩ := hB
              replace hw := hw.symm
              subst hw
              rw [ht] at hP1
              obtain ⟨hP, hD⟩ := va_join (wr := [cL h_M k_M 8 M_f, cI h_P k_P 8 P_f]) (w1 := [cX h_X h_M h_P h_E1 h_E2 h_E3 X_lo X_ro q_51.2]) hP hD [0] [1, 2] rfl rfl (by decide) (by decide) hk1 hFc hP1 hD1
              generalize H1 = H at hP hS ⊢
              have hP := hP.sub (ws' := [cX h_X h_M h_P h_E1 h_E2 h_E3 X_lo X_ro q_51.2, cL h_M k_M 8 M_f, cI h_P k_P 8 P_f]) [2, 0, 1] rfl
              have hD := hD.sub (ws' := [cX h_X h_M h_P h_E1 h_E2 h_E3 X_lo X_ro q_51.2, cL h_M k_M 8 M_f, cI h_P k_P 8 P_f]) [2, 0, 1] (by decide) rfl
              obtain rfl := Option.some.inj hF
              exact W.iret (v := q_51.1) hx hb hr (fun t ht hW => ⟨⟨q_51.1, (), rfl, rfl, by rw [ht]; exact hP, va_K.moved hW.alike hK, hD⟩, hS.F ht⟩) hS.2.2 d_X_set_54
          · replace hF := hif_f c_36 hF
            refine lv_iconst (v := (-1 : Int32)) hx hb d_X_set_39 (by decide) ?_
            obtain rfl := Option.some.inj hF
            exact W.iret (v := (-1 : Int32)) hx hb hr (fun t ht hW => ⟨⟨(-1 : Int32), (), rfl, rfl, by rw [ht]; exact hP, va_K.moved hW.alike hK, hD⟩, hS.F ht⟩) hS.2.2 d_X_set_40
