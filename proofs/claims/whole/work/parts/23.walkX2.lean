set_option maxHeartbeats 4000000 in
set_option maxRecDepth 100000 in
theorem c_X_add (l : Launch) (dC : Nat → ClassId) (dI : Nat → Nat → Nat) (h_X : Nat) (h_M : Nat) (h_P : Nat) (h_E1 : Nat) (h_E2 : Nat) (h_E3 : Nat) (k_M : ClassId) (k_P : ClassId) (sz : Nat) (X_lo : Int32) (X_ro : Int32) (X_rc : Int32) (M_f : Nat → Int64) (P_f : Nat → Int32) (E1_sg : Int32) (E1_hi : Int64) (E1_lo : Int64) (E1_pl : Int32) (E1_mo : Int32) (E2_sg : Int32) (E2_hi : Int64) (E2_lo : Int64) (E2_pl : Int32) (E2_mo : Int32) (a1 : Int32) (a2 : Int32) (a3 : Int32) (a4 : Int32) (o : Int32 × Int32 × Int32 × Int32 × (Nat → Int64) × (Nat → Int32) × Int32 × Int64 × Int64 × Int32 × Int32 × Int32 × Int64 × Int64 × Int32 × Int32) (hF : f_X_add X_lo X_ro X_rc M_f P_f E1_sg E1_hi E1_lo E1_pl E1_mo E2_sg E2_hi E2_lo E2_pl E2_mo a1 a2 a3 a4 = some o) : Met l y_X_add w_X_add ({ frames := 6, cells := 0, slots := 0, locals := 142 } : Room) (va_Pc [.ref h_X, .int a1, .int a2, .int a3, .int a4] (fun U => U.heap.size = sz ∧ va_P (dC, dI) classes [cX h_X h_M h_P h_E1 h_E2 h_E3 X_lo X_ro X_rc, cL h_M k_M 8 M_f, cI h_P k_P 8 P_f, cE h_E1 E1_sg E1_hi E1_lo E1_pl E1_mo, cE h_E2 E2_sg E2_hi E2_lo E2_pl E2_mo] U.heap ∧ va_K (dC, dI) classes [(k_M, .long), (k_P, .int)] U ∧ va_D (fun _ => True) [cX h_X h_M h_P h_E1 h_E2 h_E3 X_lo X_ro X_rc, cL h_M k_M 8 M_f, cI h_P k_P 8 P_f, cE h_E1 E1_sg E1_hi E1_lo E1_pl E1_mo, cE h_E2 E2_sg E2_hi E2_lo E2_pl E2_mo])) (va_Qi (fun (r : Int32) (_ : Unit) => r = o.1) (fun (_ : Unit) (t : State) => va_P (dC, dI) classes [cX h_X h_M h_P h_E1 h_E2 h_E3 o.2.1 o.2.2.1 o.2.2.2.1, cL h_M k_M 8 o.2.2.2.2.1, cI h_P k_P 8 o.2.2.2.2.2.1, cE h_E1 o.2.2.2.2.2.2.1 o.2.2.2.2.2.2.2.1 o.2.2.2.2.2.2.2.2.1 o.2.2.2.2.2.2.2.2.2.1 o.2.2.2.2.2.2.2.2.2.2.1, cE h_E2 o.2.2.2.2.2.2.2.2.2.2.2.1 o.2.2.2.2.2.2.2.2.2.2.2.2.1 o.2.2.2.2.2.2.2.2.2.2.2.2.2.1 o.2.2.2.2.2.2.2.2.2.2.2.2.2.2.1 o.2.2.2.2.2.2.2.2.2.2.2.2.2.2.2] t.heap ∧ va_K (dC, dI) classes [(k_M, .long), (k_P, .int)] t ∧ va_D (va_A [cX h_X h_M h_P h_E1 h_E2 h_E3 X_lo X_ro X_rc, cL h_M k_M 8 M_f, cI h_P k_P 8 P_f, cE h_E1 E1_sg E1_hi E1_lo E1_pl E1_mo, cE h_E2 E2_sg E2_hi E2_lo E2_pl E2_mo] sz) [cX h_X h_M h_P h_E1 h_E2 h_E3 o.2.1 o.2.2.1 o.2.2.2.1, cL h_M k_M 8 o.2.2.2.2.1, cI h_P k_P 8 o.2.2.2.2.2.1, cE h_E1 o.2.2.2.2.2.2.1 o.2.2.2.2.2.2.2.1 o.2.2.2.2.2.2.2.2.1 o.2.2.2.2.2.2.2.2.2.1 o.2.2.2.2.2.2.2.2.2.2.1, cE h_E2 o.2.2.2.2.2.2.2.2.2.2.2.1 o.2.2.2.2.2.2.2.2.2.2.2.2.1 o.2.2.2.2.2.2.2.2.2.2.2.2.2.1 o.2.2.2.2.2.2.2.2.2.2.2.2.2.2.1 o.2.2.2.2.2.2.2.2.2.2.2.2.2.2.2]) (va_A [cX h_X h_M h_P h_E1 h_E2 h_E3 X_lo X_ro X_rc, cL h_M k_M 8 M_f, cI h_P k_P 8 P_f, cE h_E1 E1_sg E1_hi E1_lo E1_pl E1_mo, cE h_E2 E2_sg E2_hi E2_lo E2_pl E2_mo] sz)) 0 0 (va_A [cX h_X h_M h_P h_E1 h_E2 h_E3 X_lo X_ro X_rc, cL h_M k_M 8 M_f, cI h_P k_P 8 P_f, cE h_E1 E1_sg E1_hi E1_lo E1_pl E1_mo, cE h_E2 E2_sg E2_hi E2_lo E2_pl E2_mo] sz) := by
  refine Met.ofW (cc := prog_1_method_3_code) (maxL := 5) (ret := (some .int)) (by decide) rfl ?_
  intro p e s m args below meth c s₁ B hml hv
  obtain ⟨rfl, hsz, hP, hK, hD0⟩ := hv
  have hx := B.exec
  have hb := B.bytes
  have hr := B.returns
  have hts0 := atoms_spec (ws := w_X_add) B.pre
  have hts : ∀ w ∈ tb, w.before _ s = true := fun w h => hts0 w (List.mem_cons_of_mem _ h)
  clear hts0
  have hown : s.vm.findClass "RoundedNumbers" = some m.cls := findClass_of_methodNamed B.named
  have hlocks := B.notSynchronized
  subst hsz
  have hD := hD0.self (sz := s.heap.size)
  generalize hAe : va_A [cX h_X h_M h_P h_E1 h_E2 h_E3 X_lo X_ro X_rc, cL h_M k_M 8 M_f, cI h_P k_P 8 P_f, cE h_E1 E1_sg E1_hi E1_lo E1_pl E1_mo, cE h_E2 E2_sg E2_hi E2_lo E2_pl E2_mo] s.heap.size = A at hD ⊢
  have hA : ∀ q : Nat, s.heap.size ≤ q → A q := fun q h => by rw [← hAe]; exact Or.inr h
  clear hAe
  have hS : va_S A s.heap s.heap [] := va_S.rf
  have hP : va_P (dC, dI) classes [cX h_X h_M h_P h_E1 h_E2 h_E3 X_lo X_ro X_rc, cL h_M k_M 8 M_f, cI h_P k_P 8 P_f, cE h_E1 E1_sg E1_hi E1_lo E1_pl E1_mo, cE h_E2 E2_sg E2_hi E2_lo E2_pl E2_mo] s.heap := hP
  have hl := lv_entry ([.ref h_X, .int a1, .int a2, .int a3, .int a4]) (n := 5) (Nat.le_of_ble_eq_true rfl)
  rw [lg_entry_eq]
  generalize (lg_sl ([.ref h_X, .int a1, .int a2, .int a3, .int a4]) ++ List.replicate (5 - (lg_sl ([.ref h_X, .int a1, .int a2, .int a3, .int a4])).length) Slot.unset).toArray = ls at hl ⊢
  have hl : lv_has ls 5 [(0, .ref h_X), (1, .int a1), (2, .int a2), (3, .int a3), (4, .int a4)] := hl
  unfold f_X_add at hF
  refine lv_aload_n hx hb d_X_add_0 rfl (lv_at hl 0 rfl) ?_
  refine lv_iload_n hx hb d_X_add_1 rfl (lv_at hl 1 rfl) ?_
  refine lv_iload_n hx hb d_X_add_2 rfl (lv_at hl 2 rfl) ?_
  refine lv_iload_n hx hb d_X_add_3 rfl (lv_at hl 3 rfl) ?_
  refine lv_iload hx hb d_X_add_4 (lv_at hl 4 rfl) ?_
  obtain ⟨q_6, hC_6, hF⟩ := hbd hF
  have hPc := hP.sub (ws' := [cX h_X h_M h_P h_E1 h_E2 h_E3 X_lo X_ro X_rc, cL h_M k_M 8 M_f]) [0, 1] rfl
  have hDc := hD.sub (ws' := [cX h_X h_M h_P h_E1 h_E2 h_E3 X_lo X_ro X_rc, cL h_M k_M 8 M_f]) [0, 1] (by decide) rfl
  have hKc := hK.sub (tys' := [(k_M, .long)]) [0] rfl
  have hFc := va_free (wc := [cX h_X h_M h_P h_E1 h_E2 h_E3 X_lo X_ro X_rc, cL h_M k_M 8 M_f]) hD hS hA [0, 1] rfl
  refine va_calli (va_runV (As := [.int a1, .int a2, .int a3, .int a4]) (rest := []) ⟨hx, hb, hml, hown, hts⟩ (c_X_mayTake l dC dI h_X h_M h_P h_E1 h_E2 h_E3 k_M s.heap.size X_lo X_ro X_rc M_f a1 a2 a3 a4 q_6 hC_6) (cwV 4 hts g_X_50_X_mayTake rfl rfl rfl (by decide +kernel) ⟨Nat.le_of_ble_eq_true rfl, Nat.le_of_ble_eq_true rfl⟩) ⟨fun a U g mk q => by obtain ⟨q0, q1, qP, qK, qD⟩ := q; exact ⟨q0, q1, qP, va_K.moved (u := U) (U := U.calling g mk a) (Vm.Alike.refl U.vm) qK, qD⟩, va_recv hKc hPc (ci := 1) (q0 := 0) rfl rfl, fun U hU hW => ⟨rfl, by rw [hU], by rw [hU]; exact hPc, va_K.moved hW.alike hKc, hDc.weaken (fun _ _ _ _ => trivial)⟩⟩ rfl rfl hl.1 rfl (lv_room (Nat.le_of_ble_eq_true rfl)) d_X_add_6 ⟨Nat.zero_le _, Nat.zero_le _⟩) hS (fun q _ h => hFc q h) hFc (fun r u t H1 locs ht hvm hw hB hz1 hk1 hS => ?_)
  obtain ⟨hP1, hK1, hD1⟩ := hB
  replace hw := hw.symm
  subst hw
  rw [ht] at hP1
  obtain ⟨hP, hD⟩ := va_join (wr := [cI h_P k_P 8 P_f, cE h_E1 E1_sg E1_hi E1_lo E1_pl E1_mo, cE h_E2 E2_sg E2_hi E2_lo E2_pl E2_mo]) (w1 := [cX h_X h_M h_P h_E1 h_E2 h_E3 X_lo X_ro X_rc, cL h_M k_M 8 M_f]) hP hD [0, 1] [2, 3, 4] rfl rfl (by decide) (by decide) hk1 hFc hP1 hD1
  generalize H1 = H at hP hS ⊢
  have hP := hP.sub (ws' := [cX h_X h_M h_P h_E1 h_E2 h_E3 X_lo X_ro X_rc, cL h_M k_M 8 M_f, cI h_P k_P 8 P_f, cE h_E1 E1_sg E1_hi E1_lo E1_pl E1_mo, cE h_E2 E2_sg E2_hi E2_lo E2_pl E2_mo]) [3, 4, 0, 1, 2] rfl
  have hD := hD.sub (ws' := [cX h_X h_M h_P h_E1 h_E2 h_E3 X_lo X_ro X_rc, cL h_M k_M 8 M_f, cI h_P k_P 8 P_f, cE h_E1 E1_sg E1_hi E1_lo E1_pl E1_mo, cE h_E2 E2_sg E2_hi E2_lo E2_pl E2_mo]) [3, 4, 0, 1, 2] (by decide) rfl
  refine lv_if_ne (tgt := 14) hx hb d_X_add_9 (by decide) (fun c_9 => ?_) (fun c_9 => ?_)
  · replace hF := hif_f c_9 hF
    refine lv_aload_n hx hb d_X_add_14 rfl (lv_at hl 0 rfl) ?_
    refine va_get (D := (dC, dI)) (ci := 1) (v := .ref h_E1) (C := "RoundedNumbers") (T := F_X) (N := 8) hx hb hts in_X hown hK hP 0 rfl rfl 5 (by decide) (hts _ tw_48) (fun _ h9 => h9) rfl d_X_add_15 ?_
    refine lv_aload_n hx hb d_X_add_18 rfl (lv_at hl 0 rfl) ?_
    refine va_get (D := (dC, dI)) (ci := 1) (v := .ref h_M) (C := "RoundedNumbers") (T := F_X) (N := 8) hx hb hts in_X hown hK hP 0 rfl rfl 0 (by decide) (hts _ tw_43) (fun _ h9 => h9) rfl d_X_add_19 ?_
    refine lv_iload_n hx hb d_X_add_22 rfl (lv_at hl 2 rfl) ?_
    have c_23 : ¬ (a2 < 0 ∨ 8 ≤ a2.toNatClampNeg) := hif_n hF
    replace hF := hif_f c_23 hF
    refine va_lald hx hb hK hP 1 0 rfl rfl c_23 d_X_add_23 ?_
    refine lv_aload_n hx hb d_X_add_24 rfl (lv_at hl 0 rfl) ?_
    refine va_get (D := (dC, dI)) (ci := 1) (v := .ref h_P) (C := "RoundedNumbers") (T := F_X) (N := 8) hx hb hts in_X hown hK hP 0 rfl rfl 1 (by decide) (hts _ tw_44) (fun _ h9 => h9) rfl d_X_add_25 ?_
    refine lv_iload_n hx hb d_X_add_28 rfl (lv_at hl 2 rfl) ?_
    have c_29 : ¬ (a2 < 0 ∨ 8 ≤ a2.toNatClampNeg) := hif_n hF
    replace hF := hif_f c_29 hF
    refine va_iald hx hb hK hP 2 1 rfl rfl c_29 d_X_add_29 ?_
    obtain ⟨q_30, hC_30, hF⟩ := hbd hF
    have hPc := hP.sub (ws' := [cE h_E1 E1_sg E1_hi E1_lo E1_pl E1_mo]) [3] rfl
    have hDc := hD.sub (ws' := [cE h_E1 E1_sg E1_hi E1_lo E1_pl E1_mo]) [3] (by decide) rfl
    have hKc := hK.sub (tys' := []) [] rfl
    have hFc := va_free (wc := [cE h_E1 E1_sg E1_hi E1_lo E1_pl E1_mo]) hD hS hA [3] rfl
    refine va_callv (va_runV (As := [.long (M_f a2.toNatClampNeg), .int (P_f a2.toNatClampNeg)]) (rest := []) ⟨hx, hb, hml, hown, hts⟩ (c_E_hold l dC dI h_E1 H.size E1_sg E1_hi E1_lo E1_pl E1_mo (M_f a2.toNatClampNeg) (P_f a2.toNatClampNeg) q_30 hC_30) (cwV 2 hts g_X_54_E_hold rfl rfl rfl (by decide +kernel) ⟨Nat.le_of_ble_eq_true rfl, Nat.le_of_ble_eq_true rfl⟩) ⟨fun a U g mk q => by obtain ⟨q0, q1, qP, qK, qD⟩ := q; exact ⟨q0, q1, qP, va_K.moved (u := U) (U := U.calling g mk a) (Vm.Alike.refl U.vm) qK, qD⟩, va_recv hKc hPc (ci := 0) (q0 := 0) rfl rfl, fun U hU hW => ⟨rfl, by rw [hU], by rw [hU]; exact hPc, va_K.moved hW.alike hKc, hDc.weaken (fun _ _ _ _ => trivial)⟩⟩ rfl rfl hl.1 rfl (lv_room (Nat.le_of_ble_eq_true rfl)) d_X_add_30 ⟨Nat.zero_le _, Nat.zero_le _⟩) hS (fun q _ h => hFc q h) hFc (fun u t H1 locs ht hvm hw hB hz1 hk1 hS => ?_)
    obtain ⟨hP1, hK1, hD1⟩ := hB
    rw [ht] at hP1
    obtain ⟨hP, hD⟩ := va_join (wr := [cX h_X h_M h_P h_E1 h_E2 h_E3 X_lo X_ro X_rc, cL h_M k_M 8 M_f, cI h_P k_P 8 P_f, cE h_E2 E2_sg E2_hi E2_lo E2_pl E2_mo]) (w1 := [cE h_E1 q_30.1 q_30.2.1 q_30.2.2.1 q_30.2.2.2.1 q_30.2.2.2.2]) hP hD [3] [0, 1, 2, 4] rfl rfl (by decide) (by decide) hk1 hFc hP1 hD1
    generalize H1 = H at hP hS ⊢
    have hP := hP.sub (ws' := [cX h_X h_M h_P h_E1 h_E2 h_E3 X_lo X_ro X_rc, cL h_M k_M 8 M_f, cI h_P k_P 8 P_f, cE h_E1 q_30.1 q_30.2.1 q_30.2.2.1 q_30.2.2.2.1 q_30.2.2.2.2, cE h_E2 E2_sg E2_hi E2_lo E2_pl E2_mo]) [0, 1, 2, 4, 3] rfl
    have hD := hD.sub (ws' := [cX h_X h_M h_P h_E1 h_E2 h_E3 X_lo X_ro X_rc, cL h_M k_M 8 M_f, cI h_P k_P 8 P_f, cE h_E1 q_30.1 q_30.2.1 q_30.2.2.1 q_30.2.2.2.1 q_30.2.2.2.2, cE h_E2 E2_sg E2_hi E2_lo E2_pl E2_mo]) [0, 1, 2, 4, 3] (by decide) rfl
    refine lv_aload_n hx hb d_X_add_33 rfl (lv_at hl 0 rfl) ?_
    refine va_get (D := (dC, dI)) (ci := 1) (v := .ref h_E2) (C := "RoundedNumbers") (T := F_X) (N := 8) hx hb hts in_X hown hK hP 0 rfl rfl 6 (by decide) (hts _ tw_49) (fun _ h9 => h9) rfl d_X_add_34 ?_
    refine lv_aload_n hx hb d_X_add_37 rfl (lv_at hl 0 rfl) ?_
    refine va_get (D := (dC, dI)) (ci := 1) (v := .ref h_M) (C := "RoundedNumbers") (T := F_X) (N := 8) hx hb hts in_X hown hK hP 0 rfl rfl 0 (by decide) (hts _ tw_43) (fun _ h9 => h9) rfl d_X_add_38 ?_
    refine lv_iload_n hx hb d_X_add_41 rfl (lv_at hl 3 rfl) ?_
    have c_42 : ¬ (a3 < 0 ∨ 8 ≤ a3.toNatClampNeg) := hif_n hF
    replace hF := hif_f c_42 hF
    refine va_lald hx hb hK hP 1 0 rfl rfl c_42 d_X_add_42 ?_
    refine lv_aload_n hx hb d_X_add_43 rfl (lv_at hl 0 rfl) ?_
    refine va_get (D := (dC, dI)) (ci := 1) (v := .ref h_P) (C := "RoundedNumbers") (T := F_X) (N := 8) hx hb hts in_X hown hK hP 0 rfl rfl 1 (by decide) (hts _ tw_44) (fun _ h9 => h9) rfl d_X_add_44 ?_
    refine lv_iload_n hx hb d_X_add_47 rfl (lv_at hl 3 rfl) ?_
    have c_48 : ¬ (a3 < 0 ∨ 8 ≤ a3.toNatClampNeg) := hif_n hF
    replace hF := hif_f c_48 hF
    refine va_iald hx hb hK hP 2 1 rfl rfl c_48 d_X_add_48 ?_
    obtain ⟨q_49, hC_49, hF⟩ := hbd hF
    have hPc := hP.sub (ws' := [cE h_E2 E2_sg E2_hi E2_lo E2_pl E2_mo]) [4] rfl
    have hDc := hD.sub (ws' := [cE h_E2 E2_sg E2_hi E2_lo E2_pl E2_mo]) [4] (by decide) rfl
    have hKc := hK.sub (tys' := []) [] rfl
    have hFc := va_free (wc := [cE h_E2 E2_sg E2_hi E2_lo E2_pl E2_mo]) hD hS hA [4] rfl
    refine va_callv (va_runV (As := [.long (M_f a3.toNatClampNeg), .int (P_f a3.toNatClampNeg)]) (rest := []) ⟨hx, hb, hml, hown, hts⟩ (c_E_hold l dC dI h_E2 H.size E2_sg E2_hi E2_lo E2_pl E2_mo (M_f a3.toNatClampNeg) (P_f a3.toNatClampNeg) q_49 hC_49) (cwV 2 hts g_X_54_E_hold rfl rfl rfl (by decide +kernel) ⟨Nat.le_of_ble_eq_true rfl, Nat.le_of_ble_eq_true rfl⟩) ⟨fun a U g mk q => by obtain ⟨q0, q1, qP, qK, qD⟩ := q; exact ⟨q0, q1, qP, va_K.moved (u := U) (U := U.calling g mk a) (Vm.Alike.refl U.vm) qK, qD⟩, va_recv hKc hPc (ci := 0) (q0 := 0) rfl rfl, fun U hU hW => ⟨rfl, by rw [hU], by rw [hU]; exact hPc, va_K.moved hW.alike hKc, hDc.weaken (fun _ _ _ _ => trivial)⟩⟩ rfl rfl hl.1 rfl (lv_room (Nat.le_of_ble_eq_true rfl)) d_X_add_49 ⟨Nat.zero_le _, Nat.zero_le _⟩) hS (fun q _ h => hFc q h) hFc (fun u t H1 locs ht hvm hw hB hz1 hk1 hS => ?_)
    obtain ⟨hP1, hK1, hD1⟩ := hB
    rw [ht] at hP1
    obtain ⟨hP, hD⟩ := va_join (wr := [cX h_X h_M h_P h_E1 h_E2 h_E3 X_lo X_ro X_rc, cL h_M k_M 8 M_f, cI h_P k_P 8 P_f, cE h_E1 q_30.1 q_30.2.1 q_30.2.2.1 q_30.2.2.2.1 q_30.2.2.2.2]) (w1 := [cE h_E2 q_49.1 q_49.2.1 q_49.2.2.1 q_49.2.2.2.1 q_49.2.2.2.2]) hP hD [4] [0, 1, 2, 3] rfl rfl (by decide) (by decide) hk1 hFc hP1 hD1
    generalize H1 = H at hP hS ⊢
    have hP := hP.sub (ws' := [cX h_X h_M h_P h_E1 h_E2 h_E3 X_lo X_ro X_rc, cL h_M k_M 8 M_f, cI h_P k_P 8 P_f, cE h_E1 q_30.1 q_30.2.1 q_30.2.2.1 q_30.2.2.2.1 q_30.2.2.2.2, cE h_E2 q_49.1 q_49.2.1 q_49.2.2.1 q_49.2.2.2.1 q_49.2.2.2.2]) [0, 1, 2, 3, 4] rfl
    have hD := hD.sub (ws' := [cX h_X h_M h_P h_E1 h_E2 h_E3 X_lo X_ro X_rc, cL h_M k_M 8 M_f, cI h_P k_P 8 P_f, cE h_E1 q_30.1 q_30.2.1 q_30.2.2.1 q_30.2.2.2.1 q_30.2.2.2.2, cE h_E2 q_49.1 q_49.2.1 q_49.2.2.1 q_49.2.2.2.1 q_49.2.2.2.2]) [0, 1, 2, 3, 4] (by decide) rfl
    refine lv_aload_n hx hb d_X_add_52 rfl (lv_at hl 0 rfl) ?_
    refine lv_iload_n hx hb d_X_add_53 rfl (lv_at hl 1 rfl) ?_
    refine lv_aload_n hx hb d_X_add_54 rfl (lv_at hl 0 rfl) ?_
    refine va_get (D := (dC, dI)) (ci := 1) (v := .ref h_E1) (C := "RoundedNumbers") (T := F_X) (N := 8) hx hb hts in_X hown hK hP 0 rfl rfl 5 (by decide) (hts _ tw_48) (fun _ h9 => h9) rfl d_X_add_55 ?_
    refine lv_aload_n hx hb d_X_add_58 rfl (lv_at hl 0 rfl) ?_
    refine va_get (D := (dC, dI)) (ci := 1) (v := .ref h_E2) (C := "RoundedNumbers") (T := F_X) (N := 8) hx hb hts in_X hown hK hP 0 rfl rfl 6 (by decide) (hts _ tw_49) (fun _ h9 => h9) rfl d_X_add_59 ?_
    obtain ⟨q_62, hC_62, hF⟩ := hbd hF
    have hPc := hP.sub (ws' := [cE h_E1 q_30.1 q_30.2.1 q_30.2.2.1 q_30.2.2.2.1 q_30.2.2.2.2, cE h_E2 q_49.1 q_49.2.1 q_49.2.2.1 q_49.2.2.2.1 q_49.2.2.2.2]) [3, 4] rfl
    have hDc := hD.sub (ws' := [cE h_E1 q_30.1 q_30.2.1 q_30.2.2.1 q_30.2.2.2.1 q_30.2.2.2.2, cE h_E2 q_49.1 q_49.2.1 q_49.2.2.1 q_49.2.2.2.1 q_49.2.2.2.2]) [3, 4] (by decide) rfl
    have hKc := hK.sub (tys' := []) [] rfl
    have hFc := va_free (wc := [cE h_E1 q_30.1 q_30.2.1 q_30.2.2.1 q_30.2.2.2.1 q_30.2.2.2.2, cE h_E2 q_49.1 q_49.2.1 q_49.2.2.1 q_49.2.2.2.1 q_49.2.2.2.2]) hD hS hA [3, 4] rfl
    refine va_callr (va_runS (As := [.ref h_E1, .ref h_E2]) (rest := [.int a1, .ref h_X]) ⟨hx, hb, hml, hown, hts⟩ (c_E_sum l dC dI h_E1 h_E2 H.size q_30.1 q_30.2.1 q_30.2.2.1 q_30.2.2.2.1 q_30.2.2.2.2 q_49.1 q_49.2.1 q_49.2.2.1 q_49.2.2.2.1 q_49.2.2.2.2 q_62 hC_62) (va_cwS 2 hts g_X_58_E_sum rfl rfl rfl (by decide +kernel) ⟨Nat.le_of_ble_eq_true rfl, Nat.le_of_ble_eq_true rfl⟩) ⟨fun a U g mk q => by obtain ⟨q0, q1, qP, qK, qD⟩ := q; exact ⟨q0, q1, qP, va_K.moved (u := U) (U := U.calling g mk a) (Vm.Alike.refl U.vm) qK, qD⟩, fun U hU hW => ⟨rfl, by rw [hU], by rw [hU]; exact hPc, va_K.moved hW.alike hKc, hDc.weaken (fun _ _ _ _ => trivial)⟩⟩ rfl rfl hl.1 rfl (lv_room (Nat.le_of_ble_eq_true rfl)) d_X_add_62 ⟨Nat.zero_le _, Nat.zero_le _⟩) hS (fun q _ h => hFc q h) hFc (fun u ra t H1 locs ht hvm hw hB hz1 hk1 hS => ?_)
    obtain ⟨hra, hP1, hK1, hD1⟩ := hB
    rw [ht] at hP1
    obtain ⟨hP, hD⟩ := va_join (wr := [cX h_X h_M h_P h_E1 h_E2 h_E3 X_lo X_ro X_rc, cL h_M k_M 8 M_f, cI h_P k_P 8 P_f]) (w1 := [cE h_E1 q_62.2.1 q_62.2.2.1 q_62.2.2.2.1 q_62.2.2.2.2.1 q_62.2.2.2.2.2.1, cE h_E2 q_62.2.2.2.2.2.2.1 q_62.2.2.2.2.2.2.2.1 q_62.2.2.2.2.2.2.2.2.1 q_62.2.2.2.2.2.2.2.2.2.1 q_62.2.2.2.2.2.2.2.2.2.2]) hP hD [3, 4] [0, 1, 2] rfl rfl (by decide) (by decide) hk1 hFc hP1 hD1
    generalize H1 = H at hP hS ⊢
    have hP := hP.sub (ws' := [cX h_X h_M h_P h_E1 h_E2 h_E3 X_lo X_ro X_rc, cL h_M k_M 8 M_f, cI h_P k_P 8 P_f, cE h_E1 q_62.2.1 q_62.2.2.1 q_62.2.2.2.1 q_62.2.2.2.2.1 q_62.2.2.2.2.2.1, cE h_E2 q_62.2.2.2.2.2.2.1 q_62.2.2.2.2.2.2.2.1 q_62.2.2.2.2.2.2.2.2.1 q_62.2.2.2.2.2.2.2.2.2.1 q_62.2.2.2.2.2.2.2.2.2.2]) [0, 1, 2, 3, 4] rfl
    have hD := hD.sub (ws' := [cX h_X h_M h_P h_E1 h_E2 h_E3 X_lo X_ro X_rc, cL h_M k_M 8 M_f, cI h_P k_P 8 P_f, cE h_E1 q_62.2.1 q_62.2.2.1 q_62.2.2.2.1 q_62.2.2.2.2.1 q_62.2.2.2.2.2.1, cE h_E2 q_62.2.2.2.2.2.2.1 q_62.2.2.2.2.2.2.2.1 q_62.2.2.2.2.2.2.2.2.1 q_62.2.2.2.2.2.2.2.2.2.1 q_62.2.2.2.2.2.2.2.2.2.2]) [0, 1, 2, 3, 4] (by decide) rfl
    rcases Bool.eq_false_or_eq_true q_62.1 with hsel | hsel
    · obtain rfl := (hra.1 hsel).symm
      replace hF := hif_t hsel hF
      refine lv_iload hx hb d_X_add_65 (lv_at hl 4 rfl) ?_
      obtain ⟨q_67, hC_67, hF⟩ := hbd hF
      have hPc := hP.sub (ws' := [cX h_X h_M h_P h_E1 h_E2 h_E3 X_lo X_ro X_rc, cL h_M k_M 8 M_f, cI h_P k_P 8 P_f, cE h_E1 q_62.2.1 q_62.2.2.1 q_62.2.2.2.1 q_62.2.2.2.2.1 q_62.2.2.2.2.2.1]) [0, 1, 2, 3] rfl
      have hDc := hD.sub (ws' := [cX h_X h_M h_P h_E1 h_E2 h_E3 X_lo X_ro X_rc, cL h_M k_M 8 M_f, cI h_P k_P 8 P_f, cE h_E1 q_62.2.1 q_62.2.2.1 q_62.2.2.2.1 q_62.2.2.2.2.1 q_62.2.2.2.2.2.1]) [0, 1, 2, 3] (by decide) rfl
      have hKc := hK.sub (tys' := [(k_M, .long), (k_P, .int)]) [0, 1] rfl
      have hFc := va_free (wc := [cX h_X h_M h_P h_E1 h_E2 h_E3 X_lo X_ro X_rc, cL h_M k_M 8 M_f, cI h_P k_P 8 P_f, cE h_E1 q_62.2.1 q_62.2.2.1 q_62.2.2.2.1 q_62.2.2.2.2.1 q_62.2.2.2.2.2.1]) hD hS hA [0, 1, 2, 3] rfl
      refine va_calli (va_runV (As := [.int a1, .ref h_E1, .int a4]) (rest := []) ⟨hx, hb, hml, hown, hts⟩ (c_X_finish l dC dI h_X h_M h_P h_E1 h_E2 h_E3 h_E1 k_M k_P H.size X_lo X_ro X_rc M_f P_f q_62.2.1 q_62.2.2.1 q_62.2.2.2.1 q_62.2.2.2.2.1 q_62.2.2.2.2.2.1 a1 a4 q_67 hC_67) (cwV 3 hts g_X_62_X_finish rfl rfl rfl (by decide +kernel) ⟨Nat.le_of_ble_eq_true rfl, Nat.le_of_ble_eq_true rfl⟩) ⟨fun a U g mk q => by obtain ⟨q0, q1, qP, qK, qD⟩ := q; exact ⟨q0, q1, qP, va_K.moved (u := U) (U := U.calling g mk a) (Vm.Alike.refl U.vm) qK, qD⟩, va_recv hKc hPc (ci := 1) (q0 := 0) rfl rfl, fun U hU hW => ⟨rfl, by rw [hU], by rw [hU]; exact hPc, va_K.moved hW.alike hKc, hDc.weaken (fun _ _ _ _ => trivial)⟩⟩ rfl rfl hl.1 rfl (lv_room (Nat.le_of_ble_eq_true rfl)) d_X_add_67 ⟨Nat.zero_le _, Nat.zero_le _⟩) hS (fun q _ h => hFc q h) hFc (fun r u t H1 locs ht hvm hw hB hz1 hk1 hS => ?_)
      obtain ⟨hP1, hK1, hD1⟩ := hB
      replace hw := hw.symm
      subst hw
      rw [ht] at hP1
      obtain ⟨hP, hD⟩ := va_join (wr := [cE h_E2 q_62.2.2.2.2.2.2.1 q_62.2.2.2.2.2.2.2.1 q_62.2.2.2.2.2.2.2.2.1 q_62.2.2.2.2.2.2.2.2.2.1 q_62.2.2.2.2.2.2.2.2.2.2]) (w1 := [cX h_X h_M h_P h_E1 h_E2 h_E3 q_67.2.1 q_67.2.2.1 q_67.2.2.2.1, cL h_M k_M 8 q_67.2.2.2.2.1, cI h_P k_P 8 q_67.2.2.2.2.2.1, cE h_E1 q_62.2.1 q_67.2.2.2.2.2.2.1 q_67.2.2.2.2.2.2.2.1 q_67.2.2.2.2.2.2.2.2.1 q_67.2.2.2.2.2.2.2.2.2]) hP hD [0, 1, 2, 3] [4] rfl rfl (by decide) (by decide) hk1 hFc hP1 hD1
      generalize H1 = H at hP hS ⊢
      have hP := hP.sub (ws' := [cX h_X h_M h_P h_E1 h_E2 h_E3 q_67.2.1 q_67.2.2.1 q_67.2.2.2.1, cL h_M k_M 8 q_67.2.2.2.2.1, cI h_P k_P 8 q_67.2.2.2.2.2.1, cE h_E1 q_62.2.1 q_67.2.2.2.2.2.2.1 q_67.2.2.2.2.2.2.2.1 q_67.2.2.2.2.2.2.2.2.1 q_67.2.2.2.2.2.2.2.2.2, cE h_E2 q_62.2.2.2.2.2.2.1 q_62.2.2.2.2.2.2.2.1 q_62.2.2.2.2.2.2.2.2.1 q_62.2.2.2.2.2.2.2.2.2.1 q_62.2.2.2.2.2.2.2.2.2.2]) [1, 2, 3, 4, 0] rfl
      have hD := hD.sub (ws' := [cX h_X h_M h_P h_E1 h_E2 h_E3 q_67.2.1 q_67.2.2.1 q_67.2.2.2.1, cL h_M k_M 8 q_67.2.2.2.2.1, cI h_P k_P 8 q_67.2.2.2.2.2.1, cE h_E1 q_62.2.1 q_67.2.2.2.2.2.2.1 q_67.2.2.2.2.2.2.2.1 q_67.2.2.2.2.2.2.2.2.1 q_67.2.2.2.2.2.2.2.2.2, cE h_E2 q_62.2.2.2.2.2.2.1 q_62.2.2.2.2.2.2.2.1 q_62.2.2.2.2.2.2.2.2.1 q_62.2.2.2.2.2.2.2.2.2.1 q_62.2.2.2.2.2.2.2.2.2.2]) [1, 2, 3, 4, 0] (by decide) rfl
      obtain rfl := Option.some.inj hF
      exact W.iret (v := q_67.1) hx hb hr (fun t ht hW => ⟨⟨q_67.1, (), rfl, rfl, by rw [ht]; exact hP, va_K.moved hW.alike hK, hD⟩, hS.F ht⟩) hS.2.2 d_X_add_70
    · obtain rfl := (hra.2 hsel).symm
      replace hF := hif_f (by rw [hsel]; decide) hF
      refine lv_iload hx hb d_X_add_65 (lv_at hl 4 rfl) ?_
      obtain ⟨q_67, hC_67, hF⟩ := hbd hF
      have hPc := hP.sub (ws' := [cX h_X h_M h_P h_E1 h_E2 h_E3 X_lo X_ro X_rc, cL h_M k_M 8 M_f, cI h_P k_P 8 P_f, cE h_E2 q_62.2.2.2.2.2.2.1 q_62.2.2.2.2.2.2.2.1 q_62.2.2.2.2.2.2.2.2.1 q_62.2.2.2.2.2.2.2.2.2.1 q_62.2.2.2.2.2.2.2.2.2.2]) [0, 1, 2, 4] rfl
      have hDc := hD.sub (ws' := [cX h_X h_M h_P h_E1 h_E2 h_E3 X_lo X_ro X_rc, cL h_M k_M 8 M_f, cI h_P k_P 8 P_f, cE h_E2 q_62.2.2.2.2.2.2.1 q_62.2.2.2.2.2.2.2.1 q_62.2.2.2.2.2.2.2.2.1 q_62.2.2.2.2.2.2.2.2.2.1 q_62.2.2.2.2.2.2.2.2.2.2]) [0, 1, 2, 4] (by decide) rfl
      have hKc := hK.sub (tys' := [(k_M, .long), (k_P, .int)]) [0, 1] rfl
      have hFc := va_free (wc := [cX h_X h_M h_P h_E1 h_E2 h_E3 X_lo X_ro X_rc, cL h_M k_M 8 M_f, cI h_P k_P 8 P_f, cE h_E2 q_62.2.2.2.2.2.2.1 q_62.2.2.2.2.2.2.2.1 q_62.2.2.2.2.2.2.2.2.1 q_62.2.2.2.2.2.2.2.2.2.1 q_62.2.2.2.2.2.2.2.2.2.2]) hD hS hA [0, 1, 2, 4] rfl
      refine va_calli (va_runV (As := [.int a1, .ref h_E2, .int a4]) (rest := []) ⟨hx, hb, hml, hown, hts⟩ (c_X_finish l dC dI h_X h_M h_P h_E1 h_E2 h_E3 h_E2 k_M k_P H.size X_lo X_ro X_rc M_f P_f q_62.2.2.2.2.2.2.1 q_62.2.2.2.2.2.2.2.1 q_62.2.2.2.2.2.2.2.2.1 q_62.2.2.2.2.2.2.2.2.2.1 q_62.2.2.2.2.2.2.2.2.2.2 a1 a4 q_67 hC_67) (cwV 3 hts g_X_62_X_finish rfl rfl rfl (by decide +kernel) ⟨Nat.le_of_ble_eq_true rfl, Nat.le_of_ble_eq_true rfl⟩) ⟨fun a U g mk q => by obtain ⟨q0, q1, qP, qK, qD⟩ := q; exact ⟨q0, q1, qP, va_K.moved (u := U) (U := U.calling g mk a) (Vm.Alike.refl U.vm) qK, qD⟩, va_recv hKc hPc (ci := 1) (q0 := 0) rfl rfl, fun U hU hW => ⟨rfl, by rw [hU], by rw [hU]; exact hPc, va_K.moved hW.alike hKc, hDc.weaken (fun _ _ _ _ => trivial)⟩⟩ rfl rfl hl.1 rfl (lv_room (Nat.le_of_ble_eq_true rfl)) d_X_add_67 ⟨Nat.zero_le _, Nat.zero_le _⟩) hS (fun q _ h => hFc q h) hFc (fun r u t H1 locs ht hvm hw hB hz1 hk1 hS => ?_)
      obtain ⟨hP1, hK1, hD1⟩ := hB
      replace hw := hw.symm
      subst hw
      rw [ht] at hP1
      obtain ⟨hP, hD⟩ := va_join (wr := [cE h_E1 q_62.2.1 q_62.2.2.1 q_62.2.2.2.1 q_62.2.2.2.2.1 q_62.2.2.2.2.2.1]) (w1 := [cX h_X h_M h_P h_E1 h_E2 h_E3 q_67.2.1 q_67.2.2.1 q_67.2.2.2.1, cL h_M k_M 8 q_67.2.2.2.2.1, cI h_P k_P 8 q_67.2.2.2.2.2.1, cE h_E2 q_62.2.2.2.2.2.2.1 q_67.2.2.2.2.2.2.1 q_67.2.2.2.2.2.2.2.1 q_67.2.2.2.2.2.2.2.2.1 q_67.2.2.2.2.2.2.2.2.2]) hP hD [0, 1, 2, 4] [3] rfl rfl (by decide) (by decide) hk1 hFc hP1 hD1
      generalize H1 = H at hP hS ⊢
      have hP := hP.sub (ws' := [cX h_X h_M h_P h_E1 h_E2 h_E3 q_67.2.1 q_67.2.2.1 q_67.2.2.2.1, cL h_M k_M 8 q_67.2.2.2.2.1, cI h_P k_P 8 q_67.2.2.2.2.2.1, cE h_E1 q_62.2.1 q_62.2.2.1 q_62.2.2.2.1 q_62.2.2.2.2.1 q_62.2.2.2.2.2.1, cE h_E2 q_62.2.2.2.2.2.2.1 q_67.2.2.2.2.2.2.1 q_67.2.2.2.2.2.2.2.1 q_67.2.2.2.2.2.2.2.2.1 q_67.2.2.2.2.2.2.2.2.2]) [1, 2, 3, 0, 4] rfl
      have hD := hD.sub (ws' := [cX h_X h_M h_P h_E1 h_E2 h_E3 q_67.2.1 q_67.2.2.1 q_67.2.2.2.1, cL h_M k_M 8 q_67.2.2.2.2.1, cI h_P k_P 8 q_67.2.2.2.2.2.1, cE h_E1 q_62.2.1 q_62.2.2.1 q_62.2.2.2.1 q_62.2.2.2.2.1 q_62.2.2.2.2.2.1, cE h_E2 q_62.2.2.2.2.2.2.1 q_67.2.2.2.2.2.2.1 q_67.2.2.2.2.2.2.2.1 q_67.2.2.2.2.2.2.2.2.1 q_67.2.2.2.2.2.2.2.2.2]) [1, 2, 3, 0, 4] (by decide) rfl
      obtain rfl := Option.some.inj hF
      exact W.iret (v := q_67.1) hx hb hr (fun t ht hW => ⟨⟨q_67.1, (), rfl, rfl, by rw [ht]; exact hP, va_K.moved hW.alike hK, hD⟩, hS.F ht⟩) hS.2.2 d_X_add_70
  · replace hF := hif_t c_9 hF
    refine lv_iconst (v := (-1 : Int32)) hx hb d_X_add_12 (by decide) ?_
    obtain rfl := Option.some.inj hF
    exact W.iret (v := (-1 : Int32)) hx hb hr (fun t ht hW => ⟨⟨(-1 : Int32), (), rfl, rfl, by rw [ht]; exact hP, va_K.moved hW.alike hK, hD⟩, hS.F ht⟩) hS.2.2 d_X_add_13
set_option maxHeartbeats 4000000 in
set_option maxRecDepth 100000 in
theorem c_X_subtract (l : Launch) (dC : Nat → ClassId) (dI : Nat → Nat → Nat) (h_X : Nat) (h_M : Nat) (h_P : Nat) (h_E1 : Nat) (h_E2 : Nat) (h_E3 : Nat) (k_M : ClassId) (k_P : ClassId) (sz : Nat) (X_lo : Int32) (X_ro : Int32) (X_rc : Int32) (M_f : Nat → Int64) (P_f : Nat → Int32) (E1_sg : Int32) (E1_hi : Int64) (E1_lo : Int64) (E1_pl : Int32) (E1_mo : Int32) (E2_sg : Int32) (E2_hi : Int64) (E2_lo : Int64) (E2_pl : Int32) (E2_mo : Int32) (a1 : Int32) (a2 : Int32) (a3 : Int32) (a4 : Int32) (o : Int32 × Int32 × Int32 × Int32 × (Nat → Int64) × (Nat → Int32) × Int32 × Int64 × Int64 × Int32 × Int32 × Int32 × Int64 × Int64 × Int32 × Int32) (hF : f_X_subtract X_lo X_ro X_rc M_f P_f E1_sg E1_hi E1_lo E1_pl E1_mo E2_sg E2_hi E2_lo E2_pl E2_mo a1 a2 a3 a4 = some o) : Met l y_X_subtract w_X_subtract ({ frames := 6, cells := 0, slots := 0, locals := 142 } : Room) (va_Pc [.ref h_X, .int a1, .int a2, .int a3, .int a4] (fun U => U.heap.size = sz ∧ va_P (dC, dI) classes [cX h_X h_M h_P h_E1 h_E2 h_E3 X_lo X_ro X_rc, cL h_M k_M 8 M_f, cI h_P k_P 8 P_f, cE h_E1 E1_sg E1_hi E1_lo E1_pl E1_mo, cE h_E2 E2_sg E2_hi E2_lo E2_pl E2_mo] U.heap ∧ va_K (dC, dI) classes [(k_M, .long), (k_P, .int)] U ∧ va_D (fun _ => True) [cX h_X h_M h_P h_E1 h_E2 h_E3 X_lo X_ro X_rc, cL h_M k_M 8 M_f, cI h_P k_P 8 P_f, cE h_E1 E1_sg E1_hi E1_lo E1_pl E1_mo, cE h_E2 E2_sg E2_hi E2_lo E2_pl E2_mo])) (va_Qi (fun (r : Int32) (_ : Unit) => r = o.1) (fun (_ : Unit) (t : State) => va_P (dC, dI) classes [cX h_X h_M h_P h_E1 h_E2 h_E3 o.2.1 o.2.2.1 o.2.2.2.1, cL h_M k_M 8 o.2.2.2.2.1, cI h_P k_P 8 o.2.2.2.2.2.1, cE h_E1 o.2.2.2.2.2.2.1 o.2.2.2.2.2.2.2.1 o.2.2.2.2.2.2.2.2.1 o.2.2.2.2.2.2.2.2.2.1 o.2.2.2.2.2.2.2.2.2.2.1, cE h_E2 o.2.2.2.2.2.2.2.2.2.2.2.1 o.2.2.2.2.2.2.2.2.2.2.2.2.1 o.2.2.2.2.2.2.2.2.2.2.2.2.2.1 o.2.2.2.2.2.2.2.2.2.2.2.2.2.2.1 o.2.2.2.2.2.2.2.2.2.2.2.2.2.2.2] t.heap ∧ va_K (dC, dI) classes [(k_M, .long), (k_P, .int)] t ∧ va_D (va_A [cX h_X h_M h_P h_E1 h_E2 h_E3 X_lo X_ro X_rc, cL h_M k_M 8 M_f, cI h_P k_P 8 P_f, cE h_E1 E1_sg E1_hi E1_lo E1_pl E1_mo, cE h_E2 E2_sg E2_hi E2_lo E2_pl E2_mo] sz) [cX h_X h_M h_P h_E1 h_E2 h_E3 o.2.1 o.2.2.1 o.2.2.2.1, cL h_M k_M 8 o.2.2.2.2.1, cI h_P k_P 8 o.2.2.2.2.2.1, cE h_E1 o.2.2.2.2.2.2.1 o.2.2.2.2.2.2.2.1 o.2.2.2.2.2.2.2.2.1 o.2.2.2.2.2.2.2.2.2.1 o.2.2.2.2.2.2.2.2.2.2.1, cE h_E2 o.2.2.2.2.2.2.2.2.2.2.2.1 o.2.2.2.2.2.2.2.2.2.2.2.2.1 o.2.2.2.2.2.2.2.2.2.2.2.2.2.1 o.2.2.2.2.2.2.2.2.2.2.2.2.2.2.1 o.2.2.2.2.2.2.2.2.2.2.2.2.2.2.2]) (va_A [cX h_X h_M h_P h_E1 h_E2 h_E3 X_lo X_ro X_rc, cL h_M k_M 8 M_f, cI h_P k_P 8 P_f, cE h_E1 E1_sg E1_hi E1_lo E1_pl E1_mo, cE h_E2 E2_sg E2_hi E2_lo E2_pl E2_mo] sz)) 0 0 (va_A [cX h_X h_M h_P h_E1 h_E2 h_E3 X_lo X_ro X_rc, cL h_M k_M 8 M_f, cI h_P k_P 8 P_f, cE h_E1 E1_sg E1_hi E1_lo E1_pl E1_mo, cE h_E2 E2_sg E2_hi E2_lo E2_pl E2_mo] sz) := by
  refine Met.ofW (cc := prog_1_method_4_code) (maxL := 5) (ret := (some .int)) (by decide) rfl ?_
  intro p e s m args below meth c s₁ B hml hv
  obtain ⟨rfl, hsz, hP, hK, hD0⟩ := hv
  have hx := B.exec
  have hb := B.bytes
  have hr := B.returns
  have hts0 := atoms_spec (ws := w_X_subtract) B.pre
  have hts : ∀ w ∈ tb, w.before _ s = true := fun w h => hts0 w (List.mem_cons_of_mem _ h)
  clear hts0
  have hown : s.vm.findClass "RoundedNumbers" = some m.cls := findClass_of_methodNamed B.named
  have hlocks := B.notSynchronized
  subst hsz
  have hD := hD0.self (sz := s.heap.size)
  generalize hAe : va_A [cX h_X h_M h_P h_E1 h_E2 h_E3 X_lo X_ro X_rc, cL h_M k_M 8 M_f, cI h_P k_P 8 P_f, cE h_E1 E1_sg E1_hi E1_lo E1_pl E1_mo, cE h_E2 E2_sg E2_hi E2_lo E2_pl E2_mo] s.heap.size = A at hD ⊢
  have hA : ∀ q : Nat, s.heap.size ≤ q → A q := fun q h => by rw [← hAe]; exact Or.inr h
  clear hAe
  have hS : va_S A s.heap s.heap [] := va_S.rf
  have hP : va_P (dC, dI) classes [cX h_X h_M h_P h_E1 h_E2 h_E3 X_lo X_ro X_rc, cL h_M k_M 8 M_f, cI h_P k_P 8 P_f, cE h_E1 E1_sg E1_hi E1_lo E1_pl E1_mo, cE h_E2 E2_sg E2_hi E2_lo E2_pl E2_mo] s.heap := hP
  have hl := lv_entry ([.ref h_X, .int a1, .int a2, .int a3, .int a4]) (n := 5) (Nat.le_of_ble_eq_true rfl)
  rw [lg_entry_eq]
  generalize (lg_sl ([.ref h_X, .int a1, .int a2, .int a3, .int a4]) ++ List.replicate (5 - (lg_sl ([.ref h_X, .int a1, .int a2, .int a3, .int a4])).length) Slot.unset).toArray = ls at hl ⊢
  have hl : lv_has ls 5 [(0, .ref h_X), (1, .int a1), (2, .int a2), (3, .int a3), (4, .int a4)] := hl
  unfold f_X_subtract at hF
  refine lv_aload_n hx hb d_X_subtract_0 rfl (lv_at hl 0 rfl) ?_
  refine lv_iload_n hx hb d_X_subtract_1 rfl (lv_at hl 1 rfl) ?_
  refine lv_iload_n hx hb d_X_subtract_2 rfl (lv_at hl 2 rfl) ?_
  refine lv_iload_n hx hb d_X_subtract_3 rfl (lv_at hl 3 rfl) ?_
  refine lv_iload hx hb d_X_subtract_4 (lv_at hl 4 rfl) ?_
  obtain ⟨q_6, hC_6, hF⟩ := hbd hF
  have hPc := hP.sub (ws' := [cX h_X h_M h_P h_E1 h_E2 h_E3 X_lo X_ro X_rc, cL h_M k_M 8 M_f]) [0, 1] rfl
  have hDc := hD.sub (ws' := [cX h_X h_M h_P h_E1 h_E2 h_E3 X_lo X_ro X_rc, cL h_M k_M 8 M_f]) [0, 1] (by decide) rfl
  have hKc := hK.sub (tys' := [(k_M, .long)]) [0] rfl
  have hFc := va_free (wc := [cX h_X h_M h_P h_E1 h_E2 h_E3 X_lo X_ro X_rc, cL h_M k_M 8 M_f]) hD hS hA [0, 1] rfl
  refine va_calli (va_runV (As := [.int a1, .int a2, .int a3, .int a4]) (rest := []) ⟨hx, hb, hml, hown, hts⟩ (c_X_mayTake l dC dI h_X h_M h_P h_E1 h_E2 h_E3 k_M s.heap.size X_lo X_ro X_rc M_f a1 a2 a3 a4 q_6 hC_6) (cwV 4 hts g_X_50_X_mayTake rfl rfl rfl (by decide +kernel) ⟨Nat.le_of_ble_eq_true rfl, Nat.le_of_ble_eq_true rfl⟩) ⟨fun a U g mk q => by obtain ⟨q0, q1, qP, qK, qD⟩ := q; exact ⟨q0, q1, qP, va_K.moved (u := U) (U := U.calling g mk a) (Vm.Alike.refl U.vm) qK, qD⟩, va_recv hKc hPc (ci := 1) (q0 := 0) rfl rfl, fun U hU hW => ⟨rfl, by rw [hU], by rw [hU]; exact hPc, va_K.moved hW.alike hKc, hDc.weaken (fun _ _ _ _ => trivial)⟩⟩ rfl rfl hl.1 rfl (lv_room (Nat.le_of_ble_eq_true rfl)) d_X_subtract_6 ⟨Nat.zero_le _, Nat.zero_le _⟩) hS (fun q _ h => hFc q h) hFc (fun r u t H1 locs ht hvm hw hB hz1 hk1 hS => ?_)
  obtain ⟨hP1, hK1, hD1⟩ := hB
  replace hw := hw.symm
  subst hw
  rw [ht] at hP1
  obtain ⟨hP, hD⟩ := va_join (wr := [cI h_P k_P 8 P_f, cE h_E1 E1_sg E1_hi E1_lo E1_pl E1_mo, cE h_E2 E2_sg E2_hi E2_lo E2_pl E2_mo]) (w1 := [cX h_X h_M h_P h_E1 h_E2 h_E3 X_lo X_ro X_rc, cL h_M k_M 8 M_f]) hP hD [0, 1] [2, 3, 4] rfl rfl (by decide) (by decide) hk1 hFc hP1 hD1
  generalize H1 = H at hP hS ⊢
  have hP := hP.sub (ws' := [cX h_X h_M h_P h_E1 h_E2 h_E3 X_lo X_ro X_rc, cL h_M k_M 8 M_f, cI h_P k_P 8 P_f, cE h_E1 E1_sg E1_hi E1_lo E1_pl E1_mo, cE h_E2 E2_sg E2_hi E2_lo E2_pl E2_mo]) [3, 4, 0, 1, 2] rfl
  have hD := hD.sub (ws' := [cX h_X h_M h_P h_E1 h_E2 h_E3 X_lo X_ro X_rc, cL h_M k_M 8 M_f, cI h_P k_P 8 P_f, cE h_E1 E1_sg E1_hi E1_lo E1_pl E1_mo, cE h_E2 E2_sg E2_hi E2_lo E2_pl E2_mo]) [3, 4, 0, 1, 2] (by decide) rfl
  refine lv_if_ne (tgt := 14) hx hb d_X_subtract_9 (by decide) (fun c_9 => ?_) (fun c_9 => ?_)
  · replace hF := hif_f c_9 hF
    refine lv_aload_n hx hb d_X_subtract_14 rfl (lv_at hl 0 rfl) ?_
    refine va_get (D := (dC, dI)) (ci := 1) (v := .ref h_E1) (C := "RoundedNumbers") (T := F_X) (N := 8) hx hb hts in_X hown hK hP 0 rfl rfl 5 (by decide) (hts _ tw_48) (fun _ h9 => h9) rfl d_X_subtract_15 ?_
    refine lv_aload_n hx hb d_X_subtract_18 rfl (lv_at hl 0 rfl) ?_
    refine va_get (D := (dC, dI)) (ci := 1) (v := .ref h_M) (C := "RoundedNumbers") (T := F_X) (N := 8) hx hb hts in_X hown hK hP 0 rfl rfl 0 (by decide) (hts _ tw_43) (fun _ h9 => h9) rfl d_X_subtract_19 ?_
    refine lv_iload_n hx hb d_X_subtract_22 rfl (lv_at hl 2 rfl) ?_
    have c_23 : ¬ (a2 < 0 ∨ 8 ≤ a2.toNatClampNeg) := hif_n hF
    replace hF := hif_f c_23 hF
    refine va_lald hx hb hK hP 1 0 rfl rfl c_23 d_X_subtract_23 ?_
    refine lv_aload_n hx hb d_X_subtract_24 rfl (lv_at hl 0 rfl) ?_
    refine va_get (D := (dC, dI)) (ci := 1) (v := .ref h_P) (C := "RoundedNumbers") (T := F_X) (N := 8) hx hb hts in_X hown hK hP 0 rfl rfl 1 (by decide) (hts _ tw_44) (fun _ h9 => h9) rfl d_X_subtract_25 ?_
    refine lv_iload_n hx hb d_X_subtract_28 rfl (lv_at hl 2 rfl) ?_
    have c_29 : ¬ (a2 < 0 ∨ 8 ≤ a2.toNatClampNeg) := hif_n hF
    replace hF := hif_f c_29 hF
    refine va_iald hx hb hK hP 2 1 rfl rfl c_29 d_X_subtract_29 ?_
    obtain ⟨q_30, hC_30, hF⟩ := hbd hF
    have hPc := hP.sub (ws' := [cE h_E1 E1_sg E1_hi E1_lo E1_pl E1_mo]) [3] rfl
    have hDc := hD.sub (ws' := [cE h_E1 E1_sg E1_hi E1_lo E1_pl E1_mo]) [3] (by decide) rfl
    have hKc := hK.sub (tys' := []) [] rfl
    have hFc := va_free (wc := [cE h_E1 E1_sg E1_hi E1_lo E1_pl E1_mo]) hD hS hA [3] rfl
    refine va_callv (va_runV (As := [.long (M_f a2.toNatClampNeg), .int (P_f a2.toNatClampNeg)]) (rest := []) ⟨hx, hb, hml, hown, hts⟩ (c_E_hold l dC dI h_E1 H.size E1_sg E1_hi E1_lo E1_pl E1_mo (M_f a2.toNatClampNeg) (P_f a2.toNatClampNeg) q_30 hC_30) (cwV 2 hts g_X_54_E_hold rfl rfl rfl (by decide +kernel) ⟨Nat.le_of_ble_eq_true rfl, Nat.le_of_ble_eq_true rfl⟩) ⟨fun a U g mk q => by obtain ⟨q0, q1, qP, qK, qD⟩ := q; exact ⟨q0, q1, qP, va_K.moved (u := U) (U := U.calling g mk a) (Vm.Alike.refl U.vm) qK, qD⟩, va_recv hKc hPc (ci := 0) (q0 := 0) rfl rfl, fun U hU hW => ⟨rfl, by rw [hU], by rw [hU]; exact hPc, va_K.moved hW.alike hKc, hDc.weaken (fun _ _ _ _ => trivial)⟩⟩ rfl rfl hl.1 rfl (lv_room (Nat.le_of_ble_eq_true rfl)) d_X_subtract_30 ⟨Nat.zero_le _, Nat.zero_le _⟩) hS (fun q _ h => hFc q h) hFc (fun u t H1 locs ht hvm hw hB hz1 hk1 hS => ?_)
    obtain ⟨hP1, hK1, hD1⟩ := hB
    rw [ht] at hP1
    obtain ⟨hP, hD⟩ := va_join (wr := [cX h_X h_M h_P h_E1 h_E2 h_E3 X_lo X_ro X_rc, cL h_M k_M 8 M_f, cI h_P k_P 8 P_f, cE h_E2 E2_sg E2_hi E2_lo E2_pl E2_mo]) (w1 := [cE h_E1 q_30.1 q_30.2.1 q_30.2.2.1 q_30.2.2.2.1 q_30.2.2.2.2]) hP hD [3] [0, 1, 2, 4] rfl rfl (by decide) (by decide) hk1 hFc hP1 hD1
    generalize H1 = H at hP hS ⊢
    have hP := hP.sub (ws' := [cX h_X h_M h_P h_E1 h_E2 h_E3 X_lo X_ro X_rc, cL h_M k_M 8 M_f, cI h_P k_P 8 P_f, cE h_E1 q_30.1 q_30.2.1 q_30.2.2.1 q_30.2.2.2.1 q_30.2.2.2.2, cE h_E2 E2_sg E2_hi E2_lo E2_pl E2_mo]) [0, 1, 2, 4, 3] rfl
    have hD := hD.sub (ws' := [cX h_X h_M h_P h_E1 h_E2 h_E3 X_lo X_ro X_rc, cL h_M k_M 8 M_f, cI h_P k_P 8 P_f, cE h_E1 q_30.1 q_30.2.1 q_30.2.2.1 q_30.2.2.2.1 q_30.2.2.2.2, cE h_E2 E2_sg E2_hi E2_lo E2_pl E2_mo]) [0, 1, 2, 4, 3] (by decide) rfl
    refine lv_aload_n hx hb d_X_subtract_33 rfl (lv_at hl 0 rfl) ?_
    refine va_get (D := (dC, dI)) (ci := 1) (v := .ref h_E2) (C := "RoundedNumbers") (T := F_X) (N := 8) hx hb hts in_X hown hK hP 0 rfl rfl 6 (by decide) (hts _ tw_49) (fun _ h9 => h9) rfl d_X_subtract_34 ?_
    refine lv_aload_n hx hb d_X_subtract_37 rfl (lv_at hl 0 rfl) ?_
    refine va_get (D := (dC, dI)) (ci := 1) (v := .ref h_M) (C := "RoundedNumbers") (T := F_X) (N := 8) hx hb hts in_X hown hK hP 0 rfl rfl 0 (by decide) (hts _ tw_43) (fun _ h9 => h9) rfl d_X_subtract_38 ?_
    refine lv_iload_n hx hb d_X_subtract_41 rfl (lv_at hl 3 rfl) ?_
    have c_42 : ¬ (a3 < 0 ∨ 8 ≤ a3.toNatClampNeg) := hif_n hF
    replace hF := hif_f c_42 hF
    refine va_lald hx hb hK hP 1 0 rfl rfl c_42 d_X_subtract_42 ?_
    refine lv_lneg hx hb d_X_subtract_43 ?_
    refine lv_aload_n hx hb d_X_subtract_44 rfl (lv_at hl 0 rfl) ?_
    refine va_get (D := (dC, dI)) (ci := 1) (v := .ref h_P) (C := "RoundedNumbers") (T := F_X) (N := 8) hx hb hts in_X hown hK hP 0 rfl rfl 1 (by decide) (hts _ tw_44) (fun _ h9 => h9) rfl d_X_subtract_45 ?_
    refine lv_iload_n hx hb d_X_subtract_48 rfl (lv_at hl 3 rfl) ?_
    have c_49 : ¬ (a3 < 0 ∨ 8 ≤ a3.toNatClampNeg) := hif_n hF
    replace hF := hif_f c_49 hF
    refine va_iald hx hb hK hP 2 1 rfl rfl c_49 d_X_subtract_49 ?_
    obtain ⟨q_50, hC_50, hF⟩ := hbd hF
    have hPc := hP.sub (ws' := [cE h_E2 E2_sg E2_hi E2_lo E2_pl E2_mo]) [4] rfl
    have hDc := hD.sub (ws' := [cE h_E2 E2_sg E2_hi E2_lo E2_pl E2_mo]) [4] (by decide) rfl
    have hKc := hK.sub (tys' := []) [] rfl
    have hFc := va_free (wc := [cE h_E2 E2_sg E2_hi E2_lo E2_pl E2_mo]) hD hS hA [4] rfl
    refine va_callv (va_runV (As := [.long (-(M_f a3.toNatClampNeg)), .int (P_f a3.toNatClampNeg)]) (rest := []) ⟨hx, hb, hml, hown, hts⟩ (c_E_hold l dC dI h_E2 H.size E2_sg E2_hi E2_lo E2_pl E2_mo (-(M_f a3.toNatClampNeg)) (P_f a3.toNatClampNeg) q_50 hC_50) (cwV 2 hts g_X_54_E_hold rfl rfl rfl (by decide +kernel) ⟨Nat.le_of_ble_eq_true rfl, Nat.le_of_ble_eq_true rfl⟩) ⟨fun a U g mk q => by obtain ⟨q0, q1, qP, qK, qD⟩ := q; exact ⟨q0, q1, qP, va_K.moved (u := U) (U := U.calling g mk a) (Vm.Alike.refl U.vm) qK, qD⟩, va_recv hKc hPc (ci := 0) (q0 := 0) rfl rfl, fun U hU hW => ⟨rfl, by rw [hU], by rw [hU]; exact hPc, va_K.moved hW.alike hKc, hDc.weaken (fun _ _ _ _ => trivial)⟩⟩ rfl rfl hl.1 rfl (lv_room (Nat.le_of_ble_eq_true rfl)) d_X_subtract_50 ⟨Nat.zero_le _, Nat.zero_le _⟩) hS (fun q _ h => hFc q h) hFc (fun u t H1 locs ht hvm hw hB hz1 hk1 hS => ?_)
    obtain ⟨hP1, hK1, hD1⟩ := hB
    rw [ht] at hP1
    obtain ⟨hP, hD⟩ := va_join (wr := [cX h_X h_M h_P h_E1 h_E2 h_E3 X_lo X_ro X_rc, cL h_M k_M 8 M_f, cI h_P k_P 8 P_f, cE h_E1 q_30.1 q_30.2.1 q_30.2.2.1 q_30.2.2.2.1 q_30.2.2.2.2]) (w1 := [cE h_E2 q_50.1 q_50.2.1 q_50.2.2.1 q_50.2.2.2.1 q_50.2.2.2.2]) hP hD [4] [0, 1, 2, 3] rfl rfl (by decide) (by decide) hk1 hFc hP1 hD1
    generalize H1 = H at hP hS ⊢
    have hP := hP.sub (ws' := [cX h_X h_M h_P h_E1 h_E2 h_E3 X_lo X_ro X_rc, cL h_M k_M 8 M_f, cI h_P k_P 8 P_f, cE h_E1 q_30.1 q_30.2.1 q_30.2.2.1 q_30.2.2.2.1 q_30.2.2.2.2, cE h_E2 q_50.1 q_50.2.1 q_50.2.2.1 q_50.2.2.2.1 q_50.2.2.2.2]) [0, 1, 2, 3, 4] rfl
    have hD := hD.sub (ws' := [cX h_X h_M h_P h_E1 h_E2 h_E3 X_lo X_ro X_rc, cL h_M k_M 8 M_f, cI h_P k_P 8 P_f, cE h_E1 q_30.1 q_30.2.1 q_30.2.2.1 q_30.2.2.2.1 q_30.2.2.2.2, cE h_E2 q_50.1 q_50.2.1 q_50.2.2.1 q_50.2.2.2.1 q_50.2.2.2.2]) [0, 1, 2, 3, 4] (by decide) rfl
    refine lv_aload_n hx hb d_X_subtract_53 rfl (lv_at hl 0 rfl) ?_
    refine lv_iload_n hx hb d_X_subtract_54 rfl (lv_at hl 1 rfl) ?_
    refine lv_aload_n hx hb d_X_subtract_55 rfl (lv_at hl 0 rfl) ?_
    refine va_get (D := (dC, dI)) (ci := 1) (v := .ref h_E1) (C := "RoundedNumbers") (T := F_X) (N := 8) hx hb hts in_X hown hK hP 0 rfl rfl 5 (by decide) (hts _ tw_48) (fun _ h9 => h9) rfl d_X_subtract_56 ?_
    refine lv_aload_n hx hb d_X_subtract_59 rfl (lv_at hl 0 rfl) ?_
    refine va_get (D := (dC, dI)) (ci := 1) (v := .ref h_E2) (C := "RoundedNumbers") (T := F_X) (N := 8) hx hb hts in_X hown hK hP 0 rfl rfl 6 (by decide) (hts _ tw_49) (fun _ h9 => h9) rfl d_X_subtract_60 ?_
    obtain ⟨q_63, hC_63, hF⟩ := hbd hF
    have hPc := hP.sub (ws' := [cE h_E1 q_30.1 q_30.2.1 q_30.2.2.1 q_30.2.2.2.1 q_30.2.2.2.2, cE h_E2 q_50.1 q_50.2.1 q_50.2.2.1 q_50.2.2.2.1 q_50.2.2.2.2]) [3, 4] rfl
    have hDc := hD.sub (ws' := [cE h_E1 q_30.1 q_30.2.1 q_30.2.2.1 q_30.2.2.2.1 q_30.2.2.2.2, cE h_E2 q_50.1 q_50.2.1 q_50.2.2.1 q_50.2.2.2.1 q_50.2.2.2.2]) [3, 4] (by decide) rfl
    have hKc := hK.sub (tys' := []) [] rfl
    have hFc := va_free (wc := [cE h_E1 q_30.1 q_30.2.1 q_30.2.2.1 q_30.2.2.2.1 q_30.2.2.2.2, cE h_E2 q_50.1 q_50.2.1 q_50.2.2.1 q_50.2.2.2.1 q_50.2.2.2.2]) hD hS hA [3, 4] rfl
    refine va_callr (va_runS (As := [.ref h_E1, .ref h_E2]) (rest := [.int a1, .ref h_X]) ⟨hx, hb, hml, hown, hts⟩ (c_E_sum l dC dI h_E1 h_E2 H.size q_30.1 q_30.2.1 q_30.2.2.1 q_30.2.2.2.1 q_30.2.2.2.2 q_50.1 q_50.2.1 q_50.2.2.1 q_50.2.2.2.1 q_50.2.2.2.2 q_63 hC_63) (va_cwS 2 hts g_X_58_E_sum rfl rfl rfl (by decide +kernel) ⟨Nat.le_of_ble_eq_true rfl, Nat.le_of_ble_eq_true rfl⟩) ⟨fun a U g mk q => by obtain ⟨q0, q1, qP, qK, qD⟩ := q; exact ⟨q0, q1, qP, va_K.moved (u := U) (U := U.calling g mk a) (Vm.Alike.refl U.vm) qK, qD⟩, fun U hU hW => ⟨rfl, by rw [hU], by rw [hU]; exact hPc, va_K.moved hW.alike hKc, hDc.weaken (fun _ _ _ _ => trivial)⟩⟩ rfl rfl hl.1 rfl (lv_room (Nat.le_of_ble_eq_true rfl)) d_X_subtract_63 ⟨Nat.zero_le _, Nat.zero_le _⟩) hS (fun q _ h => hFc q h) hFc (fun u ra t H1 locs ht hvm hw hB hz1 hk1 hS => ?_)
    obtain ⟨hra, hP1, hK1, hD1⟩ := hB
    rw [ht] at hP1
    obtain ⟨hP, hD⟩ := va_join (wr := [cX h_X h_M h_P h_E1 h_E2 h_E3 X_lo X_ro X_rc, cL h_M k_M 8 M_f, cI h_P k_P 8 P_f]) (w1 := [cE h_E1 q_63.2.1 q_63.2.2.1 q_63.2.2.2.1 q_63.2.2.2.2.1 q_63.2.2.2.2.2.1, cE h_E2 q_63.2.2.2.2.2.2.1 q_63.2.2.2.2.2.2.2.1 q_63.2.2.2.2.2.2.2.2.1 q_63.2.2.2.2.2.2.2.2.2.1 q_63.2.2.2.2.2.2.2.2.2.2]) hP hD [3, 4] [0, 1, 2] rfl rfl (by decide) (by decide) hk1 hFc hP1 hD1
    generalize H1 = H at hP hS ⊢
    have hP := hP.sub (ws' := [cX h_X h_M h_P h_E1 h_E2 h_E3 X_lo X_ro X_rc, cL h_M k_M 8 M_f, cI h_P k_P 8 P_f, cE h_E1 q_63.2.1 q_63.2.2.1 q_63.2.2.2.1 q_63.2.2.2.2.1 q_63.2.2.2.2.2.1, cE h_E2 q_63.2.2.2.2.2.2.1 q_63.2.2.2.2.2.2.2.1 q_63.2.2.2.2.2.2.2.2.1 q_63.2.2.2.2.2.2.2.2.2.1 q_63.2.2.2.2.2.2.2.2.2.2]) [0, 1, 2, 3, 4] rfl
    have hD := hD.sub (ws' := [cX h_X h_M h_P h_E1 h_E2 h_E3 X_lo X_ro X_rc, cL h_M k_M 8 M_f, cI h_P k_P 8 P_f, cE h_E1 q_63.2.1 q_63.2.2.1 q_63.2.2.2.1 q_63.2.2.2.2.1 q_63.2.2.2.2.2.1, cE h_E2 q_63.2.2.2.2.2.2.1 q_63.2.2.2.2.2.2.2.1 q_63.2.2.2.2.2.2.2.2.1 q_63.2.2.2.2.2.2.2.2.2.1 q_63.2.2.2.2.2.2.2.2.2.2]) [0, 1, 2, 3, 4] (by decide) rfl
    rcases Bool.eq_false_or_eq_true q_63.1 with hsel | hsel
    · obtain rfl := (hra.1 hsel).symm
      replace hF := hif_t hsel hF
      refine lv_iload hx hb d_X_subtract_66 (lv_at hl 4 rfl) ?_
      obtain ⟨q_68, hC_68, hF⟩ := hbd hF
      have hPc := hP.sub (ws' := [cX h_X h_M h_P h_E1 h_E2 h_E3 X_lo X_ro X_rc, cL h_M k_M 8 M_f, cI h_P k_P 8 P_f, cE h_E1 q_63.2.1 q_63.2.2.1 q_63.2.2.2.1 q_63.2.2.2.2.1 q_63.2.2.2.2.2.1]) [0, 1, 2, 3] rfl
      have hDc := hD.sub (ws' := [cX h_X h_M h_P h_E1 h_E2 h_E3 X_lo X_ro X_rc, cL h_M k_M 8 M_f, cI h_P k_P 8 P_f, cE h_E1 q_63.2.1 q_63.2.2.1 q_63.2.2.2.1 q_63.2.2.2.2.1 q_63.2.2.2.2.2.1]) [0, 1, 2, 3] (by decide) rfl
      have hKc := hK.sub (tys' := [(k_M, .long), (k_P, .int)]) [0, 1] rfl
      have hFc := va_free (wc := [cX h_X h_M h_P h_E1 h_E2 h_E3 X_lo X_ro X_rc, cL h_M k_M 8 M_f, cI h_P k_P 8 P_f, cE h_E1 q_63.2.1 q_63.2.2.1 q_63.2.2.2.1 q_63.2.2.2.2.1 q_63.2.2.2.2.2.1]) hD hS hA [0, 1, 2, 3] rfl
      refine va_calli (va_runV (As := [.int a1, .ref h_E1, .int a4]) (rest := []) ⟨hx, hb, hml, hown, hts⟩ (c_X_finish l dC dI h_X h_M h_P h_E1 h_E2 h_E3 h_E1 k_M k_P H.size X_lo X_ro X_rc M_f P_f q_63.2.1 q_63.2.2.1 q_63.2.2.2.1 q_63.2.2.2.2.1 q_63.2.2.2.2.2.1 a1 a4 q_68 hC_68) (cwV 3 hts g_X_62_X_finish rfl rfl rfl (by decide +kernel) ⟨Nat.le_of_ble_eq_true rfl, Nat.le_of_ble_eq_true rfl⟩) ⟨fun a U g mk q => by obtain ⟨q0, q1, qP, qK, qD⟩ := q; exact ⟨q0, q1, qP, va_K.moved (u := U) (U := U.calling g mk a) (Vm.Alike.refl U.vm) qK, qD⟩, va_recv hKc hPc (ci := 1) (q0 := 0) rfl rfl, fun U hU hW => ⟨rfl, by rw [hU], by rw [hU]; exact hPc, va_K.moved hW.alike hKc, hDc.weaken (fun _ _ _ _ => trivial)⟩⟩ rfl rfl hl.1 rfl (lv_room (Nat.le_of_ble_eq_true rfl)) d_X_subtract_68 ⟨Nat.zero_le _, Nat.zero_le _⟩) hS (fun q _ h => hFc q h) hFc (fun r u t H1 locs ht hvm hw hB hz1 hk1 hS => ?_)
      obtain ⟨hP1, hK1, hD1⟩ := hB
      replace hw := hw.symm
      subst hw
      rw [ht] at hP1
      obtain ⟨hP, hD⟩ := va_join (wr := [cE h_E2 q_63.2.2.2.2.2.2.1 q_63.2.2.2.2.2.2.2.1 q_63.2.2.2.2.2.2.2.2.1 q_63.2.2.2.2.2.2.2.2.2.1 q_63.2.2.2.2.2.2.2.2.2.2]) (w1 := [cX h_X h_M h_P h_E1 h_E2 h_E3 q_68.2.1 q_68.2.2.1 q_68.2.2.2.1, cL h_M k_M 8 q_68.2.2.2.2.1, cI h_P k_P 8 q_68.2.2.2.2.2.1, cE h_E1 q_63.2.1 q_68.2.2.2.2.2.2.1 q_68.2.2.2.2.2.2.2.1 q_68.2.2.2.2.2.2.2.2.1 q_68.2.2.2.2.2.2.2.2.2]) hP hD [0, 1, 2, 3] [4] rfl rfl (by decide) (by decide) hk1 hFc hP1 hD1
      generalize H1 = H at hP hS ⊢
      have hP := hP.sub (ws' := [cX h_X h_M h_P h_E1 h_E2 h_E3 q_68.2.1 q_68.2.2.1 q_68.2.2.2.1, cL h_M k_M 8 q_68.2.2.2.2.1, cI h_P k_P 8 q_68.2.2.2.2.2.1, cE h_E1 q_63.2.1 q_68.2.2.2.2.2.2.1 q_68.2.2.2.2.2.2.2.1 q_68.2.2.2.2.2.2.2.2.1 q_68.2.2.2.2.2.2.2.2.2, cE h_E2 q_63.2.2.2.2.2.2.1 q_63.2.2.2.2.2.2.2.1 q_63.2.2.2.2.2.2.2.2.1 q_63.2.2.2.2.2.2.2.2.2.1 q_63.2.2.2.2.2.2.2.2.2.2]) [1, 2, 3, 4, 0] rfl
      have hD := hD.sub (ws' := [cX h_X h_M h_P h_E1 h_E2 h_E3 q_68.2.1 q_68.2.2.1 q_68.2.2.2.1, cL h_M k_M 8 q_68.2.2.2.2.1, cI h_P k_P 8 q_68.2.2.2.2.2.1, cE h_E1 q_63.2.1 q_68.2.2.2.2.2.2.1 q_68.2.2.2.2.2.2.2.1 q_68.2.2.2.2.2.2.2.2.1 q_68.2.2.2.2.2.2.2.2.2, cE h_E2 q_63.2.2.2.2.2.2.1 q_63.2.2.2.2.2.2.2.1 q_63.2.2.2.2.2.2.2.2.1 q_63.2.2.2.2.2.2.2.2.2.1 q_63.2.2.2.2.2.2.2.2.2.2]) [1, 2, 3, 4, 0] (by decide) rfl
      obtain rfl := Option.some.inj hF
      exact W.iret (v := q_68.1) hx hb hr (fun t ht hW => ⟨⟨q_68.1, (), rfl, rfl, by rw [ht]; exact hP, va_K.moved hW.alike hK, hD⟩, hS.F ht⟩) hS.2.2 d_X_subtract_71
    · obtain rfl := (hra.2 hsel).symm
      replace hF := hif_f (by rw [hsel]; decide) hF
      refine lv_iload hx hb d_X_subtract_66 (lv_at hl 4 rfl) ?_
      obtain ⟨q_68, hC_68, hF⟩ := hbd hF
      have hPc := hP.sub (ws' := [cX h_X h_M h_P h_E1 h_E2 h_E3 X_lo X_ro X_rc, cL h_M k_M 8 M_f, cI h_P k_P 8 P_f, cE h_E2 q_63.2.2.2.2.2.2.1 q_63.2.2.2.2.2.2.2.1 q_63.2.2.2.2.2.2.2.2.1 q_63.2.2.2.2.2.2.2.2.2.1 q_63.2.2.2.2.2.2.2.2.2.2]) [0, 1, 2, 4] rfl
      have hDc := hD.sub (ws' := [cX h_X h_M h_P h_E1 h_E2 h_E3 X_lo X_ro X_rc, cL h_M k_M 8 M_f, cI h_P k_P 8 P_f, cE h_E2 q_63.2.2.2.2.2.2.1 q_63.2.2.2.2.2.2.2.1 q_63.2.2.2.2.2.2.2.2.1 q_63.2.2.2.2.2.2.2.2.2.1 q_63.2.2.2.2.2.2.2.2.2.2]) [0, 1, 2, 4] (by decide) rfl
      have hKc := hK.sub (tys' := [(k_M, .long), (k_P, .int)]) [0, 1] rfl
      have hFc := va_free (wc := [cX h_X h_M h_P h_E1 h_E2 h_E3 X_lo X_ro X_rc, cL h_M k_M 8 M_f, cI h_P k_P 8 P_f, cE h_E2 q_63.2.2.2.2.2.2.1 q_63.2.2.2.2.2.2.2.1 q_63.2.2.2.2.2.2.2.2.1 q_63.2.2.2.2.2.2.2.2.2.1 q_63.2.2.2.2.2.2.2.2.2.2]) hD hS hA [0, 1, 2, 4] rfl
      refine va_calli (va_runV (As := [.int a1, .ref h_E2, .int a4]) (rest := []) ⟨hx, hb, hml, hown, hts⟩ (c_X_finish l dC dI h_X h_M h_P h_E1 h_E2 h_E3 h_E2 k_M k_P H.size X_lo X_ro X_rc M_f P_f q_63.2.2.2.2.2.2.1 q_63.2.2.2.2.2.2.2.1 q_63.2.2.2.2.2.2.2.2.1 q_63.2.2.2.2.2.2.2.2.2.1 q_63.2.2.2.2.2.2.2.2.2.2 a1 a4 q_68 hC_68) (cwV 3 hts g_X_62_X_finish rfl rfl rfl (by decide +kernel) ⟨Nat.le_of_ble_eq_true rfl, Nat.le_of_ble_eq_true rfl⟩) ⟨fun a U g mk q => by obtain ⟨q0, q1, qP, qK, qD⟩ := q; exact ⟨q0, q1, qP, va_K.moved (u := U) (U := U.calling g mk a) (Vm.Alike.refl U.vm) qK, qD⟩, va_recv hKc hPc (ci := 1) (q0 := 0) rfl rfl, fun U hU hW => ⟨rfl, by rw [hU], by rw [hU]; exact hPc, va_K.moved hW.alike hKc, hDc.weaken (fun _ _ _ _ => trivial)⟩⟩ rfl rfl hl.1 rfl (lv_room (Nat.le_of_ble_eq_true rfl)) d_X_subtract_68 ⟨Nat.zero_le _, Nat.zero_le _⟩) hS (fun q _ h => hFc q h) hFc (fun r u t H1 locs ht hvm hw hB hz1 hk1 hS => ?_)
      obtain ⟨hP1, hK1, hD1⟩ := hB
      replace hw := hw.symm
      subst hw
      rw [ht] at hP1
      obtain ⟨hP, hD⟩ := va_join (wr := [cE h_E1 q_63.2.1 q_63.2.2.1 q_63.2.2.2.1 q_63.2.2.2.2.1 q_63.2.2.2.2.2.1]) (w1 := [cX h_X h_M h_P h_E1 h_E2 h_E3 q_68.2.1 q_68.2.2.1 q_68.2.2.2.1, cL h_M k_M 8 q_68.2.2.2.2.1, cI h_P k_P 8 q_68.2.2.2.2.2.1, cE h_E2 q_63.2.2.2.2.2.2.1 q_68.2.2.2.2.2.2.1 q_68.2.2.2.2.2.2.2.1 q_68.2.2.2.2.2.2.2.2.1 q_68.2.2.2.2.2.2.2.2.2]) hP hD [0, 1, 2, 4] [3] rfl rfl (by decide) (by decide) hk1 hFc hP1 hD1
      generalize H1 = H at hP hS ⊢
      have hP := hP.sub (ws' := [cX h_X h_M h_P h_E1 h_E2 h_E3 q_68.2.1 q_68.2.2.1 q_68.2.2.2.1, cL h_M k_M 8 q_68.2.2.2.2.1, cI h_P k_P 8 q_68.2.2.2.2.2.1, cE h_E1 q_63.2.1 q_63.2.2.1 q_63.2.2.2.1 q_63.2.2.2.2.1 q_63.2.2.2.2.2.1, cE h_E2 q_63.2.2.2.2.2.2.1 q_68.2.2.2.2.2.2.1 q_68.2.2.2.2.2.2.2.1 q_68.2.2.2.2.2.2.2.2.1 q_68.2.2.2.2.2.2.2.2.2]) [1, 2, 3, 0, 4] rfl
      have hD := hD.sub (ws' := [cX h_X h_M h_P h_E1 h_E2 h_E3 q_68.2.1 q_68.2.2.1 q_68.2.2.2.1, cL h_M k_M 8 q_68.2.2.2.2.1, cI h_P k_P 8 q_68.2.2.2.2.2.1, cE h_E1 q_63.2.1 q_63.2.2.1 q_63.2.2.2.1 q_63.2.2.2.2.1 q_63.2.2.2.2.2.1, cE h_E2 q_63.2.2.2.2.2.2.1 q_68.2.2.2.2.2.2.1 q_68.2.2.2.2.2.2.2.1 q_68.2.2.2.2.2.2.2.2.1 q_68.2.2.2.2.2.2.2.2.2]) [1, 2, 3, 0, 4] (by decide) rfl
      obtain rfl := Option.some.inj hF
      exact W.iret (v := q_68.1) hx hb hr (fun t ht hW => ⟨⟨q_68.1, (), rfl, rfl, by rw [ht]; exact hP, va_K.moved hW.alike hK, hD⟩, hS.F ht⟩) hS.2.2 d_X_subtract_71
  · replace hF := hif_t c_9 hF
    refine lv_iconst (v := (-1 : Int32)) hx hb d_X_subtract_12 (by decide) ?_
    obtain rfl := Option.some.inj hF
    exact W.iret (v := (-1 : Int32)) hx hb hr (fun t ht hW => ⟨⟨(-1 : Int32), (), rfl, rfl, by rw [ht]; exact hP, va_K.moved hW.alike hK, hD⟩, hS.F ht⟩) hS.2.2 d_X_subtract_13
set_option maxHeartbeats 4000000 in
set_option maxRecDepth 100000 in
theorem c_X_multiply (l : Launch) (dC : Nat → ClassId) (dI : Nat → Nat → Nat) (h_X : Nat) (h_M : Nat) (h_P : Nat) (h_E1 : Nat) (h_E2 : Nat) (h_E3 : Nat) (k_M : ClassId) (k_P : ClassId) (sz : Nat) (X_lo : Int32) (X_ro : Int32) (X_rc : Int32) (M_f : Nat → Int64) (P_f : Nat → Int32) (E1_sg : Int32) (E1_hi : Int64) (E1_lo : Int64) (E1_pl : Int32) (E1_mo : Int32) (a1 : Int32) (a2 : Int32) (a3 : Int32) (a4 : Int32) (o : Int32 × Int32 × Int32 × Int32 × (Nat → Int64) × (Nat → Int32) × Int32 × Int64 × Int64 × Int32 × Int32) (hF : f_X_multiply X_lo X_ro X_rc M_f P_f E1_sg E1_hi E1_lo E1_pl E1_mo a1 a2 a3 a4 = some o) : Met l y_X_multiply w_X_multiply ({ frames := 6, cells := 0, slots := 0, locals := 142 } : Room) (va_Pc [.ref h_X, .int a1, .int a2, .int a3, .int a4] (fun U => U.heap.size = sz ∧ va_P (dC, dI) classes [cX h_X h_M h_P h_E1 h_E2 h_E3 X_lo X_ro X_rc, cL h_M k_M 8 M_f, cI h_P k_P 8 P_f, cE h_E1 E1_sg E1_hi E1_lo E1_pl E1_mo] U.heap ∧ va_K (dC, dI) classes [(k_M, .long), (k_P, .int)] U ∧ va_D (fun _ => True) [cX h_X h_M h_P h_E1 h_E2 h_E3 X_lo X_ro X_rc, cL h_M k_M 8 M_f, cI h_P k_P 8 P_f, cE h_E1 E1_sg E1_hi E1_lo E1_pl E1_mo])) (va_Qi (fun (r : Int32) (_ : Unit) => r = o.1) (fun (_ : Unit) (t : State) => va_P (dC, dI) classes [cX h_X h_M h_P h_E1 h_E2 h_E3 o.2.1 o.2.2.1 o.2.2.2.1, cL h_M k_M 8 o.2.2.2.2.1, cI h_P k_P 8 o.2.2.2.2.2.1, cE h_E1 o.2.2.2.2.2.2.1 o.2.2.2.2.2.2.2.1 o.2.2.2.2.2.2.2.2.1 o.2.2.2.2.2.2.2.2.2.1 o.2.2.2.2.2.2.2.2.2.2] t.heap ∧ va_K (dC, dI) classes [(k_M, .long), (k_P, .int)] t ∧ va_D (va_A [cX h_X h_M h_P h_E1 h_E2 h_E3 X_lo X_ro X_rc, cL h_M k_M 8 M_f, cI h_P k_P 8 P_f, cE h_E1 E1_sg E1_hi E1_lo E1_pl E1_mo] sz) [cX h_X h_M h_P h_E1 h_E2 h_E3 o.2.1 o.2.2.1 o.2.2.2.1, cL h_M k_M 8 o.2.2.2.2.1, cI h_P k_P 8 o.2.2.2.2.2.1, cE h_E1 o.2.2.2.2.2.2.1 o.2.2.2.2.2.2.2.1 o.2.2.2.2.2.2.2.2.1 o.2.2.2.2.2.2.2.2.2.1 o.2.2.2.2.2.2.2.2.2.2]) (va_A [cX h_X h_M h_P h_E1 h_E2 h_E3 X_lo X_ro X_rc, cL h_M k_M 8 M_f, cI h_P k_P 8 P_f, cE h_E1 E1_sg E1_hi E1_lo E1_pl E1_mo] sz)) 0 0 (va_A [cX h_X h_M h_P h_E1 h_E2 h_E3 X_lo X_ro X_rc, cL h_M k_M 8 M_f, cI h_P k_P 8 P_f, cE h_E1 E1_sg E1_hi E1_lo E1_pl E1_mo] sz) := by
  refine Met.ofW (cc := prog_1_method_5_code) (maxL := 5) (ret := (some .int)) (by decide) rfl ?_
  intro p e s m args below meth c s₁ B hml hv
  obtain ⟨rfl, hsz, hP, hK, hD0⟩ := hv
  have hx := B.exec
  have hb := B.bytes
  have hr := B.returns
  have hts0 := atoms_spec (ws := w_X_multiply) B.pre
  have hts : ∀ w ∈ tb, w.before _ s = true := fun w h => hts0 w (List.mem_cons_of_mem _ h)
  clear hts0
  have hown : s.vm.findClass "RoundedNumbers" = some m.cls := findClass_of_methodNamed B.named
  have hlocks := B.notSynchronized
  subst hsz
  have hD := hD0.self (sz := s.heap.size)
  generalize hAe : va_A [cX h_X h_M h_P h_E1 h_E2 h_E3 X_lo X_ro X_rc, cL h_M k_M 8 M_f, cI h_P k_P 8 P_f, cE h_E1 E1_sg E1_hi E1_lo E1_pl E1_mo] s.heap.size = A at hD ⊢
  have hA : ∀ q : Nat, s.heap.size ≤ q → A q := fun q h => by rw [← hAe]; exact Or.inr h
  clear hAe
  have hS : va_S A s.heap s.heap [] := va_S.rf
  have hP : va_P (dC, dI) classes [cX h_X h_M h_P h_E1 h_E2 h_E3 X_lo X_ro X_rc, cL h_M k_M 8 M_f, cI h_P k_P 8 P_f, cE h_E1 E1_sg E1_hi E1_lo E1_pl E1_mo] s.heap := hP
  have hl := lv_entry ([.ref h_X, .int a1, .int a2, .int a3, .int a4]) (n := 5) (Nat.le_of_ble_eq_true rfl)
  rw [lg_entry_eq]
  generalize (lg_sl ([.ref h_X, .int a1, .int a2, .int a3, .int a4]) ++ List.replicate (5 - (lg_sl ([.ref h_X, .int a1, .int a2, .int a3, .int a4])).length) Slot.unset).toArray = ls at hl ⊢
  have hl : lv_has ls 5 [(0, .ref h_X), (1, .int a1), (2, .int a2), (3, .int a3), (4, .int a4)] := hl
  unfold f_X_multiply at hF
  refine lv_aload_n hx hb d_X_multiply_0 rfl (lv_at hl 0 rfl) ?_
  refine lv_iload_n hx hb d_X_multiply_1 rfl (lv_at hl 1 rfl) ?_
  refine lv_iload_n hx hb d_X_multiply_2 rfl (lv_at hl 2 rfl) ?_
  refine lv_iload_n hx hb d_X_multiply_3 rfl (lv_at hl 3 rfl) ?_
  refine lv_iload hx hb d_X_multiply_4 (lv_at hl 4 rfl) ?_
  obtain ⟨q_6, hC_6, hF⟩ := hbd hF
  have hPc := hP.sub (ws' := [cX h_X h_M h_P h_E1 h_E2 h_E3 X_lo X_ro X_rc, cL h_M k_M 8 M_f]) [0, 1] rfl
  have hDc := hD.sub (ws' := [cX h_X h_M h_P h_E1 h_E2 h_E3 X_lo X_ro X_rc, cL h_M k_M 8 M_f]) [0, 1] (by decide) rfl
  have hKc := hK.sub (tys' := [(k_M, .long)]) [0] rfl
  have hFc := va_free (wc := [cX h_X h_M h_P h_E1 h_E2 h_E3 X_lo X_ro X_rc, cL h_M k_M 8 M_f]) hD hS hA [0, 1] rfl
  refine va_calli (va_runV (As := [.int a1, .int a2, .int a3, .int a4]) (rest := []) ⟨hx, hb, hml, hown, hts⟩ (c_X_mayTake l dC dI h_X h_M h_P h_E1 h_E2 h_E3 k_M s.heap.size X_lo X_ro X_rc M_f a1 a2 a3 a4 q_6 hC_6) (cwV 4 hts g_X_50_X_mayTake rfl rfl rfl (by decide +kernel) ⟨Nat.le_of_ble_eq_true rfl, Nat.le_of_ble_eq_true rfl⟩) ⟨fun a U g mk q => by obtain ⟨q0, q1, qP, qK, qD⟩ := q; exact ⟨q0, q1, qP, va_K.moved (u := U) (U := U.calling g mk a) (Vm.Alike.refl U.vm) qK, qD⟩, va_recv hKc hPc (ci := 1) (q0 := 0) rfl rfl, fun U hU hW => ⟨rfl, by rw [hU], by rw [hU]; exact hPc, va_K.moved hW.alike hKc, hDc.weaken (fun _ _ _ _ => trivial)⟩⟩ rfl rfl hl.1 rfl (lv_room (Nat.le_of_ble_eq_true rfl)) d_X_multiply_6 ⟨Nat.zero_le _, Nat.zero_le _⟩) hS (fun q _ h => hFc q h) hFc (fun r u t H1 locs ht hvm hw hB hz1 hk1 hS => ?_)
  obtain ⟨hP1, hK1, hD1⟩ := hB
  replace hw := hw.symm
  subst hw
  rw [ht] at hP1
  obtain ⟨hP, hD⟩ := va_join (wr := [cI h_P k_P 8 P_f, cE h_E1 E1_sg E1_hi E1_lo E1_pl E1_mo]) (w1 := [cX h_X h_M h_P h_E1 h_E2 h_E3 X_lo X_ro X_rc, cL h_M k_M 8 M_f]) hP hD [0, 1] [2, 3] rfl rfl (by decide) (by decide) hk1 hFc hP1 hD1
  generalize H1 = H at hP hS ⊢
  have hP := hP.sub (ws' := [cX h_X h_M h_P h_E1 h_E2 h_E3 X_lo X_ro X_rc, cL h_M k_M 8 M_f, cI h_P k_P 8 P_f, cE h_E1 E1_sg E1_hi E1_lo E1_pl E1_mo]) [2, 3, 0, 1] rfl
  have hD := hD.sub (ws' := [cX h_X h_M h_P h_E1 h_E2 h_E3 X_lo X_ro X_rc, cL h_M k_M 8 M_f, cI h_P k_P 8 P_f, cE h_E1 E1_sg E1_hi E1_lo E1_pl E1_mo]) [2, 3, 0, 1] (by decide) rfl
  refine lv_if_ne (tgt := 14) hx hb d_X_multiply_9 (by decide) (fun c_9 => ?_) (fun c_9 => ?_)
  · replace hF := hif_f c_9 hF
    refine lv_aload_n hx hb d_X_multiply_14 rfl (lv_at hl 0 rfl) ?_
    refine va_get (D := (dC, dI)) (ci := 1) (v := .ref h_E1) (C := "RoundedNumbers") (T := F_X) (N := 8) hx hb hts in_X hown hK hP 0 rfl rfl 5 (by decide) (hts _ tw_48) (fun _ h9 => h9) rfl d_X_multiply_15 ?_
    refine lv_aload_n hx hb d_X_multiply_18 rfl (lv_at hl 0 rfl) ?_
    refine va_get (D := (dC, dI)) (ci := 1) (v := .ref h_M) (C := "RoundedNumbers") (T := F_X) (N := 8) hx hb hts in_X hown hK hP 0 rfl rfl 0 (by decide) (hts _ tw_43) (fun _ h9 => h9) rfl d_X_multiply_19 ?_
    refine lv_iload_n hx hb d_X_multiply_22 rfl (lv_at hl 2 rfl) ?_
    have c_23 : ¬ (a2 < 0 ∨ 8 ≤ a2.toNatClampNeg) := hif_n hF
    replace hF := hif_f c_23 hF
    refine va_lald hx hb hK hP 1 0 rfl rfl c_23 d_X_multiply_23 ?_
    refine lv_aload_n hx hb d_X_multiply_24 rfl (lv_at hl 0 rfl) ?_
    refine va_get (D := (dC, dI)) (ci := 1) (v := .ref h_M) (C := "RoundedNumbers") (T := F_X) (N := 8) hx hb hts in_X hown hK hP 0 rfl rfl 0 (by decide) (hts _ tw_43) (fun _ h9 => h9) rfl d_X_multiply_25 ?_
    refine lv_iload_n hx hb d_X_multiply_28 rfl (lv_at hl 3 rfl) ?_
    have c_29 : ¬ (a3 < 0 ∨ 8 ≤ a3.toNatClampNeg) := hif_n hF
    replace hF := hif_f c_29 hF
    refine va_lald hx hb hK hP 1 0 rfl rfl c_29 d_X_multiply_29 ?_
    refine lv_aload_n hx hb d_X_multiply_30 rfl (lv_at hl 0 rfl) ?_
    refine va_get (D := (dC, dI)) (ci := 1) (v := .ref h_P) (C := "RoundedNumbers") (T := F_X) (N := 8) hx hb hts in_X hown hK hP 0 rfl rfl 1 (by decide) (hts _ tw_44) (fun _ h9 => h9) rfl d_X_multiply_31 ?_
    refine lv_iload_n hx hb d_X_multiply_34 rfl (lv_at hl 2 rfl) ?_
    have c_35 : ¬ (a2 < 0 ∨ 8 ≤ a2.toNatClampNeg) := hif_n hF
    replace hF := hif_f c_35 hF
    refine va_iald hx hb hK hP 2 1 rfl rfl c_35 d_X_multiply_35 ?_
    refine lv_aload_n hx hb d_X_multiply_36 rfl (lv_at hl 0 rfl) ?_
    refine va_get (D := (dC, dI)) (ci := 1) (v := .ref h_P) (C := "RoundedNumbers") (T := F_X) (N := 8) hx hb hts in_X hown hK hP 0 rfl rfl 1 (by decide) (hts _ tw_44) (fun _ h9 => h9) rfl d_X_multiply_37 ?_
    refine lv_iload_n hx hb d_X_multiply_40 rfl (lv_at hl 3 rfl) ?_
    have c_41 : ¬ (a3 < 0 ∨ 8 ≤ a3.toNatClampNeg) := hif_n hF
    replace hF := hif_f c_41 hF
    refine va_iald hx hb hK hP 2 1 rfl rfl c_41 d_X_multiply_41 ?_
    refine lv_iadd hx hb d_X_multiply_42 ?_
    obtain ⟨q_43, hC_43, hF⟩ := hbd hF
    have hPc := hP.sub (ws' := [cE h_E1 E1_sg E1_hi E1_lo E1_pl E1_mo]) [3] rfl
    have hDc := hD.sub (ws' := [cE h_E1 E1_sg E1_hi E1_lo E1_pl E1_mo]) [3] (by decide) rfl
    have hKc := hK.sub (tys' := []) [] rfl
    have hFc := va_free (wc := [cE h_E1 E1_sg E1_hi E1_lo E1_pl E1_mo]) hD hS hA [3] rfl
    refine va_callv (va_runV (As := [.long (M_f a2.toNatClampNeg), .long (M_f a3.toNatClampNeg), .int ((P_f a2.toNatClampNeg) + (P_f a3.toNatClampNeg))]) (rest := []) ⟨hx, hb, hml, hown, hts⟩ (c_E_holdProduct l dC dI h_E1 H.size E1_sg E1_hi E1_lo E1_pl E1_mo (M_f a2.toNatClampNeg) (M_f a3.toNatClampNeg) ((P_f a2.toNatClampNeg) + (P_f a3.toNatClampNeg)) q_43 hC_43) (cwV 3 hts g_X_66_E_holdProduct rfl rfl rfl (by decide +kernel) ⟨Nat.le_of_ble_eq_true rfl, Nat.le_of_ble_eq_true rfl⟩) ⟨fun a U g mk q => by obtain ⟨q0, q1, qP, qK, qD⟩ := q; exact ⟨q0, q1, qP, va_K.moved (u := U) (U := U.calling g mk a) (Vm.Alike.refl U.vm) qK, qD⟩, va_recv hKc hPc (ci := 0) (q0 := 0) rfl rfl, fun U hU hW => ⟨rfl, by rw [hU], by rw [hU]; exact hPc, va_K.moved hW.alike hKc, hDc.weaken (fun _ _ _ _ => trivial)⟩⟩ rfl rfl hl.1 rfl (lv_room (Nat.le_of_ble_eq_true rfl)) d_X_multiply_43 ⟨Nat.zero_le _, Nat.zero_le _⟩) hS (fun q _ h => hFc q h) hFc (fun u t H1 locs ht hvm hw hB hz1 hk1 hS => ?_)
    obtain ⟨hP1, hK1, hD1⟩ := hB
    rw [ht] at hP1
    obtain ⟨hP, hD⟩ := va_join (wr := [cX h_X h_M h_P h_E1 h_E2 h_E3 X_lo X_ro X_rc, cL h_M k_M 8 M_f, cI h_P k_P 8 P_f]) (w1 := [cE h_E1 q_43.1 q_43.2.1 q_43.2.2.1 q_43.2.2.2.1 q_43.2.2.2.2]) hP hD [3] [0, 1, 2] rfl rfl (by decide) (by decide) hk1 hFc hP1 hD1
    generalize H1 = H at hP hS ⊢
    have hP := hP.sub (ws' := [cX h_X h_M h_P h_E1 h_E2 h_E3 X_lo X_ro X_rc, cL h_M k_M 8 M_f, cI h_P k_P 8 P_f, cE h_E1 q_43.1 q_43.2.1 q_43.2.2.1 q_43.2.2.2.1 q_43.2.2.2.2]) [0, 1, 2, 3] rfl
    have hD := hD.sub (ws' := [cX h_X h_M h_P h_E1 h_E2 h_E3 X_lo X_ro X_rc, cL h_M k_M 8 M_f, cI h_P k_P 8 P_f, cE h_E1 q_43.1 q_43.2.1 q_43.2.2.1 q_43.2.2.2.1 q_43.2.2.2.2]) [0, 1, 2, 3] (by decide) rfl
    refine lv_aload_n hx hb d_X_multiply_46 rfl (lv_at hl 0 rfl) ?_
    refine lv_iload_n hx hb d_X_multiply_47 rfl (lv_at hl 1 rfl) ?_
    refine lv_aload_n hx hb d_X_multiply_48 rfl (lv_at hl 0 rfl) ?_
    refine va_get (D := (dC, dI)) (ci := 1) (v := .ref h_E1) (C := "RoundedNumbers") (T := F_X) (N := 8) hx hb hts in_X hown hK hP 0 rfl rfl 5 (by decide) (hts _ tw_48) (fun _ h9 => h9) rfl d_X_multiply_49 ?_
    refine lv_iload hx hb d_X_multiply_52 (lv_at hl 4 rfl) ?_
    obtain ⟨q_54, hC_54, hF⟩ := hbd hF
    have hPc := hP.sub (ws' := [cX h_X h_M h_P h_E1 h_E2 h_E3 X_lo X_ro X_rc, cL h_M k_M 8 M_f, cI h_P k_P 8 P_f, cE h_E1 q_43.1 q_43.2.1 q_43.2.2.1 q_43.2.2.2.1 q_43.2.2.2.2]) [0, 1, 2, 3] rfl
    have hDc := hD.sub (ws' := [cX h_X h_M h_P h_E1 h_E2 h_E3 X_lo X_ro X_rc, cL h_M k_M 8 M_f, cI h_P k_P 8 P_f, cE h_E1 q_43.1 q_43.2.1 q_43.2.2.1 q_43.2.2.2.1 q_43.2.2.2.2]) [0, 1, 2, 3] (by decide) rfl
    have hKc := hK.sub (tys' := [(k_M, .long), (k_P, .int)]) [0, 1] rfl
    have hFc := va_free (wc := [cX h_X h_M h_P h_E1 h_E2 h_E3 X_lo X_ro X_rc, cL h_M k_M 8 M_f, cI h_P k_P 8 P_f, cE h_E1 q_43.1 q_43.2.1 q_43.2.2.1 q_43.2.2.2.1 q_43.2.2.2.2]) hD hS hA [0, 1, 2, 3] rfl
    refine va_calli (va_runV (As := [.int a1, .ref h_E1, .int a4]) (rest := []) ⟨hx, hb, hml, hown, hts⟩ (c_X_finish l dC dI h_X h_M h_P h_E1 h_E2 h_E3 h_E1 k_M k_P H.size X_lo X_ro X_rc M_f P_f q_43.1 q_43.2.1 q_43.2.2.1 q_43.2.2.2.1 q_43.2.2.2.2 a1 a4 q_54 hC_54) (cwV 3 hts g_X_62_X_finish rfl rfl rfl (by decide +kernel) ⟨Nat.le_of_ble_eq_true rfl, Nat.le_of_ble_eq_true rfl⟩) ⟨fun a U g mk q => by obtain ⟨q0, q1, qP, qK, qD⟩ := q; exact ⟨q0, q1, qP, va_K.moved (u := U) (U := U.calling g mk a) (Vm.Alike.refl U.vm) qK, qD⟩, va_recv hKc hPc (ci := 1) (q0 := 0) rfl rfl, fun U hU hW => ⟨rfl, by rw [hU], by rw [hU]; exact hPc, va_K.moved hW.alike hKc, hDc.weaken (fun _ _ _ _ => trivial)⟩⟩ rfl rfl hl.1 rfl (lv_room (Nat.le_of_ble_eq_true rfl)) d_X_multiply_54 ⟨Nat.zero_le _, Nat.zero_le _⟩) hS (fun q _ h => hFc q h) hFc (fun r u t H1 locs ht hvm hw hB hz1 hk1 hS => ?_)
    obtain ⟨hP1, hK1, hD1⟩ := hB
    replace hw := hw.symm
    subst hw
    rw [ht] at hP1
    obtain ⟨hP, hD⟩ := va_join (wr := []) (w1 := [cX h_X h_M h_P h_E1 h_E2 h_E3 q_54.2.1 q_54.2.2.1 q_54.2.2.2.1, cL h_M k_M 8 q_54.2.2.2.2.1, cI h_P k_P 8 q_54.2.2.2.2.2.1, cE h_E1 q_43.1 q_54.2.2.2.2.2.2.1 q_54.2.2.2.2.2.2.2.1 q_54.2.2.2.2.2.2.2.2.1 q_54.2.2.2.2.2.2.2.2.2]) hP hD [0, 1, 2, 3] [] rfl rfl (by decide) (by decide) hk1 hFc hP1 hD1
    generalize H1 = H at hP hS ⊢
    have hP := hP.sub (ws' := [cX h_X h_M h_P h_E1 h_E2 h_E3 q_54.2.1 q_54.2.2.1 q_54.2.2.2.1, cL h_M k_M 8 q_54.2.2.2.2.1, cI h_P k_P 8 q_54.2.2.2.2.2.1, cE h_E1 q_43.1 q_54.2.2.2.2.2.2.1 q_54.2.2.2.2.2.2.2.1 q_54.2.2.2.2.2.2.2.2.1 q_54.2.2.2.2.2.2.2.2.2]) [0, 1, 2, 3] rfl
    have hD := hD.sub (ws' := [cX h_X h_M h_P h_E1 h_E2 h_E3 q_54.2.1 q_54.2.2.1 q_54.2.2.2.1, cL h_M k_M 8 q_54.2.2.2.2.1, cI h_P k_P 8 q_54.2.2.2.2.2.1, cE h_E1 q_43.1 q_54.2.2.2.2.2.2.1 q_54.2.2.2.2.2.2.2.1 q_54.2.2.2.2.2.2.2.2.1 q_54.2.2.2.2.2.2.2.2.2]) [0, 1, 2, 3] (by decide) rfl
    obtain rfl := Option.some.inj hF
    exact W.iret (v := q_54.1) hx hb hr (fun t ht hW => ⟨⟨q_54.1, (), rfl, rfl, by rw [ht]; exact hP, va_K.moved hW.alike hK, hD⟩, hS.F ht⟩) hS.2.2 d_X_multiply_57
  · replace hF := hif_t c_9 hF
    refine lv_iconst (v := (-1 : Int32)) hx hb d_X_multiply_12 (by decide) ?_
    obtain rfl := Option.some.inj hF
    exact W.iret (v := (-1 : Int32)) hx hb hr (fun t ht hW => ⟨⟨(-1 : Int32), (), rfl, rfl, by rw [ht]; exact hP, va_K.moved hW.alike hK, hD⟩, hS.F ht⟩) hS.2.2 d_X_multiply_13
set_option maxHeartbeats 4000000 in
set_option maxRecDepth 100000 in
theorem c_X_divide (l : Launch) (dC : Nat → ClassId) (dI : Nat → Nat → Nat) (h_X : Nat) (h_M : Nat) (h_P : Nat) (h_E1 : Nat) (h_E2 : Nat) (h_E3 : Nat) (k_M : ClassId) (k_P : ClassId) (sz : Nat) (X_lo : Int32) (X_ro : Int32) (X_rc : Int32) (M_f : Nat → Int64) (P_f : Nat → Int32) (E1_sg : Int32) (E1_hi : Int64) (E1_lo : Int64) (E1_pl : Int32) (E1_mo : Int32) (a1 : Int32) (a2 : Int32) (a3 : Int32) (a4 : Int32) (o : Int32 × Int32 × Int32 × Int32 × (Nat → Int64) × (Nat → Int32) × Int32 × Int64 × Int64 × Int32 × Int32) (hF : f_X_divide X_lo X_ro X_rc M_f P_f E1_sg E1_hi E1_lo E1_pl E1_mo a1 a2 a3 a4 = some o) : Met l y_X_divide w_X_divide ({ frames := 6, cells := 0, slots := 0, locals := 142 } : Room) (va_Pc [.ref h_X, .int a1, .int a2, .int a3, .int a4] (fun U => U.heap.size = sz ∧ va_P (dC, dI) classes [cX h_X h_M h_P h_E1 h_E2 h_E3 X_lo X_ro X_rc, cL h_M k_M 8 M_f, cI h_P k_P 8 P_f, cE h_E1 E1_sg E1_hi E1_lo E1_pl E1_mo] U.heap ∧ va_K (dC, dI) classes [(k_M, .long), (k_P, .int)] U ∧ va_D (fun _ => True) [cX h_X h_M h_P h_E1 h_E2 h_E3 X_lo X_ro X_rc, cL h_M k_M 8 M_f, cI h_P k_P 8 P_f, cE h_E1 E1_sg E1_hi E1_lo E1_pl E1_mo])) (va_Qi (fun (r : Int32) (_ : Unit) => r = o.1) (fun (_ : Unit) (t : State) => va_P (dC, dI) classes [cX h_X h_M h_P h_E1 h_E2 h_E3 o.2.1 o.2.2.1 o.2.2.2.1, cL h_M k_M 8 o.2.2.2.2.1, cI h_P k_P 8 o.2.2.2.2.2.1, cE h_E1 o.2.2.2.2.2.2.1 o.2.2.2.2.2.2.2.1 o.2.2.2.2.2.2.2.2.1 o.2.2.2.2.2.2.2.2.2.1 o.2.2.2.2.2.2.2.2.2.2] t.heap ∧ va_K (dC, dI) classes [(k_M, .long), (k_P, .int)] t ∧ va_D (va_A [cX h_X h_M h_P h_E1 h_E2 h_E3 X_lo X_ro X_rc, cL h_M k_M 8 M_f, cI h_P k_P 8 P_f, cE h_E1 E1_sg E1_hi E1_lo E1_pl E1_mo] sz) [cX h_X h_M h_P h_E1 h_E2 h_E3 o.2.1 o.2.2.1 o.2.2.2.1, cL h_M k_M 8 o.2.2.2.2.1, cI h_P k_P 8 o.2.2.2.2.2.1, cE h_E1 o.2.2.2.2.2.2.1 o.2.2.2.2.2.2.2.1 o.2.2.2.2.2.2.2.2.1 o.2.2.2.2.2.2.2.2.2.1 o.2.2.2.2.2.2.2.2.2.2]) (va_A [cX h_X h_M h_P h_E1 h_E2 h_E3 X_lo X_ro X_rc, cL h_M k_M 8 M_f, cI h_P k_P 8 P_f, cE h_E1 E1_sg E1_hi E1_lo E1_pl E1_mo] sz)) 0 0 (va_A [cX h_X h_M h_P h_E1 h_E2 h_E3 X_lo X_ro X_rc, cL h_M k_M 8 M_f, cI h_P k_P 8 P_f, cE h_E1 E1_sg E1_hi E1_lo E1_pl E1_mo] sz) := by
  refine Met.ofW (cc := prog_1_method_6_code) (maxL := 5) (ret := (some .int)) (by decide) rfl ?_
  intro p e s m args below meth c s₁ B hml hv
  obtain ⟨rfl, hsz, hP, hK, hD0⟩ := hv
  have hx := B.exec
  have hb := B.bytes
  have hr := B.returns
  have hts0 := atoms_spec (ws := w_X_divide) B.pre
  have hts : ∀ w ∈ tb, w.before _ s = true := fun w h => hts0 w (List.mem_cons_of_mem _ h)
  clear hts0
  have hown : s.vm.findClass "RoundedNumbers" = some m.cls := findClass_of_methodNamed B.named
  have hlocks := B.notSynchronized
  subst hsz
  have hD := hD0.self (sz := s.heap.size)
  generalize hAe : va_A [cX h_X h_M h_P h_E1 h_E2 h_E3 X_lo X_ro X_rc, cL h_M k_M 8 M_f, cI h_P k_P 8 P_f, cE h_E1 E1_sg E1_hi E1_lo E1_pl E1_mo] s.heap.size = A at hD ⊢
  have hA : ∀ q : Nat, s.heap.size ≤ q → A q := fun q h => by rw [← hAe]; exact Or.inr h
  clear hAe
  have hS : va_S A s.heap s.heap [] := va_S.rf
  have hP : va_P (dC, dI) classes [cX h_X h_M h_P h_E1 h_E2 h_E3 X_lo X_ro X_rc, cL h_M k_M 8 M_f, cI h_P k_P 8 P_f, cE h_E1 E1_sg E1_hi E1_lo E1_pl E1_mo] s.heap := hP
  have hl := lv_entry ([.ref h_X, .int a1, .int a2, .int a3, .int a4]) (n := 5) (Nat.le_of_ble_eq_true rfl)
  rw [lg_entry_eq]
  generalize (lg_sl ([.ref h_X, .int a1, .int a2, .int a3, .int a4]) ++ List.replicate (5 - (lg_sl ([.ref h_X, .int a1, .int a2, .int a3, .int a4])).length) Slot.unset).toArray = ls at hl ⊢
  have hl : lv_has ls 5 [(0, .ref h_X), (1, .int a1), (2, .int a2), (3, .int a3), (4, .int a4)] := hl
  unfold f_X_divide at hF
  refine lv_aload_n hx hb d_X_divide_0 rfl (lv_at hl 0 rfl) ?_
  refine lv_iload_n hx hb d_X_divide_1 rfl (lv_at hl 1 rfl) ?_
  refine lv_iload_n hx hb d_X_divide_2 rfl (lv_at hl 2 rfl) ?_
  refine lv_iload_n hx hb d_X_divide_3 rfl (lv_at hl 3 rfl) ?_
  refine lv_iload hx hb d_X_divide_4 (lv_at hl 4 rfl) ?_
  obtain ⟨q_6, hC_6, hF⟩ := hbd hF
  have hPc := hP.sub (ws' := [cX h_X h_M h_P h_E1 h_E2 h_E3 X_lo X_ro X_rc, cL h_M k_M 8 M_f]) [0, 1] rfl
  have hDc := hD.sub (ws' := [cX h_X h_M h_P h_E1 h_E2 h_E3 X_lo X_ro X_rc, cL h_M k_M 8 M_f]) [0, 1] (by decide) rfl
  have hKc := hK.sub (tys' := [(k_M, .long)]) [0] rfl
  have hFc := va_free (wc := [cX h_X h_M h_P h_E1 h_E2 h_E3 X_lo X_ro X_rc, cL h_M k_M 8 M_f]) hD hS hA [0, 1] rfl
  refine va_calli (va_runV (As := [.int a1, .int a2, .int a3, .int a4]) (rest := []) ⟨hx, hb, hml, hown, hts⟩ (c_X_mayTake l dC dI h_X h_M h_P h_E1 h_E2 h_E3 k_M s.heap.size X_lo X_ro X_rc M_f a1 a2 a3 a4 q_6 hC_6) (cwV 4 hts g_X_50_X_mayTake rfl rfl rfl (by decide +kernel) ⟨Nat.le_of_ble_eq_true rfl, Nat.le_of_ble_eq_true rfl⟩) ⟨fun a U g mk q => by obtain ⟨q0, q1, qP, qK, qD⟩ := q; exact ⟨q0, q1, qP, va_K.moved (u := U) (U := U.calling g mk a) (Vm.Alike.refl U.vm) qK, qD⟩, va_recv hKc hPc (ci := 1) (q0 := 0) rfl rfl, fun U hU hW => ⟨rfl, by rw [hU], by rw [hU]; exact hPc, va_K.moved hW.alike hKc, hDc.weaken (fun _ _ _ _ => trivial)⟩⟩ rfl rfl hl.1 rfl (lv_room (Nat.le_of_ble_eq_true rfl)) d_X_divide_6 ⟨Nat.zero_le _, Nat.zero_le _⟩) hS (fun q _ h => hFc q h) hFc (fun r u t H1 locs ht hvm hw hB hz1 hk1 hS => ?_)
  obtain ⟨hP1, hK1, hD1⟩ := hB
  replace hw := hw.symm
  subst hw
  rw [ht] at hP1
  obtain ⟨hP, hD⟩ := va_join (wr := [cI h_P k_P 8 P_f, cE h_E1 E1_sg E1_hi E1_lo E1_pl E1_mo]) (w1 := [cX h_X h_M h_P h_E1 h_E2 h_E3 X_lo X_ro X_rc, cL h_M k_M 8 M_f]) hP hD [0, 1] [2, 3] rfl rfl (by decide) (by decide) hk1 hFc hP1 hD1
  generalize H1 = H at hP hS ⊢
  have hP := hP.sub (ws' := [cX h_X h_M h_P h_E1 h_E2 h_E3 X_lo X_ro X_rc, cL h_M k_M 8 M_f, cI h_P k_P 8 P_f, cE h_E1 E1_sg E1_hi E1_lo E1_pl E1_mo]) [2, 3, 0, 1] rfl
  have hD := hD.sub (ws' := [cX h_X h_M h_P h_E1 h_E2 h_E3 X_lo X_ro X_rc, cL h_M k_M 8 M_f, cI h_P k_P 8 P_f, cE h_E1 E1_sg E1_hi E1_lo E1_pl E1_mo]) [2, 3, 0, 1] (by decide) rfl
  refine lv_if_eq (tgt := 23) hx hb d_X_divide_9 (by decide) (fun c_9 => ?_) (fun c_9 => ?_)
  · replace hF := hif_t c_9 hF
    refine lv_iconst (v := (-1 : Int32)) hx hb d_X_divide_23 (by decide) ?_
    obtain rfl := Option.some.inj hF
    exact W.iret (v := (-1 : Int32)) hx hb hr (fun t ht hW => ⟨⟨(-1 : Int32), (), rfl, rfl, by rw [ht]; exact hP, va_K.moved hW.alike hK, hD⟩, hS.F ht⟩) hS.2.2 d_X_divide_24
  · replace hF := hif_f c_9 hF
    refine lv_aload_n hx hb d_X_divide_12 rfl (lv_at hl 0 rfl) ?_
    refine va_get (D := (dC, dI)) (ci := 1) (v := .ref h_M) (C := "RoundedNumbers") (T := F_X) (N := 8) hx hb hts in_X hown hK hP 0 rfl rfl 0 (by decide) (hts _ tw_43) (fun _ h9 => h9) rfl d_X_divide_13 ?_
    refine lv_iload_n hx hb d_X_divide_16 rfl (lv_at hl 3 rfl) ?_
    have c_17 : ¬ (a3 < 0 ∨ 8 ≤ a3.toNatClampNeg) := hif_n hF
    replace hF := hif_f c_17 hF
    refine va_lald hx hb hK hP 1 0 rfl rfl c_17 d_X_divide_17 ?_
    refine lv_lconst (v := (0 : Int64)) hx hb d_X_divide_18 (by decide) ?_
    refine W.lcmp hx hb d_X_divide_19 ?_
    refine lv_if_ne (tgt := 25) hx hb d_X_divide_20 (by decide) (fun c_20 => ?_) (fun c_20 => ?_)
    · replace hF := hif_f c_20 hF
      refine lv_aload_n hx hb d_X_divide_25 rfl (lv_at hl 0 rfl) ?_
      refine va_get (D := (dC, dI)) (ci := 1) (v := .ref h_E1) (C := "RoundedNumbers") (T := F_X) (N := 8) hx hb hts in_X hown hK hP 0 rfl rfl 5 (by decide) (hts _ tw_48) (fun _ h9 => h9) rfl d_X_divide_26 ?_
      refine lv_aload_n hx hb d_X_divide_29 rfl (lv_at hl 0 rfl) ?_
      refine va_get (D := (dC, dI)) (ci := 1) (v := .ref h_M) (C := "RoundedNumbers") (T := F_X) (N := 8) hx hb hts in_X hown hK hP 0 rfl rfl 0 (by decide) (hts _ tw_43) (fun _ h9 => h9) rfl d_X_divide_30 ?_
      refine lv_iload_n hx hb d_X_divide_33 rfl (lv_at hl 2 rfl) ?_
      have c_34 : ¬ (a2 < 0 ∨ 8 ≤ a2.toNatClampNeg) := hif_n hF
      replace hF := hif_f c_34 hF
      refine va_lald hx hb hK hP 1 0 rfl rfl c_34 d_X_divide_34 ?_
      refine lv_aload_n hx hb d_X_divide_35 rfl (lv_at hl 0 rfl) ?_
      refine va_get (D := (dC, dI)) (ci := 1) (v := .ref h_M) (C := "RoundedNumbers") (T := F_X) (N := 8) hx hb hts in_X hown hK hP 0 rfl rfl 0 (by decide) (hts _ tw_43) (fun _ h9 => h9) rfl d_X_divide_36 ?_
      refine lv_iload_n hx hb d_X_divide_39 rfl (lv_at hl 3 rfl) ?_
      have c_40 : ¬ (a3 < 0 ∨ 8 ≤ a3.toNatClampNeg) := hif_n hF
      replace hF := hif_f c_40 hF
      refine va_lald hx hb hK hP 1 0 rfl rfl c_40 d_X_divide_40 ?_
      refine lv_aload_n hx hb d_X_divide_41 rfl (lv_at hl 0 rfl) ?_
      refine va_get (D := (dC, dI)) (ci := 1) (v := .ref h_P) (C := "RoundedNumbers") (T := F_X) (N := 8) hx hb hts in_X hown hK hP 0 rfl rfl 1 (by decide) (hts _ tw_44) (fun _ h9 => h9) rfl d_X_divide_42 ?_
      refine lv_iload_n hx hb d_X_divide_45 rfl (lv_at hl 2 rfl) ?_
      have c_46 : ¬ (a2 < 0 ∨ 8 ≤ a2.toNatClampNeg) := hif_n hF
      replace hF := hif_f c_46 hF
      refine va_iald hx hb hK hP 2 1 rfl rfl c_46 d_X_divide_46 ?_
      refine lv_aload_n hx hb d_X_divide_47 rfl (lv_at hl 0 rfl) ?_
      refine va_get (D := (dC, dI)) (ci := 1) (v := .ref h_P) (C := "RoundedNumbers") (T := F_X) (N := 8) hx hb hts in_X hown hK hP 0 rfl rfl 1 (by decide) (hts _ tw_44) (fun _ h9 => h9) rfl d_X_divide_48 ?_
      refine lv_iload_n hx hb d_X_divide_51 rfl (lv_at hl 3 rfl) ?_
      have c_52 : ¬ (a3 < 0 ∨ 8 ≤ a3.toNatClampNeg) := hif_n hF
      replace hF := hif_f c_52 hF
      refine va_iald hx hb hK hP 2 1 rfl rfl c_52 d_X_divide_52 ?_
      refine lv_isub hx hb d_X_divide_53 ?_
      obtain ⟨q_54, hC_54, hF⟩ := hbd hF
      have hPc := hP.sub (ws' := [cE h_E1 E1_sg E1_hi E1_lo E1_pl E1_mo]) [3] rfl
      have hDc := hD.sub (ws' := [cE h_E1 E1_sg E1_hi E1_lo E1_pl E1_mo]) [3] (by decide) rfl
      have hKc := hK.sub (tys' := []) [] rfl
      have hFc := va_free (wc := [cE h_E1 E1_sg E1_hi E1_lo E1_pl E1_mo]) hD hS hA [3] rfl
      refine va_callv (va_runV (As := [.long (M_f a2.toNatClampNeg), .long (M_f a3.toNatClampNeg), .int ((P_f a2.toNatClampNeg) - (P_f a3.toNatClampNeg))]) (rest := []) ⟨hx, hb, hml, hown, hts⟩ (c_E_holdQuotient l dC dI h_E1 H.size E1_sg E1_hi E1_lo E1_pl E1_mo (M_f a2.toNatClampNeg) (M_f a3.toNatClampNeg) ((P_f a2.toNatClampNeg) - (P_f a3.toNatClampNeg)) q_54 hC_54) (cwV 3 hts g_X_70_E_holdQuotient rfl rfl rfl (by decide +kernel) ⟨Nat.le_of_ble_eq_true rfl, Nat.le_of_ble_eq_true rfl⟩) ⟨fun a U g mk q => by obtain ⟨q0, q1, qP, qK, qD⟩ := q; exact ⟨q0, q1, qP, va_K.moved (u := U) (U := U.calling g mk a) (Vm.Alike.refl U.vm) qK, qD⟩, va_recv hKc hPc (ci := 0) (q0 := 0) rfl rfl, fun U hU hW => ⟨rfl, by rw [hU], by rw [hU]; exact hPc, va_K.moved hW.alike hKc, hDc.weaken (fun _ _ _ _ => trivial)⟩⟩ rfl rfl hl.1 rfl (lv_room (Nat.le_of_ble_eq_true rfl)) d_X_divide_54 ⟨Nat.zero_le _, Nat.zero_le _⟩) hS (fun q _ h => hFc q h) hFc (fun u t H1 locs ht hvm hw hB hz1 hk1 hS => ?_)
      obtain ⟨hP1, hK1, hD1⟩ := hB
      rw [ht] at hP1
      obtain ⟨hP, hD⟩ := va_join (wr := [cX h_X h_M h_P h_E1 h_E2 h_E3 X_lo X_ro X_rc, cL h_M k_M 8 M_f, cI h_P k_P 8 P_f]) (w1 := [cE h_E1 q_54.1 q_54.2.1 q_54.2.2.1 q_54.2.2.2.1 q_54.2.2.2.2]) hP hD [3] [0, 1, 2] rfl rfl (by decide) (by decide) hk1 hFc hP1 hD1
      generalize H1 = H at hP hS ⊢
      have hP := hP.sub (ws' := [cX h_X h_M h_P h_E1 h_E2 h_E3 X_lo X_ro X_rc, cL h_M k_M 8 M_f, cI h_P k_P 8 P_f, cE h_E1 q_54.1 q_54.2.1 q_54.2.2.1 q_54.2.2.2.1 q_54.2.2.2.2]) [0, 1, 2, 3] rfl
      have hD := hD.sub (ws' := [cX h_X h_M h_P h_E1 h_E2 h_E3 X_lo X_ro X_rc, cL h_M k_M 8 M_f, cI h_P k_P 8 P_f, cE h_E1 q_54.1 q_54.2.1 q_54.2.2.1 q_54.2.2.2.1 q_54.2.2.2.2]) [0, 1, 2, 3] (by decide) rfl
      refine lv_aload_n hx hb d_X_divide_57 rfl (lv_at hl 0 rfl) ?_
      refine lv_iload_n hx hb d_X_divide_58 rfl (lv_at hl 1 rfl) ?_
      refine lv_aload_n hx hb d_X_divide_59 rfl (lv_at hl 0 rfl) ?_
      refine va_get (D := (dC, dI)) (ci := 1) (v := .ref h_E1) (C := "RoundedNumbers") (T := F_X) (N := 8) hx hb hts in_X hown hK hP 0 rfl rfl 5 (by decide) (hts _ tw_48) (fun _ h9 => h9) rfl d_X_divide_60 ?_
      refine lv_iload hx hb d_X_divide_63 (lv_at hl 4 rfl) ?_
      obtain ⟨q_65, hC_65, hF⟩ := hbd hF
      have hPc := hP.sub (ws' := [cX h_X h_M h_P h_E1 h_E2 h_E3 X_lo X_ro X_rc, cL h_M k_M 8 M_f, cI h_P k_P 8 P_f, cE h_E1 q_54.1 q_54.2.1 q_54.2.2.1 q_54.2.2.2.1 q_54.2.2.2.2]) [0, 1, 2, 3] rfl
      have hDc := hD.sub (ws' := [cX h_X h_M h_P h_E1 h_E2 h_E3 X_lo X_ro X_rc, cL h_M k_M 8 M_f, cI h_P k_P 8 P_f, cE h_E1 q_54.1 q_54.2.1 q_54.2.2.1 q_54.2.2.2.1 q_54.2.2.2.2]) [0, 1, 2, 3] (by decide) rfl
      have hKc := hK.sub (tys' := [(k_M, .long), (k_P, .int)]) [0, 1] rfl
      have hFc := va_free (wc := [cX h_X h_M h_P h_E1 h_E2 h_E3 X_lo X_ro X_rc, cL h_M k_M 8 M_f, cI h_P k_P 8 P_f, cE h_E1 q_54.1 q_54.2.1 q_54.2.2.1 q_54.2.2.2.1 q_54.2.2.2.2]) hD hS hA [0, 1, 2, 3] rfl
      refine va_calli (va_runV (As := [.int a1, .ref h_E1, .int a4]) (rest := []) ⟨hx, hb, hml, hown, hts⟩ (c_X_finish l dC dI h_X h_M h_P h_E1 h_E2 h_E3 h_E1 k_M k_P H.size X_lo X_ro X_rc M_f P_f q_54.1 q_54.2.1 q_54.2.2.1 q_54.2.2.2.1 q_54.2.2.2.2 a1 a4 q_65 hC_65) (cwV 3 hts g_X_62_X_finish rfl rfl rfl (by decide +kernel) ⟨Nat.le_of_ble_eq_true rfl, Nat.le_of_ble_eq_true rfl⟩) ⟨fun a U g mk q => by obtain ⟨q0, q1, qP, qK, qD⟩ := q; exact ⟨q0, q1, qP, va_K.moved (u := U) (U := U.calling g mk a) (Vm.Alike.refl U.vm) qK, qD⟩, va_recv hKc hPc (ci := 1) (q0 := 0) rfl rfl, fun U hU hW => ⟨rfl, by rw [hU], by rw [hU]; exact hPc, va_K.moved hW.alike hKc, hDc.weaken (fun _ _ _ _ => trivial)⟩⟩ rfl rfl hl.1 rfl (lv_room (Nat.le_of_ble_eq_true rfl)) d_X_divide_65 ⟨Nat.zero_le _, Nat.zero_le _⟩) hS (fun q _ h => hFc q h) hFc (fun r u t H1 locs ht hvm hw hB hz1 hk1 hS => ?_)
      obtain ⟨hP1, hK1, hD1⟩ := hB
      replace hw := hw.symm
      subst hw
      rw [ht] at hP1
      obtain ⟨hP, hD⟩ := va_join (wr := []) (w1 := [cX h_X h_M h_P h_E1 h_E2 h_E3 q_65.2.1 q_65.2.2.1 q_65.2.2.2.1, cL h_M k_M 8 q_65.2.2.2.2.1, cI h_P k_P 8 q_65.2.2.2.2.2.1, cE h_E1 q_54.1 q_65.2.2.2.2.2.2.1 q_65.2.2.2.2.2.2.2.1 q_65.2.2.2.2.2.2.2.2.1 q_65.2.2.2.2.2.2.2.2.2]) hP hD [0, 1, 2, 3] [] rfl rfl (by decide) (by decide) hk1 hFc hP1 hD1
      generalize H1 = H at hP hS ⊢
      have hP := hP.sub (ws' := [cX h_X h_M h_P h_E1 h_E2 h_E3 q_65.2.1 q_65.2.2.1 q_65.2.2.2.1, cL h_M k_M 8 q_65.2.2.2.2.1, cI h_P k_P 8 q_65.2.2.2.2.2.1, cE h_E1 q_54.1 q_65.2.2.2.2.2.2.1 q_65.2.2.2.2.2.2.2.1 q_65.2.2.2.2.2.2.2.2.1 q_65.2.2.2.2.2.2.2.2.2]) [0, 1, 2, 3] rfl
      have hD := hD.sub (ws' := [cX h_X h_M h_P h_E1 h_E2 h_E3 q_65.2.1 q_65.2.2.1 q_65.2.2.2.1, cL h_M k_M 8 q_65.2.2.2.2.1, cI h_P k_P 8 q_65.2.2.2.2.2.1, cE h_E1 q_54.1 q_65.2.2.2.2.2.2.1 q_65.2.2.2.2.2.2.2.1 q_65.2.2.2.2.2.2.2.2.1 q_65.2.2.2.2.2.2.2.2.2]) [0, 1, 2, 3] (by decide) rfl
      obtain rfl := Option.some.inj hF
      exact W.iret (v := q_65.1) hx hb hr (fun t ht hW => ⟨⟨q_65.1, (), rfl, rfl, by rw [ht]; exact hP, va_K.moved hW.alike hK, hD⟩, hS.F ht⟩) hS.2.2 d_X_divide_68
    · replace hF := hif_t c_20 hF
      refine lv_iconst (v := (-1 : Int32)) hx hb d_X_divide_23 (by decide) ?_
      obtain rfl := Option.some.inj hF
      exact W.iret (v := (-1 : Int32)) hx hb hr (fun t ht hW => ⟨⟨(-1 : Int32), (), rfl, rfl, by rw [ht]; exact hP, va_K.moved hW.alike hK, hD⟩, hS.F ht⟩) hS.2.2 d_X_divide_24
set_option maxHeartbeats 4000000 in
set_option maxRecDepth 100000 in
theorem c_X_fuse (l : Launch) (dC : Nat → ClassId) (dI : Nat → Nat → Nat) (h_X : Nat) (h_M : Nat) (h_P : Nat) (h_E1 : Nat) (h_E2 : Nat) (h_E3 : Nat) (k_M : ClassId) (k_P : ClassId) (sz : Nat) (X_lo : Int32) (X_ro : Int32) (X_rc : Int32) (M_f : Nat → Int64) (P_f : Nat → Int32) (E1_sg : Int32) (E1_hi : Int64) (E1_lo : Int64) (E1_pl : Int32) (E1_mo : Int32) (E2_sg : Int32) (E2_hi : Int64) (E2_lo : Int64) (E2_pl : Int32) (E2_mo : Int32) (a1 : Int32) (a2 : Int32) (a3 : Int32) (a4 : Int32) (o : Int32 × Int32 × Int32 × Int32 × (Nat → Int64) × (Nat → Int32) × Int32 × Int64 × Int64 × Int32 × Int32 × Int32 × Int64 × Int64 × Int32 × Int32) (hF : f_X_fuse X_lo X_ro X_rc M_f P_f E1_sg E1_hi E1_lo E1_pl E1_mo E2_sg E2_hi E2_lo E2_pl E2_mo a1 a2 a3 a4 = some o) : Met l y_X_fuse w_X_fuse ({ frames := 7, cells := 0, slots := 0, locals := 167 } : Room) (va_Pc [.ref h_X, .int a1, .int a2, .int a3, .int a4] (fun U => U.heap.size = sz ∧ va_P (dC, dI) classes [cX h_X h_M h_P h_E1 h_E2 h_E3 X_lo X_ro X_rc, cL h_M k_M 8 M_f, cI h_P k_P 8 P_f, cE h_E1 E1_sg E1_hi E1_lo E1_pl E1_mo, cE h_E2 E2_sg E2_hi E2_lo E2_pl E2_mo] U.heap ∧ va_K (dC, dI) classes [(k_M, .long), (k_P, .int)] U ∧ va_D (fun _ => True) [cX h_X h_M h_P h_E1 h_E2 h_E3 X_lo X_ro X_rc, cL h_M k_M 8 M_f, cI h_P k_P 8 P_f, cE h_E1 E1_sg E1_hi E1_lo E1_pl E1_mo, cE h_E2 E2_sg E2_hi E2_lo E2_pl E2_mo])) (va_Qi (fun (r : Int32) (_ : Unit) => r = o.1) (fun (_ : Unit) (t : State) => va_P (dC, dI) classes [cX h_X h_M h_P h_E1 h_E2 h_E3 o.2.1 o.2.2.1 o.2.2.2.1, cL h_M k_M 8 o.2.2.2.2.1, cI h_P k_P 8 o.2.2.2.2.2.1, cE h_E1 o.2.2.2.2.2.2.1 o.2.2.2.2.2.2.2.1 o.2.2.2.2.2.2.2.2.1 o.2.2.2.2.2.2.2.2.2.1 o.2.2.2.2.2.2.2.2.2.2.1, cE h_E2 o.2.2.2.2.2.2.2.2.2.2.2.1 o.2.2.2.2.2.2.2.2.2.2.2.2.1 o.2.2.2.2.2.2.2.2.2.2.2.2.2.1 o.2.2.2.2.2.2.2.2.2.2.2.2.2.2.1 o.2.2.2.2.2.2.2.2.2.2.2.2.2.2.2] t.heap ∧ va_K (dC, dI) classes [(k_M, .long), (k_P, .int)] t ∧ va_D (va_A [cX h_X h_M h_P h_E1 h_E2 h_E3 X_lo X_ro X_rc, cL h_M k_M 8 M_f, cI h_P k_P 8 P_f, cE h_E1 E1_sg E1_hi E1_lo E1_pl E1_mo, cE h_E2 E2_sg E2_hi E2_lo E2_pl E2_mo] sz) [cX h_X h_M h_P h_E1 h_E2 h_E3 o.2.1 o.2.2.1 o.2.2.2.1, cL h_M k_M 8 o.2.2.2.2.1, cI h_P k_P 8 o.2.2.2.2.2.1, cE h_E1 o.2.2.2.2.2.2.1 o.2.2.2.2.2.2.2.1 o.2.2.2.2.2.2.2.2.1 o.2.2.2.2.2.2.2.2.2.1 o.2.2.2.2.2.2.2.2.2.2.1, cE h_E2 o.2.2.2.2.2.2.2.2.2.2.2.1 o.2.2.2.2.2.2.2.2.2.2.2.2.1 o.2.2.2.2.2.2.2.2.2.2.2.2.2.1 o.2.2.2.2.2.2.2.2.2.2.2.2.2.2.1 o.2.2.2.2.2.2.2.2.2.2.2.2.2.2.2]) (va_A [cX h_X h_M h_P h_E1 h_E2 h_E3 X_lo X_ro X_rc, cL h_M k_M 8 M_f, cI h_P k_P 8 P_f, cE h_E1 E1_sg E1_hi E1_lo E1_pl E1_mo, cE h_E2 E2_sg E2_hi E2_lo E2_pl E2_mo] sz)) 0 0 (va_A [cX h_X h_M h_P h_E1 h_E2 h_E3 X_lo X_ro X_rc, cL h_M k_M 8 M_f, cI h_P k_P 8 P_f, cE h_E1 E1_sg E1_hi E1_lo E1_pl E1_mo, cE h_E2 E2_sg E2_hi E2_lo E2_pl E2_mo] sz) := by
  refine Met.ofW (cc := prog_1_method_7_code) (maxL := 5) (ret := (some .int)) (by decide) rfl ?_
  intro p e s m args below meth c s₁ B hml hv
  obtain ⟨rfl, hsz, hP, hK, hD0⟩ := hv
  have hx := B.exec
  have hb := B.bytes
  have hr := B.returns
  have hts0 := atoms_spec (ws := w_X_fuse) B.pre
  have hts : ∀ w ∈ tb, w.before _ s = true := fun w h => hts0 w (List.mem_cons_of_mem _ h)
  clear hts0
  have hown : s.vm.findClass "RoundedNumbers" = some m.cls := findClass_of_methodNamed B.named
  have hlocks := B.notSynchronized
  subst hsz
  have hD := hD0.self (sz := s.heap.size)
  generalize hAe : va_A [cX h_X h_M h_P h_E1 h_E2 h_E3 X_lo X_ro X_rc, cL h_M k_M 8 M_f, cI h_P k_P 8 P_f, cE h_E1 E1_sg E1_hi E1_lo E1_pl E1_mo, cE h_E2 E2_sg E2_hi E2_lo E2_pl E2_mo] s.heap.size = A at hD ⊢
  have hA : ∀ q : Nat, s.heap.size ≤ q → A q := fun q h => by rw [← hAe]; exact Or.inr h
  clear hAe
  have hS : va_S A s.heap s.heap [] := va_S.rf
  have hP : va_P (dC, dI) classes [cX h_X h_M h_P h_E1 h_E2 h_E3 X_lo X_ro X_rc, cL h_M k_M 8 M_f, cI h_P k_P 8 P_f, cE h_E1 E1_sg E1_hi E1_lo E1_pl E1_mo, cE h_E2 E2_sg E2_hi E2_lo E2_pl E2_mo] s.heap := hP
  have hl := lv_entry ([.ref h_X, .int a1, .int a2, .int a3, .int a4]) (n := 5) (Nat.le_of_ble_eq_true rfl)
  rw [lg_entry_eq]
  generalize (lg_sl ([.ref h_X, .int a1, .int a2, .int a3, .int a4]) ++ List.replicate (5 - (lg_sl ([.ref h_X, .int a1, .int a2, .int a3, .int a4])).length) Slot.unset).toArray = ls at hl ⊢
  have hl : lv_has ls 5 [(0, .ref h_X), (1, .int a1), (2, .int a2), (3, .int a3), (4, .int a4)] := hl
  unfold f_X_fuse at hF
  refine lv_aload_n hx hb d_X_fuse_0 rfl (lv_at hl 0 rfl) ?_
  refine lv_iload_n hx hb d_X_fuse_1 rfl (lv_at hl 1 rfl) ?_
  refine lv_iload_n hx hb d_X_fuse_2 rfl (lv_at hl 2 rfl) ?_
  refine lv_iload_n hx hb d_X_fuse_3 rfl (lv_at hl 3 rfl) ?_
  refine lv_iload hx hb d_X_fuse_4 (lv_at hl 4 rfl) ?_
  refine lv_iconst (v := (0 : Int32)) hx hb d_X_fuse_6 (by decide) ?_
  obtain ⟨q_7, hC_7, hF⟩ := hbd hF
  have hPc := hP.sub (ws' := [cX h_X h_M h_P h_E1 h_E2 h_E3 X_lo X_ro X_rc, cL h_M k_M 8 M_f, cI h_P k_P 8 P_f, cE h_E1 E1_sg E1_hi E1_lo E1_pl E1_mo, cE h_E2 E2_sg E2_hi E2_lo E2_pl E2_mo]) [0, 1, 2, 3, 4] rfl
  have hDc := hD.sub (ws' := [cX h_X h_M h_P h_E1 h_E2 h_E3 X_lo X_ro X_rc, cL h_M k_M 8 M_f, cI h_P k_P 8 P_f, cE h_E1 E1_sg E1_hi E1_lo E1_pl E1_mo, cE h_E2 E2_sg E2_hi E2_lo E2_pl E2_mo]) [0, 1, 2, 3, 4] (by decide) rfl
  have hKc := hK.sub (tys' := [(k_M, .long), (k_P, .int)]) [0, 1] rfl
  have hFc := va_free (wc := [cX h_X h_M h_P h_E1 h_E2 h_E3 X_lo X_ro X_rc, cL h_M k_M 8 M_f, cI h_P k_P 8 P_f, cE h_E1 E1_sg E1_hi E1_lo E1_pl E1_mo, cE h_E2 E2_sg E2_hi E2_lo E2_pl E2_mo]) hD hS hA [0, 1, 2, 3, 4] rfl
  refine va_calli (va_runV (As := [.int a1, .int a2, .int a3, .int a4, .int (0 : Int32)]) (rest := []) ⟨hx, hb, hml, hown, hts⟩ (c_X_productPlus l dC dI h_X h_M h_P h_E1 h_E2 h_E3 k_M k_P s.heap.size X_lo X_ro X_rc M_f P_f E1_sg E1_hi E1_lo E1_pl E1_mo E2_sg E2_hi E2_lo E2_pl E2_mo a1 a2 a3 a4 (0 : Int32) q_7 hC_7) (cwV 5 hts g_X_73_X_productPlus rfl rfl rfl (by decide +kernel) ⟨Nat.le_of_ble_eq_true rfl, Nat.le_of_ble_eq_true rfl⟩) ⟨fun a U g mk q => by obtain ⟨q0, q1, qP, qK, qD⟩ := q; exact ⟨q0, q1, qP, va_K.moved (u := U) (U := U.calling g mk a) (Vm.Alike.refl U.vm) qK, qD⟩, va_recv hKc hPc (ci := 1) (q0 := 0) rfl rfl, fun U hU hW => ⟨rfl, by rw [hU], by rw [hU]; exact hPc, va_K.moved hW.alike hKc, hDc.weaken (fun _ _ _ _ => trivial)⟩⟩ rfl rfl hl.1 rfl (lv_room (Nat.le_of_ble_eq_true rfl)) d_X_fuse_7 ⟨Nat.zero_le _, Nat.zero_le _⟩) hS (fun q _ h => hFc q h) hFc (fun r u t H1 locs ht hvm hw hB hz1 hk1 hS => ?_)
  obtain ⟨hP1, hK1, hD1⟩ := hB
  replace hw := hw.symm
  subst hw
  rw [ht] at hP1
  obtain ⟨hP, hD⟩ := va_join (wr := []) (w1 := [cX h_X h_M h_P h_E1 h_E2 h_E3 q_7.2.1 q_7.2.2.1 q_7.2.2.2.1, cL h_M k_M 8 q_7.2.2.2.2.1, cI h_P k_P 8 q_7.2.2.2.2.2.1, cE h_E1 q_7.2.2.2.2.2.2.1 q_7.2.2.2.2.2.2.2.1 q_7.2.2.2.2.2.2.2.2.1 q_7.2.2.2.2.2.2.2.2.2.1 q_7.2.2.2.2.2.2.2.2.2.2.1, cE h_E2 q_7.2.2.2.2.2.2.2.2.2.2.2.1 q_7.2.2.2.2.2.2.2.2.2.2.2.2.1 q_7.2.2.2.2.2.2.2.2.2.2.2.2.2.1 q_7.2.2.2.2.2.2.2.2.2.2.2.2.2.2.1 q_7.2.2.2.2.2.2.2.2.2.2.2.2.2.2.2]) hP hD [0, 1, 2, 3, 4] [] rfl rfl (by decide) (by decide) hk1 hFc hP1 hD1
  generalize H1 = H at hP hS ⊢
  have hP := hP.sub (ws' := [cX h_X h_M h_P h_E1 h_E2 h_E3 q_7.2.1 q_7.2.2.1 q_7.2.2.2.1, cL h_M k_M 8 q_7.2.2.2.2.1, cI h_P k_P 8 q_7.2.2.2.2.2.1, cE h_E1 q_7.2.2.2.2.2.2.1 q_7.2.2.2.2.2.2.2.1 q_7.2.2.2.2.2.2.2.2.1 q_7.2.2.2.2.2.2.2.2.2.1 q_7.2.2.2.2.2.2.2.2.2.2.1, cE h_E2 q_7.2.2.2.2.2.2.2.2.2.2.2.1 q_7.2.2.2.2.2.2.2.2.2.2.2.2.1 q_7.2.2.2.2.2.2.2.2.2.2.2.2.2.1 q_7.2.2.2.2.2.2.2.2.2.2.2.2.2.2.1 q_7.2.2.2.2.2.2.2.2.2.2.2.2.2.2.2]) [0, 1, 2, 3, 4] rfl
  have hD := hD.sub (ws' := [cX h_X h_M h_P h_E1 h_E2 h_E3 q_7.2.1 q_7.2.2.1 q_7.2.2.2.1, cL h_M k_M 8 q_7.2.2.2.2.1, cI h_P k_P 8 q_7.2.2.2.2.2.1, cE h_E1 q_7.2.2.2.2.2.2.1 q_7.2.2.2.2.2.2.2.1 q_7.2.2.2.2.2.2.2.2.1 q_7.2.2.2.2.2.2.2.2.2.1 q_7.2.2.2.2.2.2.2.2.2.2.1, cE h_E2 q_7.2.2.2.2.2.2.2.2.2.2.2.1 q_7.2.2.2.2.2.2.2.2.2.2.2.2.1 q_7.2.2.2.2.2.2.2.2.2.2.2.2.2.1 q_7.2.2.2.2.2.2.2.2.2.2.2.2.2.2.1 q_7.2.2.2.2.2.2.2.2.2.2.2.2.2.2.2]) [0, 1, 2, 3, 4] (by decide) rfl
  obtain rfl := Option.some.inj hF
  exact W.iret (v := q_7.1) hx hb hr (fun t ht hW => ⟨⟨q_7.1, (), rfl, rfl, by rw [ht]; exact hP, va_K.moved hW.alike hK, hD⟩, hS.F ht⟩) hS.2.2 d_X_fuse_10
set_option maxHeartbeats 4000000 in
set_option maxRecDepth 100000 in
theorem c_X_fuseNarrow (l : Launch) (dC : Nat → ClassId) (dI : Nat → Nat → Nat) (h_X : Nat) (h_M : Nat) (h_P : Nat) (h_E1 : Nat) (h_E2 : Nat) (h_E3 : Nat) (k_M : ClassId) (k_P : ClassId) (sz : Nat) (X_lo : Int32) (X_ro : Int32) (X_rc : Int32) (M_f : Nat → Int64) (P_f : Nat → Int32) (E1_sg : Int32) (E1_hi : Int64) (E1_lo : Int64) (E1_pl : Int32) (E1_mo : Int32) (E2_sg : Int32) (E2_hi : Int64) (E2_lo : Int64) (E2_pl : Int32) (E2_mo : Int32) (a1 : Int32) (a2 : Int32) (a3 : Int32) (a4 : Int32) (o : Int32 × Int32 × Int32 × Int32 × (Nat → Int64) × (Nat → Int32) × Int32 × Int64 × Int64 × Int32 × Int32 × Int32 × Int64 × Int64 × Int32 × Int32) (hF : f_X_fuseNarrow X_lo X_ro X_rc M_f P_f E1_sg E1_hi E1_lo E1_pl E1_mo E2_sg E2_hi E2_lo E2_pl E2_mo a1 a2 a3 a4 = some o) : Met l y_X_fuseNarrow w_X_fuseNarrow ({ frames := 7, cells := 0, slots := 0, locals := 167 } : Room) (va_Pc [.ref h_X, .int a1, .int a2, .int a3, .int a4] (fun U => U.heap.size = sz ∧ va_P (dC, dI) classes [cX h_X h_M h_P h_E1 h_E2 h_E3 X_lo X_ro X_rc, cL h_M k_M 8 M_f, cI h_P k_P 8 P_f, cE h_E1 E1_sg E1_hi E1_lo E1_pl E1_mo, cE h_E2 E2_sg E2_hi E2_lo E2_pl E2_mo] U.heap ∧ va_K (dC, dI) classes [(k_M, .long), (k_P, .int)] U ∧ va_D (fun _ => True) [cX h_X h_M h_P h_E1 h_E2 h_E3 X_lo X_ro X_rc, cL h_M k_M 8 M_f, cI h_P k_P 8 P_f, cE h_E1 E1_sg E1_hi E1_lo E1_pl E1_mo, cE h_E2 E2_sg E2_hi E2_lo E2_pl E2_mo])) (va_Qi (fun (r : Int32) (_ : Unit) => r = o.1) (fun (_ : Unit) (t : State) => va_P (dC, dI) classes [cX h_X h_M h_P h_E1 h_E2 h_E3 o.2.1 o.2.2.1 o.2.2.2.1, cL h_M k_M 8 o.2.2.2.2.1, cI h_P k_P 8 o.2.2.2.2.2.1, cE h_E1 o.2.2.2.2.2.2.1 o.2.2.2.2.2.2.2.1 o.2.2.2.2.2.2.2.2.1 o.2.2.2.2.2.2.2.2.2.1 o.2.2.2.2.2.2.2.2.2.2.1, cE h_E2 o.2.2.2.2.2.2.2.2.2.2.2.1 o.2.2.2.2.2.2.2.2.2.2.2.2.1 o.2.2.2.2.2.2.2.2.2.2.2.2.2.1 o.2.2.2.2.2.2.2.2.2.2.2.2.2.2.1 o.2.2.2.2.2.2.2.2.2.2.2.2.2.2.2] t.heap ∧ va_K (dC, dI) classes [(k_M, .long), (k_P, .int)] t ∧ va_D (va_A [cX h_X h_M h_P h_E1 h_E2 h_E3 X_lo X_ro X_rc, cL h_M k_M 8 M_f, cI h_P k_P 8 P_f, cE h_E1 E1_sg E1_hi E1_lo E1_pl E1_mo, cE h_E2 E2_sg E2_hi E2_lo E2_pl E2_mo] sz) [cX h_X h_M h_P h_E1 h_E2 h_E3 o.2.1 o.2.2.1 o.2.2.2.1, cL h_M k_M 8 o.2.2.2.2.1, cI h_P k_P 8 o.2.2.2.2.2.1, cE h_E1 o.2.2.2.2.2.2.1 o.2.2.2.2.2.2.2.1 o.2.2.2.2.2.2.2.2.1 o.2.2.2.2.2.2.2.2.2.1 o.2.2.2.2.2.2.2.2.2.2.1, cE h_E2 o.2.2.2.2.2.2.2.2.2.2.2.1 o.2.2.2.2.2.2.2.2.2.2.2.2.1 o.2.2.2.2.2.2.2.2.2.2.2.2.2.1 o.2.2.2.2.2.2.2.2.2.2.2.2.2.2.1 o.2.2.2.2.2.2.2.2.2.2.2.2.2.2.2]) (va_A [cX h_X h_M h_P h_E1 h_E2 h_E3 X_lo X_ro X_rc, cL h_M k_M 8 M_f, cI h_P k_P 8 P_f, cE h_E1 E1_sg E1_hi E1_lo E1_pl E1_mo, cE h_E2 E2_sg E2_hi E2_lo E2_pl E2_mo] sz)) 0 0 (va_A [cX h_X h_M h_P h_E1 h_E2 h_E3 X_lo X_ro X_rc, cL h_M k_M 8 M_f, cI h_P k_P 8 P_f, cE h_E1 E1_sg E1_hi E1_lo E1_pl E1_mo, cE h_E2 E2_sg E2_hi E2_lo E2_pl E2_mo] sz) := by
  refine Met.ofW (cc := prog_1_method_8_code) (maxL := 5) (ret := (some .int)) (by decide) rfl ?_
  intro p e s m args below meth c s₁ B hml hv
  obtain ⟨rfl, hsz, hP, hK, hD0⟩ := hv
  have hx := B.exec
  have hb := B.bytes
  have hr := B.returns
  have hts0 := atoms_spec (ws := w_X_fuseNarrow) B.pre
  have hts : ∀ w ∈ tb, w.before _ s = true := fun w h => hts0 w (List.mem_cons_of_mem _ h)
  clear hts0
  have hown : s.vm.findClass "RoundedNumbers" = some m.cls := findClass_of_methodNamed B.named
  have hlocks := B.notSynchronized
  subst hsz
  have hD := hD0.self (sz := s.heap.size)
  generalize hAe : va_A [cX h_X h_M h_P h_E1 h_E2 h_E3 X_lo X_ro X_rc, cL h_M k_M 8 M_f, cI h_P k_P 8 P_f, cE h_E1 E1_sg E1_hi E1_lo E1_pl E1_mo, cE h_E2 E2_sg E2_hi E2_lo E2_pl E2_mo] s.heap.size = A at hD ⊢
  have hA : ∀ q : Nat, s.heap.size ≤ q → A q := fun q h => by rw [← hAe]; exact Or.inr h
  clear hAe
  have hS : va_S A s.heap s.heap [] := va_S.rf
  have hP : va_P (dC, dI) classes [cX h_X h_M h_P h_E1 h_E2 h_E3 X_lo X_ro X_rc, cL h_M k_M 8 M_f, cI h_P k_P 8 P_f, cE h_E1 E1_sg E1_hi E1_lo E1_pl E1_mo, cE h_E2 E2_sg E2_hi E2_lo E2_pl E2_mo] s.heap := hP
  have hl := lv_entry ([.ref h_X, .int a1, .int a2, .int a3, .int a4]) (n := 5) (Nat.le_of_ble_eq_true rfl)
  rw [lg_entry_eq]
  generalize (lg_sl ([.ref h_X, .int a1, .int a2, .int a3, .int a4]) ++ List.replicate (5 - (lg_sl ([.ref h_X, .int a1, .int a2, .int a3, .int a4])).length) Slot.unset).toArray = ls at hl ⊢
  have hl : lv_has ls 5 [(0, .ref h_X), (1, .int a1), (2, .int a2), (3, .int a3), (4, .int a4)] := hl
  unfold f_X_fuseNarrow at hF
  refine lv_aload_n hx hb d_X_fuseNarrow_0 rfl (lv_at hl 0 rfl) ?_
  refine lv_iload_n hx hb d_X_fuseNarrow_1 rfl (lv_at hl 1 rfl) ?_
  refine lv_iload_n hx hb d_X_fuseNarrow_2 rfl (lv_at hl 2 rfl) ?_
  refine lv_iload_n hx hb d_X_fuseNarrow_3 rfl (lv_at hl 3 rfl) ?_
  refine lv_iload hx hb d_X_fuseNarrow_4 (lv_at hl 4 rfl) ?_
  refine lv_iconst (v := (1 : Int32)) hx hb d_X_fuseNarrow_6 (by decide) ?_
  obtain ⟨q_7, hC_7, hF⟩ := hbd hF
  have hPc := hP.sub (ws' := [cX h_X h_M h_P h_E1 h_E2 h_E3 X_lo X_ro X_rc, cL h_M k_M 8 M_f, cI h_P k_P 8 P_f, cE h_E1 E1_sg E1_hi E1_lo E1_pl E1_mo, cE h_E2 E2_sg E2_hi E2_lo E2_pl E2_mo]) [0, 1, 2, 3, 4] rfl
  have hDc := hD.sub (ws' := [cX h_X h_M h_P h_E1 h_E2 h_E3 X_lo X_ro X_rc, cL h_M k_M 8 M_f, cI h_P k_P 8 P_f, cE h_E1 E1_sg E1_hi E1_lo E1_pl E1_mo, cE h_E2 E2_sg E2_hi E2_lo E2_pl E2_mo]) [0, 1, 2, 3, 4] (by decide) rfl
  have hKc := hK.sub (tys' := [(k_M, .long), (k_P, .int)]) [0, 1] rfl
  have hFc := va_free (wc := [cX h_X h_M h_P h_E1 h_E2 h_E3 X_lo X_ro X_rc, cL h_M k_M 8 M_f, cI h_P k_P 8 P_f, cE h_E1 E1_sg E1_hi E1_lo E1_pl E1_mo, cE h_E2 E2_sg E2_hi E2_lo E2_pl E2_mo]) hD hS hA [0, 1, 2, 3, 4] rfl
  refine va_calli (va_runV (As := [.int a1, .int a2, .int a3, .int a4, .int (1 : Int32)]) (rest := []) ⟨hx, hb, hml, hown, hts⟩ (c_X_productPlus l dC dI h_X h_M h_P h_E1 h_E2 h_E3 k_M k_P s.heap.size X_lo X_ro X_rc M_f P_f E1_sg E1_hi E1_lo E1_pl E1_mo E2_sg E2_hi E2_lo E2_pl E2_mo a1 a2 a3 a4 (1 : Int32) q_7 hC_7) (cwV 5 hts g_X_73_X_productPlus rfl rfl rfl (by decide +kernel) ⟨Nat.le_of_ble_eq_true rfl, Nat.le_of_ble_eq_true rfl⟩) ⟨fun a U g mk q => by obtain ⟨q0, q1, qP, qK, qD⟩ := q; exact ⟨q0, q1, qP, va_K.moved (u := U) (U := U.calling g mk a) (Vm.Alike.refl U.vm) qK, qD⟩, va_recv hKc hPc (ci := 1) (q0 := 0) rfl rfl, fun U hU hW => ⟨rfl, by rw [hU], by rw [hU]; exact hPc, va_K.moved hW.alike hKc, hDc.weaken (fun _ _ _ _ => trivial)⟩⟩ rfl rfl hl.1 rfl (lv_room (Nat.le_of_ble_eq_true rfl)) d_X_fuseNarrow_7 ⟨Nat.zero_le _, Nat.zero_le _⟩) hS (fun q _ h => hFc q h) hFc (fun r u t H1 locs ht hvm hw hB hz1 hk1 hS => ?_)
  obtain ⟨hP1, hK1, hD1⟩ := hB
  replace hw := hw.symm
  subst hw
  rw [ht] at hP1
  obtain ⟨hP, hD⟩ := va_join (wr := []) (w1 := [cX h_X h_M h_P h_E1 h_E2 h_E3 q_7.2.1 q_7.2.2.1 q_7.2.2.2.1, cL h_M k_M 8 q_7.2.2.2.2.1, cI h_P k_P 8 q_7.2.2.2.2.2.1, cE h_E1 q_7.2.2.2.2.2.2.1 q_7.2.2.2.2.2.2.2.1 q_7.2.2.2.2.2.2.2.2.1 q_7.2.2.2.2.2.2.2.2.2.1 q_7.2.2.2.2.2.2.2.2.2.2.1, cE h_E2 q_7.2.2.2.2.2.2.2.2.2.2.2.1 q_7.2.2.2.2.2.2.2.2.2.2.2.2.1 q_7.2.2.2.2.2.2.2.2.2.2.2.2.2.1 q_7.2.2.2.2.2.2.2.2.2.2.2.2.2.2.1 q_7.2.2.2.2.2.2.2.2.2.2.2.2.2.2.2]) hP hD [0, 1, 2, 3, 4] [] rfl rfl (by decide) (by decide) hk1 hFc hP1 hD1
  generalize H1 = H at hP hS ⊢
  have hP := hP.sub (ws' := [cX h_X h_M h_P h_E1 h_E2 h_E3 q_7.2.1 q_7.2.2.1 q_7.2.2.2.1, cL h_M k_M 8 q_7.2.2.2.2.1, cI h_P k_P 8 q_7.2.2.2.2.2.1, cE h_E1 q_7.2.2.2.2.2.2.1 q_7.2.2.2.2.2.2.2.1 q_7.2.2.2.2.2.2.2.2.1 q_7.2.2.2.2.2.2.2.2.2.1 q_7.2.2.2.2.2.2.2.2.2.2.1, cE h_E2 q_7.2.2.2.2.2.2.2.2.2.2.2.1 q_7.2.2.2.2.2.2.2.2.2.2.2.2.1 q_7.2.2.2.2.2.2.2.2.2.2.2.2.2.1 q_7.2.2.2.2.2.2.2.2.2.2.2.2.2.2.1 q_7.2.2.2.2.2.2.2.2.2.2.2.2.2.2.2]) [0, 1, 2, 3, 4] rfl
  have hD := hD.sub (ws' := [cX h_X h_M h_P h_E1 h_E2 h_E3 q_7.2.1 q_7.2.2.1 q_7.2.2.2.1, cL h_M k_M 8 q_7.2.2.2.2.1, cI h_P k_P 8 q_7.2.2.2.2.2.1, cE h_E1 q_7.2.2.2.2.2.2.1 q_7.2.2.2.2.2.2.2.1 q_7.2.2.2.2.2.2.2.2.1 q_7.2.2.2.2.2.2.2.2.2.1 q_7.2.2.2.2.2.2.2.2.2.2.1, cE h_E2 q_7.2.2.2.2.2.2.2.2.2.2.2.1 q_7.2.2.2.2.2.2.2.2.2.2.2.2.1 q_7.2.2.2.2.2.2.2.2.2.2.2.2.2.1 q_7.2.2.2.2.2.2.2.2.2.2.2.2.2.2.1 q_7.2.2.2.2.2.2.2.2.2.2.2.2.2.2.2]) [0, 1, 2, 3, 4] (by decide) rfl
  obtain rfl := Option.some.inj hF
  exact W.iret (v := q_7.1) hx hb hr (fun t ht hW => ⟨⟨q_7.1, (), rfl, rfl, by rw [ht]; exact hP, va_K.moved hW.alike hK, hD⟩, hS.F ht⟩) hS.2.2 d_X_fuseNarrow_10
set_option maxHeartbeats 4000000 in
set_option maxRecDepth 100000 in
theorem c_X_root (l : Launch) (dC : Nat → ClassId) (dI : Nat → Nat → Nat) (h_X : Nat) (h_M : Nat) (h_P : Nat) (h_E1 : Nat) (h_E2 : Nat) (h_E3 : Nat) (k_M : ClassId) (k_P : ClassId) (sz : Nat) (X_lo : Int32) (X_ro : Int32) (X_rc : Int32) (M_f : Nat → Int64) (P_f : Nat → Int32) (E1_sg : Int32) (E1_hi : Int64) (E1_lo : Int64) (E1_pl : Int32) (E1_mo : Int32) (a1 : Int32) (a2 : Int32) (a3 : Int32) (o : Int32 × Int32 × Int32 × Int32 × (Nat → Int64) × (Nat → Int32) × Int32 × Int64 × Int64 × Int32 × Int32) (hF : f_X_root X_lo X_ro X_rc M_f P_f E1_sg E1_hi E1_lo E1_pl E1_mo a1 a2 a3 = some o) : Met l y_X_root w_X_root ({ frames := 6, cells := 0, slots := 0, locals := 142 } : Room) (va_Pc [.ref h_X, .int a1, .int a2, .int a3] (fun U => U.heap.size = sz ∧ va_P (dC, dI) classes [cX h_X h_M h_P h_E1 h_E2 h_E3 X_lo X_ro X_rc, cL h_M k_M 8 M_f, cI h_P k_P 8 P_f, cE h_E1 E1_sg E1_hi E1_lo E1_pl E1_mo] U.heap ∧ va_K (dC, dI) classes [(k_M, .long), (k_P, .int)] U ∧ va_D (fun _ => True) [cX h_X h_M h_P h_E1 h_E2 h_E3 X_lo X_ro X_rc, cL h_M k_M 8 M_f, cI h_P k_P 8 P_f, cE h_E1 E1_sg E1_hi E1_lo E1_pl E1_mo])) (va_Qi (fun (r : Int32) (_ : Unit) => r = o.1) (fun (_ : Unit) (t : State) => va_P (dC, dI) classes [cX h_X h_M h_P h_E1 h_E2 h_E3 o.2.1 o.2.2.1 o.2.2.2.1, cL h_M k_M 8 o.2.2.2.2.1, cI h_P k_P 8 o.2.2.2.2.2.1, cE h_E1 o.2.2.2.2.2.2.1 o.2.2.2.2.2.2.2.1 o.2.2.2.2.2.2.2.2.1 o.2.2.2.2.2.2.2.2.2.1 o.2.2.2.2.2.2.2.2.2.2] t.heap ∧ va_K (dC, dI) classes [(k_M, .long), (k_P, .int)] t ∧ va_D (va_A [cX h_X h_M h_P h_E1 h_E2 h_E3 X_lo X_ro X_rc, cL h_M k_M 8 M_f, cI h_P k_P 8 P_f, cE h_E1 E1_sg E1_hi E1_lo E1_pl E1_mo] sz) [cX h_X h_M h_P h_E1 h_E2 h_E3 o.2.1 o.2.2.1 o.2.2.2.1, cL h_M k_M 8 o.2.2.2.2.1, cI h_P k_P 8 o.2.2.2.2.2.1, cE h_E1 o.2.2.2.2.2.2.1 o.2.2.2.2.2.2.2.1 o.2.2.2.2.2.2.2.2.1 o.2.2.2.2.2.2.2.2.2.1 o.2.2.2.2.2.2.2.2.2.2]) (va_A [cX h_X h_M h_P h_E1 h_E2 h_E3 X_lo X_ro X_rc, cL h_M k_M 8 M_f, cI h_P k_P 8 P_f, cE h_E1 E1_sg E1_hi E1_lo E1_pl E1_mo] sz)) 0 0 (va_A [cX h_X h_M h_P h_E1 h_E2 h_E3 X_lo X_ro X_rc, cL h_M k_M 8 M_f, cI h_P k_P 8 P_f, cE h_E1 E1_sg E1_hi E1_lo E1_pl E1_mo] sz) := by
  refine Met.ofW (cc := prog_1_method_9_code) (maxL := 4) (ret := (some .int)) (by decide) rfl ?_
  intro p e s m args below meth c s₁ B hml hv
  obtain ⟨rfl, hsz, hP, hK, hD0⟩ := hv
  have hx := B.exec
  have hb := B.bytes
  have hr := B.returns
  have hts0 := atoms_spec (ws := w_X_root) B.pre
  have hts : ∀ w ∈ tb, w.before _ s = true := fun w h => hts0 w (List.mem_cons_of_mem _ h)
  clear hts0
  have hown : s.vm.findClass "RoundedNumbers" = some m.cls := findClass_of_methodNamed B.named
  have hlocks := B.notSynchronized
  subst hsz
  have hD := hD0.self (sz := s.heap.size)
  generalize hAe : va_A [cX h_X h_M h_P h_E1 h_E2 h_E3 X_lo X_ro X_rc, cL h_M k_M 8 M_f, cI h_P k_P 8 P_f, cE h_E1 E1_sg E1_hi E1_lo E1_pl E1_mo] s.heap.size = A at hD ⊢
  have hA : ∀ q : Nat, s.heap.size ≤ q → A q := fun q h => by rw [← hAe]; exact Or.inr h
  clear hAe
  have hS : va_S A s.heap s.heap [] := va_S.rf
  have hP : va_P (dC, dI) classes [cX h_X h_M h_P h_E1 h_E2 h_E3 X_lo X_ro X_rc, cL h_M k_M 8 M_f, cI h_P k_P 8 P_f, cE h_E1 E1_sg E1_hi E1_lo E1_pl E1_mo] s.heap := hP
  have hl := lv_entry ([.ref h_X, .int a1, .int a2, .int a3]) (n := 4) (Nat.le_of_ble_eq_true rfl)
  rw [lg_entry_eq]
  generalize (lg_sl ([.ref h_X, .int a1, .int a2, .int a3]) ++ List.replicate (4 - (lg_sl ([.ref h_X, .int a1, .int a2, .int a3])).length) Slot.unset).toArray = ls at hl ⊢
  have hl : lv_has ls 4 [(0, .ref h_X), (1, .int a1), (2, .int a2), (3, .int a3)] := hl
  unfold f_X_root at hF
  refine lv_aload_n hx hb d_X_root_0 rfl (lv_at hl 0 rfl) ?_
  refine lv_iload_n hx hb d_X_root_1 rfl (lv_at hl 1 rfl) ?_
  refine lv_iload_n hx hb d_X_root_2 rfl (lv_at hl 2 rfl) ?_
  refine lv_iload_n hx hb d_X_root_3 rfl (lv_at hl 2 rfl) ?_
  refine lv_iload_n hx hb d_X_root_4 rfl (lv_at hl 3 rfl) ?_
  obtain ⟨q_5, hC_5, hF⟩ := hbd hF
  have hPc := hP.sub (ws' := [cX h_X h_M h_P h_E1 h_E2 h_E3 X_lo X_ro X_rc, cL h_M k_M 8 M_f]) [0, 1] rfl
  have hDc := hD.sub (ws' := [cX h_X h_M h_P h_E1 h_E2 h_E3 X_lo X_ro X_rc, cL h_M k_M 8 M_f]) [0, 1] (by decide) rfl
  have hKc := hK.sub (tys' := [(k_M, .long)]) [0] rfl
  have hFc := va_free (wc := [cX h_X h_M h_P h_E1 h_E2 h_E3 X_lo X_ro X_rc, cL h_M k_M 8 M_f]) hD hS hA [0, 1] rfl
  refine va_calli (va_runV (As := [.int a1, .int a2, .int a2, .int a3]) (rest := []) ⟨hx, hb, hml, hown, hts⟩ (c_X_mayTake l dC dI h_X h_M h_P h_E1 h_E2 h_E3 k_M s.heap.size X_lo X_ro X_rc M_f a1 a2 a2 a3 q_5 hC_5) (cwV 4 hts g_X_50_X_mayTake rfl rfl rfl (by decide +kernel) ⟨Nat.le_of_ble_eq_true rfl, Nat.le_of_ble_eq_true rfl⟩) ⟨fun a U g mk q => by obtain ⟨q0, q1, qP, qK, qD⟩ := q; exact ⟨q0, q1, qP, va_K.moved (u := U) (U := U.calling g mk a) (Vm.Alike.refl U.vm) qK, qD⟩, va_recv hKc hPc (ci := 1) (q0 := 0) rfl rfl, fun U hU hW => ⟨rfl, by rw [hU], by rw [hU]; exact hPc, va_K.moved hW.alike hKc, hDc.weaken (fun _ _ _ _ => trivial)⟩⟩ rfl rfl hl.1 rfl (lv_room (Nat.le_of_ble_eq_true rfl)) d_X_root_5 ⟨Nat.zero_le _, Nat.zero_le _⟩) hS (fun q _ h => hFc q h) hFc (fun r u t H1 locs ht hvm hw hB hz1 hk1 hS => ?_)
  obtain ⟨hP1, hK1, hD1⟩ := hB
  replace hw := hw.symm
  subst hw
  rw [ht] at hP1
  obtain ⟨hP, hD⟩ := va_join (wr := [cI h_P k_P 8 P_f, cE h_E1 E1_sg E1_hi E1_lo E1_pl E1_mo]) (w1 := [cX h_X h_M h_P h_E1 h_E2 h_E3 X_lo X_ro X_rc, cL h_M k_M 8 M_f]) hP hD [0, 1] [2, 3] rfl rfl (by decide) (by decide) hk1 hFc hP1 hD1
  generalize H1 = H at hP hS ⊢
  have hP := hP.sub (ws' := [cX h_X h_M h_P h_E1 h_E2 h_E3 X_lo X_ro X_rc, cL h_M k_M 8 M_f, cI h_P k_P 8 P_f, cE h_E1 E1_sg E1_hi E1_lo E1_pl E1_mo]) [2, 3, 0, 1] rfl
  have hD := hD.sub (ws' := [cX h_X h_M h_P h_E1 h_E2 h_E3 X_lo X_ro X_rc, cL h_M k_M 8 M_f, cI h_P k_P 8 P_f, cE h_E1 E1_sg E1_hi E1_lo E1_pl E1_mo]) [2, 3, 0, 1] (by decide) rfl
  refine lv_if_eq (tgt := 22) hx hb d_X_root_8 (by decide) (fun c_8 => ?_) (fun c_8 => ?_)
  · replace hF := hif_t c_8 hF
    refine lv_iconst (v := (-1 : Int32)) hx hb d_X_root_22 (by decide) ?_
    obtain rfl := Option.some.inj hF
    exact W.iret (v := (-1 : Int32)) hx hb hr (fun t ht hW => ⟨⟨(-1 : Int32), (), rfl, rfl, by rw [ht]; exact hP, va_K.moved hW.alike hK, hD⟩, hS.F ht⟩) hS.2.2 d_X_root_23
  · replace hF := hif_f c_8 hF
    refine lv_aload_n hx hb d_X_root_11 rfl (lv_at hl 0 rfl) ?_
    refine va_get (D := (dC, dI)) (ci := 1) (v := .ref h_M) (C := "RoundedNumbers") (T := F_X) (N := 8) hx hb hts in_X hown hK hP 0 rfl rfl 0 (by decide) (hts _ tw_43) (fun _ h9 => h9) rfl d_X_root_12 ?_
    refine lv_iload_n hx hb d_X_root_15 rfl (lv_at hl 2 rfl) ?_
    have c_16 : ¬ (a2 < 0 ∨ 8 ≤ a2.toNatClampNeg) := hif_n hF
    replace hF := hif_f c_16 hF
    refine va_lald hx hb hK hP 1 0 rfl rfl c_16 d_X_root_16 ?_
    refine lv_lconst (v := (0 : Int64)) hx hb d_X_root_17 (by decide) ?_
    refine W.lcmp hx hb d_X_root_18 ?_
    refine lv_if_ge (tgt := 24) hx hb d_X_root_19 (by decide) (fun c_19 => ?_) (fun c_19 => ?_)
    · replace hF := hif_t c_19 hF
      refine lv_aload_n hx hb d_X_root_24 rfl (lv_at hl 0 rfl) ?_
      refine va_get (D := (dC, dI)) (ci := 1) (v := .ref h_E1) (C := "RoundedNumbers") (T := F_X) (N := 8) hx hb hts in_X hown hK hP 0 rfl rfl 5 (by decide) (hts _ tw_48) (fun _ h9 => h9) rfl d_X_root_25 ?_
      refine lv_aload_n hx hb d_X_root_28 rfl (lv_at hl 0 rfl) ?_
      refine va_get (D := (dC, dI)) (ci := 1) (v := .ref h_M) (C := "RoundedNumbers") (T := F_X) (N := 8) hx hb hts in_X hown hK hP 0 rfl rfl 0 (by decide) (hts _ tw_43) (fun _ h9 => h9) rfl d_X_root_29 ?_
      refine lv_iload_n hx hb d_X_root_32 rfl (lv_at hl 2 rfl) ?_
      have c_33 : ¬ (a2 < 0 ∨ 8 ≤ a2.toNatClampNeg) := hif_n hF
      replace hF := hif_f c_33 hF
      refine va_lald hx hb hK hP 1 0 rfl rfl c_33 d_X_root_33 ?_
      refine lv_aload_n hx hb d_X_root_34 rfl (lv_at hl 0 rfl) ?_
      refine va_get (D := (dC, dI)) (ci := 1) (v := .ref h_P) (C := "RoundedNumbers") (T := F_X) (N := 8) hx hb hts in_X hown hK hP 0 rfl rfl 1 (by decide) (hts _ tw_44) (fun _ h9 => h9) rfl d_X_root_35 ?_
      refine lv_iload_n hx hb d_X_root_38 rfl (lv_at hl 2 rfl) ?_
      have c_39 : ¬ (a2 < 0 ∨ 8 ≤ a2.toNatClampNeg) := hif_n hF
      replace hF := hif_f c_39 hF
      refine va_iald hx hb hK hP 2 1 rfl rfl c_39 d_X_root_39 ?_
      obtain ⟨q_40, hC_40, hF⟩ := hbd hF
      have hPc := hP.sub (ws' := [cE h_E1 E1_sg E1_hi E1_lo E1_pl E1_mo]) [3] rfl
      have hDc := hD.sub (ws' := [cE h_E1 E1_sg E1_hi E1_lo E1_pl E1_mo]) [3] (by decide) rfl
      have hKc := hK.sub (tys' := []) [] rfl
      have hFc := va_free (wc := [cE h_E1 E1_sg E1_hi E1_lo E1_pl E1_mo]) hD hS hA [3] rfl
      refine va_callv (va_runV (As := [.long (M_f a2.toNatClampNeg), .int (P_f a2.toNatClampNeg)]) (rest := []) ⟨hx, hb, hml, hown, hts⟩ (c_E_holdRoot l dC dI h_E1 H.size E1_sg E1_hi E1_lo E1_pl E1_mo (M_f a2.toNatClampNeg) (P_f a2.toNatClampNeg) q_40 hC_40) (cwV 2 hts g_X_77_E_holdRoot rfl rfl rfl (by decide +kernel) ⟨Nat.le_of_ble_eq_true rfl, Nat.le_of_ble_eq_true rfl⟩) ⟨fun a U g mk q => by obtain ⟨q0, q1, qP, qK, qD⟩ := q; exact ⟨q0, q1, qP, va_K.moved (u := U) (U := U.calling g mk a) (Vm.Alike.refl U.vm) qK, qD⟩, va_recv hKc hPc (ci := 0) (q0 := 0) rfl rfl, fun U hU hW => ⟨rfl, by rw [hU], by rw [hU]; exact hPc, va_K.moved hW.alike hKc, hDc.weaken (fun _ _ _ _ => trivial)⟩⟩ rfl rfl hl.1 rfl (lv_room (Nat.le_of_ble_eq_true rfl)) d_X_root_40 ⟨Nat.zero_le _, Nat.zero_le _⟩) hS (fun q _ h => hFc q h) hFc (fun u t H1 locs ht hvm hw hB hz1 hk1 hS => ?_)
      obtain ⟨hP1, hK1, hD1⟩ := hB
      rw [ht] at hP1
      obtain ⟨hP, hD⟩ := va_join (wr := [cX h_X h_M h_P h_E1 h_E2 h_E3 X_lo X_ro X_rc, cL h_M k_M 8 M_f, cI h_P k_P 8 P_f]) (w1 := [cE h_E1 q_40.1 q_40.2.1 q_40.2.2.1 q_40.2.2.2.1 q_40.2.2.2.2]) hP hD [3] [0, 1, 2] rfl rfl (by decide) (by decide) hk1 hFc hP1 hD1
      generalize H1 = H at hP hS ⊢
      have hP := hP.sub (ws' := [cX h_X h_M h_P h_E1 h_E2 h_E3 X_lo X_ro X_rc, cL h_M k_M 8 M_f, cI h_P k_P 8 P_f, cE h_E1 q_40.1 q_40.2.1 q_40.2.2.1 q_40.2.2.2.1 q_40.2.2.2.2]) [0, 1, 2, 3] rfl
      have hD := hD.sub (ws' := [cX h_X h_M h_P h_E1 h_E2 h_E3 X_lo X_ro X_rc, cL h_M k_M 8 M_f, cI h_P k_P 8 P_f, cE h_E1 q_40.1 q_40.2.1 q_40.2.2.1 q_40.2.2.2.1 q_40.2.2.2.2]) [0, 1, 2, 3] (by decide) rfl
      refine lv_aload_n hx hb d_X_root_43 rfl (lv_at hl 0 rfl) ?_
      refine lv_iload_n hx hb d_X_root_44 rfl (lv_at hl 1 rfl) ?_
      refine lv_aload_n hx hb d_X_root_45 rfl (lv_at hl 0 rfl) ?_
      refine va_get (D := (dC, dI)) (ci := 1) (v := .ref h_E1) (C := "RoundedNumbers") (T := F_X) (N := 8) hx hb hts in_X hown hK hP 0 rfl rfl 5 (by decide) (hts _ tw_48) (fun _ h9 => h9) rfl d_X_root_46 ?_
      refine lv_iload_n hx hb d_X_root_49 rfl (lv_at hl 3 rfl) ?_
      obtain ⟨q_50, hC_50, hF⟩ := hbd hF
      have hPc := hP.sub (ws' := [cX h_X h_M h_P h_E1 h_E2 h_E3 X_lo X_ro X_rc, cL h_M k_M 8 M_f, cI h_P k_P 8 P_f, cE h_E1 q_40.1 q_40.2.1 q_40.2.2.1 q_40.2.2.2.1 q_40.2.2.2.2]) [0, 1, 2, 3] rfl
      have hDc := hD.sub (ws' := [cX h_X h_M h_P h_E1 h_E2 h_E3 X_lo X_ro X_rc, cL h_M k_M 8 M_f, cI h_P k_P 8 P_f, cE h_E1 q_40.1 q_40.2.1 q_40.2.2.1 q_40.2.2.2.1 q_40.2.2.2.2]) [0, 1, 2, 3] (by decide) rfl
      have hKc := hK.sub (tys' := [(k_M, .long), (k_P, .int)]) [0, 1] rfl
      have hFc := va_free (wc := [cX h_X h_M h_P h_E1 h_E2 h_E3 X_lo X_ro X_rc, cL h_M k_M 8 M_f, cI h_P k_P 8 P_f, cE h_E1 q_40.1 q_40.2.1 q_40.2.2.1 q_40.2.2.2.1 q_40.2.2.2.2]) hD hS hA [0, 1, 2, 3] rfl
      refine va_calli (va_runV (As := [.int a1, .ref h_E1, .int a3]) (rest := []) ⟨hx, hb, hml, hown, hts⟩ (c_X_finish l dC dI h_X h_M h_P h_E1 h_E2 h_E3 h_E1 k_M k_P H.size X_lo X_ro X_rc M_f P_f q_40.1 q_40.2.1 q_40.2.2.1 q_40.2.2.2.1 q_40.2.2.2.2 a1 a3 q_50 hC_50) (cwV 3 hts g_X_62_X_finish rfl rfl rfl (by decide +kernel) ⟨Nat.le_of_ble_eq_true rfl, Nat.le_of_ble_eq_true rfl⟩) ⟨fun a U g mk q => by obtain ⟨q0, q1, qP, qK, qD⟩ := q; exact ⟨q0, q1, qP, va_K.moved (u := U) (U := U.calling g mk a) (Vm.Alike.refl U.vm) qK, qD⟩, va_recv hKc hPc (ci := 1) (q0 := 0) rfl rfl, fun U hU hW => ⟨rfl, by rw [hU], by rw [hU]; exact hPc, va_K.moved hW.alike hKc, hDc.weaken (fun _ _ _ _ => trivial)⟩⟩ rfl rfl hl.1 rfl (lv_room (Nat.le_of_ble_eq_true rfl)) d_X_root_50 ⟨Nat.zero_le _, Nat.zero_le _⟩) hS (fun q _ h => hFc q h) hFc (fun r u t H1 locs ht hvm hw hB hz1 hk1 hS => ?_)
      obtain ⟨hP1, hK1, hD1⟩ := hB
      replace hw := hw.symm
      subst hw
      rw [ht] at hP1
      obtain ⟨hP, hD⟩ := va_join (wr := []) (w1 := [cX h_X h_M h_P h_E1 h_E2 h_E3 q_50.2.1 q_50.2.2.1 q_50.2.2.2.1, cL h_M k_M 8 q_50.2.2.2.2.1, cI h_P k_P 8 q_50.2.2.2.2.2.1, cE h_E1 q_40.1 q_50.2.2.2.2.2.2.1 q_50.2.2.2.2.2.2.2.1 q_50.2.2.2.2.2.2.2.2.1 q_50.2.2.2.2.2.2.2.2.2]) hP hD [0, 1, 2, 3] [] rfl rfl (by decide) (by decide) hk1 hFc hP1 hD1
      generalize H1 = H at hP hS ⊢
      have hP := hP.sub (ws' := [cX h_X h_M h_P h_E1 h_E2 h_E3 q_50.2.1 q_50.2.2.1 q_50.2.2.2.1, cL h_M k_M 8 q_50.2.2.2.2.1, cI h_P k_P 8 q_50.2.2.2.2.2.1, cE h_E1 q_40.1 q_50.2.2.2.2.2.2.1 q_50.2.2.2.2.2.2.2.1 q_50.2.2.2.2.2.2.2.2.1 q_50.2.2.2.2.2.2.2.2.2]) [0, 1, 2, 3] rfl
      have hD := hD.sub (ws' := [cX h_X h_M h_P h_E1 h_E2 h_E3 q_50.2.1 q_50.2.2.1 q_50.2.2.2.1, cL h_M k_M 8 q_50.2.2.2.2.1, cI h_P k_P 8 q_50.2.2.2.2.2.1, cE h_E1 q_40.1 q_50.2.2.2.2.2.2.1 q_50.2.2.2.2.2.2.2.1 q_50.2.2.2.2.2.2.2.2.1 q_50.2.2.2.2.2.2.2.2.2]) [0, 1, 2, 3] (by decide) rfl
      obtain rfl := Option.some.inj hF
      exact W.iret (v := q_50.1) hx hb hr (fun t ht hW => ⟨⟨q_50.1, (), rfl, rfl, by rw [ht]; exact hP, va_K.moved hW.alike hK, hD⟩, hS.F ht⟩) hS.2.2 d_X_root_53
    · replace hF := hif_f c_19 hF
      refine lv_iconst (v := (-1 : Int32)) hx hb d_X_root_22 (by decide) ?_
      obtain rfl := Option.some.inj hF
      exact W.iret (v := (-1 : Int32)) hx hb hr (fun t ht hW => ⟨⟨(-1 : Int32), (), rfl, rfl, by rw [ht]; exact hP, va_K.moved hW.alike hK, hD⟩, hS.F ht⟩) hS.2.2 d_X_root_23
set_option maxHeartbeats 4000000 in
set_option maxRecDepth 100000 in
theorem c_X_remainder (l : Launch) (dC : Nat → ClassId) (dI : Nat → Nat → Nat) (h_X : Nat) (h_M : Nat) (h_P : Nat) (h_E1 : Nat) (h_E2 : Nat) (h_E3 : Nat) (k_M : ClassId) (k_P : ClassId) (sz : Nat) (X_lo : Int32) (X_ro : Int32) (X_rc : Int32) (M_f : Nat → Int64) (P_f : Nat → Int32) (E1_sg : Int32) (E1_hi : Int64) (E1_lo : Int64) (E1_pl : Int32) (E1_mo : Int32) (a1 : Int32) (a2 : Int32) (a3 : Int32) (o : Int32 × Int32 × Int32 × Int32 × (Nat → Int64) × (Nat → Int32) × Int32 × Int64 × Int64 × Int32 × Int32) (hF : f_X_remainder X_lo X_ro X_rc M_f P_f E1_sg E1_hi E1_lo E1_pl E1_mo a1 a2 a3 = some o) : Met l y_X_remainder w_X_remainder ({ frames := 6, cells := 0, slots := 0, locals := 142 } : Room) (va_Pc [.ref h_X, .int a1, .int a2, .int a3] (fun U => U.heap.size = sz ∧ va_P (dC, dI) classes [cX h_X h_M h_P h_E1 h_E2 h_E3 X_lo X_ro X_rc, cL h_M k_M 8 M_f, cI h_P k_P 8 P_f, cE h_E1 E1_sg E1_hi E1_lo E1_pl E1_mo] U.heap ∧ va_K (dC, dI) classes [(k_M, .long), (k_P, .int)] U ∧ va_D (fun _ => True) [cX h_X h_M h_P h_E1 h_E2 h_E3 X_lo X_ro X_rc, cL h_M k_M 8 M_f, cI h_P k_P 8 P_f, cE h_E1 E1_sg E1_hi E1_lo E1_pl E1_mo])) (va_Qi (fun (r : Int32) (_ : Unit) => r = o.1) (fun (_ : Unit) (t : State) => va_P (dC, dI) classes [cX h_X h_M h_P h_E1 h_E2 h_E3 o.2.1 o.2.2.1 o.2.2.2.1, cL h_M k_M 8 o.2.2.2.2.1, cI h_P k_P 8 o.2.2.2.2.2.1, cE h_E1 o.2.2.2.2.2.2.1 o.2.2.2.2.2.2.2.1 o.2.2.2.2.2.2.2.2.1 o.2.2.2.2.2.2.2.2.2.1 o.2.2.2.2.2.2.2.2.2.2] t.heap ∧ va_K (dC, dI) classes [(k_M, .long), (k_P, .int)] t ∧ va_D (va_A [cX h_X h_M h_P h_E1 h_E2 h_E3 X_lo X_ro X_rc, cL h_M k_M 8 M_f, cI h_P k_P 8 P_f, cE h_E1 E1_sg E1_hi E1_lo E1_pl E1_mo] sz) [cX h_X h_M h_P h_E1 h_E2 h_E3 o.2.1 o.2.2.1 o.2.2.2.1, cL h_M k_M 8 o.2.2.2.2.1, cI h_P k_P 8 o.2.2.2.2.2.1, cE h_E1 o.2.2.2.2.2.2.1 o.2.2.2.2.2.2.2.1 o.2.2.2.2.2.2.2.2.1 o.2.2.2.2.2.2.2.2.2.1 o.2.2.2.2.2.2.2.2.2.2]) (va_A [cX h_X h_M h_P h_E1 h_E2 h_E3 X_lo X_ro X_rc, cL h_M k_M 8 M_f, cI h_P k_P 8 P_f, cE h_E1 E1_sg E1_hi E1_lo E1_pl E1_mo] sz)) 0 0 (va_A [cX h_X h_M h_P h_E1 h_E2 h_E3 X_lo X_ro X_rc, cL h_M k_M 8 M_f, cI h_P k_P 8 P_f, cE h_E1 E1_sg E1_hi E1_lo E1_pl E1_mo] sz) := by
  refine Met.ofW (cc := prog_1_method_10_code) (maxL := 6) (ret := (some .int)) (by decide) rfl ?_
  intro p e s m args below meth c s₁ B hml hv
  obtain ⟨rfl, hsz, hP, hK, hD0⟩ := hv
  have hx := B.exec
  have hb := B.bytes
  have hr := B.returns
  have hts0 := atoms_spec (ws := w_X_remainder) B.pre
  have hts : ∀ w ∈ tb, w.before _ s = true := fun w h => hts0 w (List.mem_cons_of_mem _ h)
  clear hts0
  have hown : s.vm.findClass "RoundedNumbers" = some m.cls := findClass_of_methodNamed B.named
  have hlocks := B.notSynchronized
  subst hsz
  have hD := hD0.self (sz := s.heap.size)
  generalize hAe : va_A [cX h_X h_M h_P h_E1 h_E2 h_E3 X_lo X_ro X_rc, cL h_M k_M 8 M_f, cI h_P k_P 8 P_f, cE h_E1 E1_sg E1_hi E1_lo E1_pl E1_mo] s.heap.size = A at hD ⊢
  have hA : ∀ q : Nat, s.heap.size ≤ q → A q := fun q h => by rw [← hAe]; exact Or.inr h
  clear hAe
  have hS : va_S A s.heap s.heap [] := va_S.rf
  have hP : va_P (dC, dI) classes [cX h_X h_M h_P h_E1 h_E2 h_E3 X_lo X_ro X_rc, cL h_M k_M 8 M_f, cI h_P k_P 8 P_f, cE h_E1 E1_sg E1_hi E1_lo E1_pl E1_mo] s.heap := hP
  have hl := lv_entry ([.ref h_X, .int a1, .int a2, .int a3]) (n := 6) (Nat.le_of_ble_eq_true rfl)
  rw [lg_entry_eq]
  generalize (lg_sl ([.ref h_X, .int a1, .int a2, .int a3]) ++ List.replicate (6 - (lg_sl ([.ref h_X, .int a1, .int a2, .int a3])).length) Slot.unset).toArray = ls at hl ⊢
  have hl : lv_has ls 6 [(0, .ref h_X), (1, .int a1), (2, .int a2), (3, .int a3)] := hl
  have b_138 : ∀ (x1 : Int32) (X_lo : Int32) (X_ro : Int32) (X_rc : Int32) (M_f : Nat → Int64) (P_f : Nat → Int32) (E1_sg : Int32) (E1_hi : Int64) (E1_lo : Int64) (E1_pl : Int32) (E1_mo : Int32) (H : Heap) (locs : List Loc) (ls : Array Slot), va_P (dC, dI) classes [cX h_X h_M h_P h_E1 h_E2 h_E3 X_lo X_ro X_rc, cL h_M k_M 8 M_f, cI h_P k_P 8 P_f, cE h_E1 E1_sg E1_hi E1_lo E1_pl E1_mo] H → va_D A [cX h_X h_M h_P h_E1 h_E2 h_E3 X_lo X_ro X_rc, cL h_M k_M 8 M_f, cI h_P k_P 8 P_f, cE h_E1 E1_sg E1_hi E1_lo E1_pl E1_mo] → va_S A s.heap H locs → lv_has ls 6 [(0, .ref h_X), (1, .int x1)] → f_X_remainder_138  x1 X_lo X_ro X_rc M_f P_f E1_sg E1_hi E1_lo E1_pl E1_mo = some o → W p l e (headSpec w_X_remainder ({ frames := 6, cells := 0, slots := 0, locals := 142 } : Room)).room s m ([.ref h_X, .int a1, .int a2, .int a3] : List Value).toArray below meth c H locs 0 0 (MQ below (va_Qi (fun (r : Int32) (_ : Unit) => r = o.1) (fun (_ : Unit) (t : State) => va_P (dC, dI) classes [cX h_X h_M h_P h_E1 h_E2 h_E3 o.2.1 o.2.2.1 o.2.2.2.1, cL h_M k_M 8 o.2.2.2.2.1, cI h_P k_P 8 o.2.2.2.2.2.1, cE h_E1 o.2.2.2.2.2.2.1 o.2.2.2.2.2.2.2.1 o.2.2.2.2.2.2.2.2.1 o.2.2.2.2.2.2.2.2.2.1 o.2.2.2.2.2.2.2.2.2.2] t.heap ∧ va_K (dC, dI) classes [(k_M, .long), (k_P, .int)] t ∧ va_D A [cX h_X h_M h_P h_E1 h_E2 h_E3 o.2.1 o.2.2.1 o.2.2.2.1, cL h_M k_M 8 o.2.2.2.2.1, cI h_P k_P 8 o.2.2.2.2.2.1, cE h_E1 o.2.2.2.2.2.2.1 o.2.2.2.2.2.2.2.1 o.2.2.2.2.2.2.2.2.1 o.2.2.2.2.2.2.2.2.2.1 o.2.2.2.2.2.2.2.2.2.2]) A) ([.ref h_X, .int a1, .int a2, .int a3] : List Value).toArray s 0 0 A) (F0 m 138 ls []) := by
    intro x1 X_lo X_ro X_rc M_f P_f E1_sg E1_hi E1_lo E1_pl E1_mo H locs ls hP hD hS hl hF
    unfold f_X_remainder_138 at hF
    refine lv_aload_n hx hb d_X_remainder_138 rfl (lv_at hl 0 rfl) ?_
    refine lv_iload_n hx hb d_X_remainder_139 rfl (lv_at hl 1 rfl) ?_
    refine lv_aload_n hx hb d_X_remainder_140 rfl (lv_at hl 0 rfl) ?_
    refine va_get (D := (dC, dI)) (ci := 1) (v := .ref h_E1) (C := "RoundedNumbers") (T := F_X) (N := 8) hx hb hts in_X hown hK hP 0 rfl rfl 5 (by decide) (hts _ tw_48) (fun _ h9 => h9) rfl d_X_remainder_141 ?_
    refine lv_iconst (v := (0 : Int32)) hx hb d_X_remainder_144 (by decide) ?_
    obtain ⟨q_145, hC_145, hF⟩ := hbd hF
    have hPc := hP.sub (ws' := [cX h_X h_M h_P h_E1 h_E2 h_E3 X_lo X_ro X_rc, cL h_M k_M 8 M_f, cI h_P k_P 8 P_f, cE h_E1 E1_sg E1_hi E1_lo E1_pl E1_mo]) [0, 1, 2, 3] rfl
    have hDc := hD.sub (ws' := [cX h_X h_M h_P h_E1 h_E2 h_E3 X_lo X_ro X_rc, cL h_M k_M 8 M_f, cI h_P k_P 8 P_f, cE h_E1 E1_sg E1_hi E1_lo E1_pl E1_mo]) [0, 1, 2, 3] (by decide) rfl
    have hKc := hK.sub (tys' := [(k_M, .long), (k_P, .int)]) [0, 1] rfl
    have hFc := va_free (wc := [cX h_X h_M h_P h_E1 h_E2 h_E3 X_lo X_ro X_rc, cL h_M k_M 8 M_f, cI h_P k_P 8 P_f, cE h_E1 E1_sg E1_hi E1_lo E1_pl E1_mo]) hD hS hA [0, 1, 2, 3] rfl
    refine va_calli (va_runV (As := [.int x1, .ref h_E1, .int (0 : Int32)]) (rest := []) ⟨hx, hb, hml, hown, hts⟩ (c_X_finish l dC dI h_X h_M h_P h_E1 h_E2 h_E3 h_E1 k_M k_P H.size X_lo X_ro X_rc M_f P_f E1_sg E1_hi E1_lo E1_pl E1_mo x1 (0 : Int32) q_145 hC_145) (cwV 3 hts g_X_62_X_finish rfl rfl rfl (by decide +kernel) ⟨Nat.le_of_ble_eq_true rfl, Nat.le_of_ble_eq_true rfl⟩) ⟨fun a U g mk q => by obtain ⟨q0, q1, qP, qK, qD⟩ := q; exact ⟨q0, q1, qP, va_K.moved (u := U) (U := U.calling g mk a) (Vm.Alike.refl U.vm) qK, qD⟩, va_recv hKc hPc (ci := 1) (q0 := 0) rfl rfl, fun U hU hW => ⟨rfl, by rw [hU], by rw [hU]; exact hPc, va_K.moved hW.alike hKc, hDc.weaken (fun _ _ _ _ => trivial)⟩⟩ rfl rfl hl.1 rfl (lv_room (Nat.le_of_ble_eq_true rfl)) d_X_remainder_145 ⟨Nat.zero_le _, Nat.zero_le _⟩) hS (fun q _ h => hFc q h) hFc (fun r u t H1 locs ht hvm hw hB hz1 hk1 hS => ?_)
    obtain ⟨hP1, hK1, hD1⟩ := hB
    replace hw := hw.symm
    subst hw
    rw [ht] at hP1
    obtain ⟨hP, hD⟩ := va_join (wr := []) (w1 := [cX h_X h_M h_P h_E1 h_E2 h_E3 q_145.2.1 q_145.2.2.1 q_145.2.2.2.1, cL h_M k_M 8 q_145.2.2.2.2.1, cI h_P k_P 8 q_145.2.2.2.2.2.1, cE h_E1 E1_sg q_145.2.2.2.2.2.2.1 q_145.2.2.2.2.2.2.2.1 q_145.2.2.2.2.2.2.2.2.1 q_145.2.2.2.2.2.2.2.2.2]) hP hD [0, 1, 2, 3] [] rfl rfl (by decide) (by decide) hk1 hFc hP1 hD1
    generalize H1 = H at hP hS ⊢
    have hP := hP.sub (ws' := [cX h_X h_M h_P h_E1 h_E2 h_E3 q_145.2.1 q_145.2.2.1 q_145.2.2.2.1, cL h_M k_M 8 q_145.2.2.2.2.1, cI h_P k_P 8 q_145.2.2.2.2.2.1, cE h_E1 E1_sg q_145.2.2.2.2.2.2.1 q_145.2.2.2.2.2.2.2.1 q_145.2.2.2.2.2.2.2.2.1 q_145.2.2.2.2.2.2.2.2.2]) [0, 1, 2, 3] rfl
    have hD := hD.sub (ws' := [cX h_X h_M h_P h_E1 h_E2 h_E3 q_145.2.1 q_145.2.2.1 q_145.2.2.2.1, cL h_M k_M 8 q_145.2.2.2.2.1, cI h_P k_P 8 q_145.2.2.2.2.2.1, cE h_E1 E1_sg q_145.2.2.2.2.2.2.1 q_145.2.2.2.2.2.2.2.1 q_145.2.2.2.2.2.2.2.2.1 q_145.2.2.2.2.2.2.2.2.2]) [0, 1, 2, 3] (by decide) rfl
    obtain rfl := Option.some.inj hF
    exact W.iret (v := q_145.1) hx hb hr (fun t ht hW => ⟨⟨q_145.1, (), rfl, rfl, by rw [ht]; exact hP, va_K.moved hW.alike hK, hD⟩, hS.F ht⟩) hS.2.2 d_X_remainder_148
  have b_129 : ∀ (x1 : Int32) (x3 : Int32) (y0 : Int64) (X_lo : Int32) (X_ro : Int32) (X_rc : Int32) (M_f : Nat → Int64) (P_f : Nat → Int32) (E1_sg : Int32) (E1_hi : Int64) (E1_lo : Int64) (E1_pl : Int32) (E1_mo : Int32) (H : Heap) (locs : List Loc) (ls : Array Slot), va_P (dC, dI) classes [cX h_X h_M h_P h_E1 h_E2 h_E3 X_lo X_ro X_rc, cL h_M k_M 8 M_f, cI h_P k_P 8 P_f, cE h_E1 E1_sg E1_hi E1_lo E1_pl E1_mo] H → va_D A [cX h_X h_M h_P h_E1 h_E2 h_E3 X_lo X_ro X_rc, cL h_M k_M 8 M_f, cI h_P k_P 8 P_f, cE h_E1 E1_sg E1_hi E1_lo E1_pl E1_mo] → va_S A s.heap H locs → lv_has ls 6 [(0, .ref h_X), (1, .int x1), (3, .int x3)] → f_X_remainder_129  x1 x3 y0 X_lo X_ro X_rc M_f P_f E1_sg E1_hi E1_lo E1_pl E1_mo = some o → W p l e (headSpec w_X_remainder ({ frames := 6, cells := 0, slots := 0, locals := 142 } : Room)).room s m ([.ref h_X, .int a1, .int a2, .int a3] : List Value).toArray below meth c H locs 0 0 (MQ below (va_Qi (fun (r : Int32) (_ : Unit) => r = o.1) (fun (_ : Unit) (t : State) => va_P (dC, dI) classes [cX h_X h_M h_P h_E1 h_E2 h_E3 o.2.1 o.2.2.1 o.2.2.2.1, cL h_M k_M 8 o.2.2.2.2.1, cI h_P k_P 8 o.2.2.2.2.2.1, cE h_E1 o.2.2.2.2.2.2.1 o.2.2.2.2.2.2.2.1 o.2.2.2.2.2.2.2.2.1 o.2.2.2.2.2.2.2.2.2.1 o.2.2.2.2.2.2.2.2.2.2] t.heap ∧ va_K (dC, dI) classes [(k_M, .long), (k_P, .int)] t ∧ va_D A [cX h_X h_M h_P h_E1 h_E2 h_E3 o.2.1 o.2.2.1 o.2.2.2.1, cL h_M k_M 8 o.2.2.2.2.1, cI h_P k_P 8 o.2.2.2.2.2.1, cE h_E1 o.2.2.2.2.2.2.1 o.2.2.2.2.2.2.2.1 o.2.2.2.2.2.2.2.2.1 o.2.2.2.2.2.2.2.2.2.1 o.2.2.2.2.2.2.2.2.2.2]) A) ([.ref h_X, .int a1, .int a2, .int a3] : List Value).toArray s 0 0 A) (F0 m 129 ls [.long y0, .ref h_E1]) := by
    intro x1 x3 y0 X_lo X_ro X_rc M_f P_f E1_sg E1_hi E1_lo E1_pl E1_mo H locs ls hP hD hS hl hF
    unfold f_X_remainder_129 at hF
    refine lv_aload_n hx hb d_X_remainder_129 rfl (lv_at hl 0 rfl) ?_
    refine va_get (D := (dC, dI)) (ci := 1) (v := .ref h_P) (C := "RoundedNumbers") (T := F_X) (N := 8) hx hb hts in_X hown hK hP 0 rfl rfl 1 (by decide) (hts _ tw_44) (fun _ h9 => h9) rfl d_X_remainder_130 ?_
    refine lv_iload_n hx hb d_X_remainder_133 rfl (lv_at hl 2 rfl) ?_
    have c_134 : ¬ (x3 < 0 ∨ 8 ≤ x3.toNatClampNeg) := hif_n hF
    replace hF := hif_f c_134 hF
    refine va_iald hx hb hK hP 2 1 rfl rfl c_134 d_X_remainder_134 ?_
    obtain ⟨q_135, hC_135, hF⟩ := hbd hF
    have hPc := hP.sub (ws' := [cE h_E1 E1_sg E1_hi E1_lo E1_pl E1_mo]) [3] rfl
    have hDc := hD.sub (ws' := [cE h_E1 E1_sg E1_hi E1_lo E1_pl E1_mo]) [3] (by decide) rfl
    have hKc := hK.sub (tys' := []) [] rfl
    have hFc := va_free (wc := [cE h_E1 E1_sg E1_hi E1_lo E1_pl E1_mo]) hD hS hA [3] rfl
    refine va_callv (va_runV (As := [.long y0, .int (P_f x3.toNatClampNeg)]) (rest := []) ⟨hx, hb, hml, hown, hts⟩ (c_E_hold l dC dI h_E1 H.size E1_sg E1_hi E1_lo E1_pl E1_mo y0 (P_f x3.toNatClampNeg) q_135 hC_135) (cwV 2 hts g_X_54_E_hold rfl rfl rfl (by decide +kernel) ⟨Nat.le_of_ble_eq_true rfl, Nat.le_of_ble_eq_true rfl⟩) ⟨fun a U g mk q => by obtain ⟨q0, q1, qP, qK, qD⟩ := q; exact ⟨q0, q1, qP, va_K.moved (u := U) (U := U.calling g mk a) (Vm.Alike.refl U.vm) qK, qD⟩, va_recv hKc hPc (ci := 0) (q0 := 0) rfl rfl, fun U hU hW => ⟨rfl, by rw [hU], by rw [hU]; exact hPc, va_K.moved hW.alike hKc, hDc.weaken (fun _ _ _ _ => trivial)⟩⟩ rfl rfl hl.1 rfl (lv_room (Nat.le_of_ble_eq_true rfl)) d_X_remainder_135 ⟨Nat.zero_le _, Nat.zero_le _⟩) hS (fun q _ h => hFc q h) hFc (fun u t H1 locs ht hvm hw hB hz1 hk1 hS => ?_)
    obtain ⟨hP1, hK1, hD1⟩ := hB
    rw [ht] at hP1
    obtain ⟨hP, hD⟩ := va_join (wr := [cX h_X h_M h_P h_E1 h_E2 h_E3 X_lo X_ro X_rc, cL h_M k_M 8 M_f, cI h_P k_P 8 P_f]) (w1 := [cE h_E1 q_135.1 q_135.2.1 q_135.2.2.1 q_135.2.2.2.1 q_135.2.2.2.2]) hP hD [3] [0, 1, 2] rfl rfl (by decide) (by decide) hk1 hFc hP1 hD1
    generalize H1 = H at hP hS ⊢
    have hP := hP.sub (ws' := [cX h_X h_M h_P h_E1 h_E2 h_E3 X_lo X_ro X_rc, cL h_M k_M 8 M_f, cI h_P k_P 8 P_f, cE h_E1 q_135.1 q_135.2.1 q_135.2.2.1 q_135.2.2.2.1 q_135.2.2.2.2]) [0, 1, 2, 3] rfl
    have hD := hD.sub (ws' := [cX h_X h_M h_P h_E1 h_E2 h_E3 X_lo X_ro X_rc, cL h_M k_M 8 M_f, cI h_P k_P 8 P_f, cE h_E1 q_135.1 q_135.2.1 q_135.2.2.1 q_135.2.2.2.1 q_135.2.2.2.2]) [0, 1, 2, 3] (by decide) rfl
    exact b_138 x1 X_lo X_ro X_rc M_f P_f q_135.1 q_135.2.1 q_135.2.2.1 q_135.2.2.2.1 q_135.2.2.2.2 _ _ _ hP hD hS (lv_sub hl [0, 1] rfl) hF
  unfold f_X_remainder at hF
  refine lv_aload_n hx hb d_X_remainder_0 rfl (lv_at hl 0 rfl) ?_
  refine lv_iload_n hx hb d_X_remainder_1 rfl (lv_at hl 1 rfl) ?_
  refine lv_iload_n hx hb d_X_remainder_2 rfl (lv_at hl 2 rfl) ?_
  refine lv_iload_n hx hb d_X_remainder_3 rfl (lv_at hl 3 rfl) ?_
  refine lv_iconst (v := (0 : Int32)) hx hb d_X_remainder_4 (by decide) ?_
  obtain ⟨q_5, hC_5, hF⟩ := hbd hF
  have hPc := hP.sub (ws' := [cX h_X h_M h_P h_E1 h_E2 h_E3 X_lo X_ro X_rc, cL h_M k_M 8 M_f]) [0, 1] rfl
  have hDc := hD.sub (ws' := [cX h_X h_M h_P h_E1 h_E2 h_E3 X_lo X_ro X_rc, cL h_M k_M 8 M_f]) [0, 1] (by decide) rfl
  have hKc := hK.sub (tys' := [(k_M, .long)]) [0] rfl
  have hFc := va_free (wc := [cX h_X h_M h_P h_E1 h_E2 h_E3 X_lo X_ro X_rc, cL h_M k_M 8 M_f]) hD hS hA [0, 1] rfl
  refine va_calli (va_runV (As := [.int a1, .int a2, .int a3, .int (0 : Int32)]) (rest := []) ⟨hx, hb, hml, hown, hts⟩ (c_X_mayTake l dC dI h_X h_M h_P h_E1 h_E2 h_E3 k_M s.heap.size X_lo X_ro X_rc M_f a1 a2 a3 (0 : Int32) q_5 hC_5) (cwV 4 hts g_X_50_X_mayTake rfl rfl rfl (by decide +kernel) ⟨Nat.le_of_ble_eq_true rfl, Nat.le_of_ble_eq_true rfl⟩) ⟨fun a U g mk q => by obtain ⟨q0, q1, qP, qK, qD⟩ := q; exact ⟨q0, q1, qP, va_K.moved (u := U) (U := U.calling g mk a) (Vm.Alike.refl U.vm) qK, qD⟩, va_recv hKc hPc (ci := 1) (q0 := 0) rfl rfl, fun U hU hW => ⟨rfl, by rw [hU], by rw [hU]; exact hPc, va_K.moved hW.alike hKc, hDc.weaken (fun _ _ _ _ => trivial)⟩⟩ rfl rfl hl.1 rfl (lv_room (Nat.le_of_ble_eq_true rfl)) d_X_remainder_5 ⟨Nat.zero_le _, Nat.zero_le _⟩) hS (fun q _ h => hFc q h) hFc (fun r u t H1 locs ht hvm hw hB hz1 hk1 hS => ?_)
  obtain ⟨hP1, hK1, hD1⟩ := hB
  replace hw := hw.symm
  subst hw
  rw [ht] at hP1
  obtain ⟨hP, hD⟩ := va_join (wr := [cI h_P k_P 8 P_f, cE h_E1 E1_sg E1_hi E1_lo E1_pl E1_mo]) (w1 := [cX h_X h_M h_P h_E1 h_E2 h_E3 X_lo X_ro X_rc, cL h_M k_M 8 M_f]) hP hD [0, 1] [2, 3] rfl rfl (by decide) (by decide) hk1 hFc hP1 hD1
  generalize H1 = H at hP hS ⊢
  have hP := hP.sub (ws' := [cX h_X h_M h_P h_E1 h_E2 h_E3 X_lo X_ro X_rc, cL h_M k_M 8 M_f, cI h_P k_P 8 P_f, cE h_E1 E1_sg E1_hi E1_lo E1_pl E1_mo]) [2, 3, 0, 1] rfl
  have hD := hD.sub (ws' := [cX h_X h_M h_P h_E1 h_E2 h_E3 X_lo X_ro X_rc, cL h_M k_M 8 M_f, cI h_P k_P 8 P_f, cE h_E1 E1_sg E1_hi E1_lo E1_pl E1_mo]) [2, 3, 0, 1] (by decide) rfl
  refine lv_if_eq (tgt := 31) hx hb d_X_remainder_8 (by decide) (fun c_8 => ?_) (fun c_8 => ?_)
  · replace hF := hif_t c_8 hF
    refine lv_iconst (v := (-1 : Int32)) hx hb d_X_remainder_31 (by decide) ?_
    obtain rfl := Option.some.inj hF
    exact W.iret (v := (-1 : Int32)) hx hb hr (fun t ht hW => ⟨⟨(-1 : Int32), (), rfl, rfl, by rw [ht]; exact hP, va_K.moved hW.alike hK, hD⟩, hS.F ht⟩) hS.2.2 d_X_remainder_32
  · replace hF := hif_f c_8 hF
    refine lv_aload_n hx hb d_X_remainder_11 rfl (lv_at hl 0 rfl) ?_
    refine va_get (D := (dC, dI)) (ci := 1) (v := .ref h_M) (C := "RoundedNumbers") (T := F_X) (N := 8) hx hb hts in_X hown hK hP 0 rfl rfl 0 (by decide) (hts _ tw_43) (fun _ h9 => h9) rfl d_X_remainder_12 ?_
    refine lv_iload_n hx hb d_X_remainder_15 rfl (lv_at hl 3 rfl) ?_
    have c_16 : ¬ (a3 < 0 ∨ 8 ≤ a3.toNatClampNeg) := hif_n hF
    replace hF := hif_f c_16 hF
    refine va_lald hx hb hK hP 1 0 rfl rfl c_16 d_X_remainder_16 ?_
    refine lv_lconst (v := (0 : Int64)) hx hb d_X_remainder_17 (by decide) ?_
    refine W.lcmp hx hb d_X_remainder_18 ?_
    refine lv_if_eq (tgt := 31) hx hb d_X_remainder_19 (by decide) (fun c_19 => ?_) (fun c_19 => ?_)
    · replace hF := hif_t c_19 hF
      refine lv_iconst (v := (-1 : Int32)) hx hb d_X_remainder_31 (by decide) ?_
      obtain rfl := Option.some.inj hF
      exact W.iret (v := (-1 : Int32)) hx hb hr (fun t ht hW => ⟨⟨(-1 : Int32), (), rfl, rfl, by rw [ht]; exact hP, va_K.moved hW.alike hK, hD⟩, hS.F ht⟩) hS.2.2 d_X_remainder_32
    · replace hF := hif_f c_19 hF
      refine lv_aload_n hx hb d_X_remainder_22 rfl (lv_at hl 0 rfl) ?_
      refine lv_iload_n hx hb d_X_remainder_23 rfl (lv_at hl 2 rfl) ?_
      refine lv_iload_n hx hb d_X_remainder_24 rfl (lv_at hl 3 rfl) ?_
      obtain ⟨q_25, hC_25, hF⟩ := hbd hF
      have hPc := hP.sub (ws' := [cX h_X h_M h_P h_E1 h_E2 h_E3 X_lo X_ro X_rc, cL h_M k_M 8 M_f, cI h_P k_P 8 P_f]) [0, 1, 2] rfl
      have hDc := hD.sub (ws' := [cX h_X h_M h_P h_E1 h_E2 h_E3 X_lo X_ro X_rc, cL h_M k_M 8 M_f, cI h_P k_P 8 P_f]) [0, 1, 2] (by decide) rfl
      have hKc := hK.sub (tys' := [(k_M, .long), (k_P, .int)]) [0, 1] rfl
      have hFc := va_free (wc := [cX h_X h_M h_P h_E1 h_E2 h_E3 X_lo X_ro X_rc, cL h_M k_M 8 M_f, cI h_P k_P 8 P_f]) hD hS hA [0, 1, 2] rfl
      refine va_calli (va_runV (As := [.int a2, .int a3]) (rest := []) ⟨hx, hb, hml, hown, hts⟩ (c_X_isFarGreater l dC dI h_X h_M h_P h_E1 h_E2 h_E3 k_M k_P H.size X_lo X_ro X_rc M_f P_f a2 a3 q_25 hC_25) (cwV 2 hts g_X_80_X_isFarGreater rfl rfl rfl (by decide +kernel) ⟨Nat.le_of_ble_eq_true rfl, Nat.le_of_ble_eq_true rfl⟩) ⟨fun a U g mk q => by obtain ⟨q0, q1, qP, qK, qD⟩ := q; exact ⟨q0, q1, qP, va_K.moved (u := U) (U := U.calling g mk a) (Vm.Alike.refl U.vm) qK, qD⟩, va_recv hKc hPc (ci := 1) (q0 := 0) rfl rfl, fun U hU hW => ⟨rfl, by rw [hU], by rw [hU]; exact hPc, va_K.moved hW.alike hKc, hDc.weaken (fun _ _ _ _ => trivial)⟩⟩ rfl rfl hl.1 rfl (lv_room (Nat.le_of_ble_eq_true rfl)) d_X_remainder_25 ⟨Nat.zero_le _, Nat.zero_le _⟩) hS (fun q _ h => hFc q h) hFc (fun r u t H1 locs ht hvm hw hB hz1 hk1 hS => ?_)
      obtain ⟨hP1, hK1, hD1⟩ := hB
      replace hw := hw.symm
      subst hw
      rw [ht] at hP1
      obtain ⟨hP, hD⟩ := va_join (wr := [cE h_E1 E1_sg E1_hi E1_lo E1_pl E1_mo]) (w1 := [cX h_X h_M h_P h_E1 h_E2 h_E3 X_lo X_ro X_rc, cL h_M k_M 8 M_f, cI h_P k_P 8 P_f]) hP hD [0, 1, 2] [3] rfl rfl (by decide) (by decide) hk1 hFc hP1 hD1
      generalize H1 = H at hP hS ⊢
      have hP := hP.sub (ws' := [cX h_X h_M h_P h_E1 h_E2 h_E3 X_lo X_ro X_rc, cL h_M k_M 8 M_f, cI h_P k_P 8 P_f, cE h_E1 E1_sg E1_hi E1_lo E1_pl E1_mo]) [1, 2, 3, 0] rfl
      have hD := hD.sub (ws' := [cX h_X h_M h_P h_E1 h_E2 h_E3 X_lo X_ro X_rc, cL h_M k_M 8 M_f, cI h_P k_P 8 P_f, cE h_E1 E1_sg E1_hi E1_lo E1_pl E1_mo]) [1, 2, 3, 0] (by decide) rfl
      refine lv_if_eq (tgt := 33) hx hb d_X_remainder_28 (by decide) (fun c_28 => ?_) (fun c_28 => ?_)
      · replace hF := hif_t c_28 hF
        refine lv_aload_n hx hb d_X_remainder_33 rfl (lv_at hl 0 rfl) ?_
        refine va_get (D := (dC, dI)) (ci := 1) (v := .ref h_P) (C := "RoundedNumbers") (T := F_X) (N := 8) hx hb hts in_X hown hK hP 0 rfl rfl 1 (by decide) (hts _ tw_44) (fun _ h9 => h9) rfl d_X_remainder_34 ?_
        refine lv_iload_n hx hb d_X_remainder_37 rfl (lv_at hl 2 rfl) ?_
        have c_38 : ¬ (a2 < 0 ∨ 8 ≤ a2.toNatClampNeg) := hif_n hF
        replace hF := hif_f c_38 hF
        refine va_iald hx hb hK hP 2 1 rfl rfl c_38 d_X_remainder_38 ?_
        refine lv_aload_n hx hb d_X_remainder_39 rfl (lv_at hl 0 rfl) ?_
        refine va_get (D := (dC, dI)) (ci := 1) (v := .ref h_P) (C := "RoundedNumbers") (T := F_X) (N := 8) hx hb hts in_X hown hK hP 0 rfl rfl 1 (by decide) (hts _ tw_44) (fun _ h9 => h9) rfl d_X_remainder_40 ?_
        refine lv_iload_n hx hb d_X_remainder_43 rfl (lv_at hl 3 rfl) ?_
        have c_44 : ¬ (a3 < 0 ∨ 8 ≤ a3.toNatClampNeg) := hif_n hF
        replace hF := hif_f c_44 hF
        refine va_iald hx hb hK hP 2 1 rfl rfl c_44 d_X_remainder_44 ?_
        refine lv_icmp_ge (tgt := 70) hx hb d_X_remainder_45 (by decide) (fun c_45 => ?_) (fun c_45 => ?_)
        · replace hF := hif_t c_45 hF
          refine lv_aload_n hx hb d_X_remainder_70 rfl (lv_at hl 0 rfl) ?_
          refine va_get (D := (dC, dI)) (ci := 1) (v := .ref h_M) (C := "RoundedNumbers") (T := F_X) (N := 8) hx hb hts in_X hown hK hP 0 rfl rfl 0 (by decide) (hts _ tw_43) (fun _ h9 => h9) rfl d_X_remainder_71 ?_
          refine lv_iload_n hx hb d_X_remainder_74 rfl (lv_at hl 2 rfl) ?_
          have c_75 : ¬ (a2 < 0 ∨ 8 ≤ a2.toNatClampNeg) := hif_n hF
          replace hF := hif_f c_75 hF
          refine va_lald hx hb hK hP 1 0 rfl rfl c_75 d_X_remainder_75 ?_
          refine va_mabs_long hx hb (hml.trans hl.1.symm) hown (hts _ tw_80) (hts _ tw_81) (hts _ tw_4) (hts _ tw_82) (Nat.le_of_ble_eq_true rfl) (Nat.le_of_ble_eq_true rfl) (Nat.zero_le _) (Nat.zero_le _) d_X_remainder_76 ?_
          refine W.eq (g2 := F0 m 79 ls [.long (jabs (M_f a2.toNatClampNeg))]) rfl ?_
          refine lv_aload_n hx hb d_X_remainder_79 rfl (lv_at hl 0 rfl) ?_
          refine va_get (D := (dC, dI)) (ci := 1) (v := .ref h_M) (C := "RoundedNumbers") (T := F_X) (N := 8) hx hb hts in_X hown hK hP 0 rfl rfl 0 (by decide) (hts _ tw_43) (fun _ h9 => h9) rfl d_X_remainder_80 ?_
          refine lv_iload_n hx hb d_X_remainder_83 rfl (lv_at hl 3 rfl) ?_
          have c_84 : ¬ (a3 < 0 ∨ 8 ≤ a3.toNatClampNeg) := hif_n hF
          replace hF := hif_f c_84 hF
          refine va_lald hx hb hK hP 1 0 rfl rfl c_84 d_X_remainder_84 ?_
          refine va_mabs_long hx hb (hml.trans hl.1.symm) hown (hts _ tw_80) (hts _ tw_81) (hts _ tw_4) (hts _ tw_82) (Nat.le_of_ble_eq_true rfl) (Nat.le_of_ble_eq_true rfl) (Nat.zero_le _) (Nat.zero_le _) d_X_remainder_85 ?_
          refine W.eq (g2 := F0 m 88 ls [.long (jabs (M_f a3.toNatClampNeg)), .long (jabs (M_f a2.toNatClampNeg))]) rfl ?_
          refine lv_aload_n hx hb d_X_remainder_88 rfl (lv_at hl 0 rfl) ?_
          refine va_get (D := (dC, dI)) (ci := 1) (v := .ref h_P) (C := "RoundedNumbers") (T := F_X) (N := 8) hx hb hts in_X hown hK hP 0 rfl rfl 1 (by decide) (hts _ tw_44) (fun _ h9 => h9) rfl d_X_remainder_89 ?_
          refine lv_iload_n hx hb d_X_remainder_92 rfl (lv_at hl 2 rfl) ?_
          have c_93 : ¬ (a2 < 0 ∨ 8 ≤ a2.toNatClampNeg) := hif_n hF
          replace hF := hif_f c_93 hF
          refine va_iald hx hb hK hP 2 1 rfl rfl c_93 d_X_remainder_93 ?_
          refine lv_aload_n hx hb d_X_remainder_94 rfl (lv_at hl 0 rfl) ?_
          refine va_get (D := (dC, dI)) (ci := 1) (v := .ref h_P) (C := "RoundedNumbers") (T := F_X) (N := 8) hx hb hts in_X hown hK hP 0 rfl rfl 1 (by decide) (hts _ tw_44) (fun _ h9 => h9) rfl d_X_remainder_95 ?_
          refine lv_iload_n hx hb d_X_remainder_98 rfl (lv_at hl 3 rfl) ?_
          have c_99 : ¬ (a3 < 0 ∨ 8 ≤ a3.toNatClampNeg) := hif_n hF
          replace hF := hif_f c_99 hF
          refine va_iald hx hb hK hP 2 1 rfl rfl c_99 d_X_remainder_99 ?_
          refine lv_isub hx hb d_X_remainder_100 ?_
          obtain ⟨q_101, hC_101, hF⟩ := hbd hF
          have hPc := hP.sub (ws' := []) [] rfl
          have hDc := hD.sub (ws' := []) [] (by decide) rfl
          have hKc := hK.sub (tys' := []) [] rfl
          have hFc := va_free (wc := []) hD hS hA [] rfl
          refine va_calll (va_runS (As := [.long (jabs (M_f a2.toNatClampNeg)), .long (jabs (M_f a3.toNatClampNeg)), .int ((P_f a2.toNatClampNeg) - (P_f a3.toNatClampNeg))]) (rest := []) ⟨hx, hb, hml, hown, hts⟩ (c_X_leftAfter l dC dI H.size (jabs (M_f a2.toNatClampNeg)) (jabs (M_f a3.toNatClampNeg)) ((P_f a2.toNatClampNeg) - (P_f a3.toNatClampNeg)) q_101 hC_101) (cwS 3 hts g_X_90_X_leftAfter rfl rfl rfl (by decide +kernel) ⟨Nat.le_of_ble_eq_true rfl, Nat.le_of_ble_eq_true rfl⟩) ⟨fun a U g mk q => by obtain ⟨q0, q1, qP, qK, qD⟩ := q; exact ⟨q0, q1, qP, va_K.moved (u := U) (U := U.calling g mk a) (Vm.Alike.refl U.vm) qK, qD⟩, fun U hU hW => ⟨rfl, by rw [hU], by rw [hU]; exact hPc, va_K.moved hW.alike hKc, hDc.weaken (fun _ _ _ _ => trivial)⟩⟩ rfl rfl hl.1 rfl (lv_room (Nat.le_of_ble_eq_true rfl)) d_X_remainder_101 ⟨Nat.zero_le _, Nat.zero_le _⟩) hS (fun q _ h => hFc q h) hFc (fun r u t H1 locs ht hvm hw hB hz1 hk1 hS => ?_)
          obtain ⟨hP1, hK1, hD1⟩ := hB
          replace hw := hw.symm
          subst hw
          rw [ht] at hP1
          obtain ⟨hP, hD⟩ := va_join (wr := [cX h_X h_M h_P h_E1 h_E2 h_E3 X_lo X_ro X_rc, cL h_M k_M 8 M_f, cI h_P k_P 8 P_f, cE h_E1 E1_sg E1_hi E1_lo E1_pl E1_mo]) (w1 := []) hP hD [] [0, 1, 2, 3] rfl rfl (by decide) (by decide) hk1 hFc hP1 hD1
          generalize H1 = H at hP hS ⊢
          have hP := hP.sub (ws' := [cX h_X h_M h_P h_E1 h_E2 h_E3 X_lo X_ro X_rc, cL h_M k_M 8 M_f, cI h_P k_P 8 P_f, cE h_E1 E1_sg E1_hi E1_lo E1_pl E1_mo]) [0, 1, 2, 3] rfl
          have hD := hD.sub (ws' := [cX h_X h_M h_P h_E1 h_E2 h_E3 X_lo X_ro X_rc, cL h_M k_M 8 M_f, cI h_P k_P 8 P_f, cE h_E1 E1_sg E1_hi E1_lo E1_pl E1_mo]) [0, 1, 2, 3] (by decide) rfl
          refine lv_lstore (lv' := [(4, .long q_101), (0, .ref h_X), (1, .int a1), (2, .int a2), (3, .int a3)]) hx hb d_X_remainder_104 hl (by decide) rfl (fun ls hl => ?_)
          refine lv_aload_n hx hb d_X_remainder_106 rfl (lv_at hl 1 rfl) ?_
          refine va_get (D := (dC, dI)) (ci := 1) (v := .ref h_E1) (C := "RoundedNumbers") (T := F_X) (N := 8) hx hb hts in_X hown hK hP 0 rfl rfl 5 (by decide) (hts _ tw_48) (fun _ h9 => h9) rfl d_X_remainder_107 ?_
          refine lv_aload_n hx hb d_X_remainder_110 rfl (lv_at hl 1 rfl) ?_
          refine va_get (D := (dC, dI)) (ci := 1) (v := .ref h_M) (C := "RoundedNumbers") (T := F_X) (N := 8) hx hb hts in_X hown hK hP 0 rfl rfl 0 (by decide) (hts _ tw_43) (fun _ h9 => h9) rfl d_X_remainder_111 ?_
          refine lv_iload_n hx hb d_X_remainder_114 rfl (lv_at hl 3 rfl) ?_
          have c_115 : ¬ (a2 < 0 ∨ 8 ≤ a2.toNatClampNeg) := hif_n hF
          replace hF := hif_f c_115 hF
          refine va_lald hx hb hK hP 1 0 rfl rfl c_115 d_X_remainder_115 ?_
          refine lv_lconst (v := (0 : Int64)) hx hb d_X_remainder_116 (by decide) ?_
          refine W.lcmp hx hb d_X_remainder_117 ?_
          refine lv_if_ge (tgt := 127) hx hb d_X_remainder_118 (by decide) (fun c_118 => ?_) (fun c_118 => ?_)
          · replace hF := hif_t c_118 hF
            refine lv_lload hx hb d_X_remainder_127 (lv_at hl 0 rfl) ?_
            exact b_129 a1 a3 q_101 X_lo X_ro X_rc M_f P_f E1_sg E1_hi E1_lo E1_pl E1_mo _ _ _ hP hD hS (lv_sub hl [1, 2, 4] rfl) hF
          · replace hF := hif_f c_118 hF
            refine lv_lload hx hb d_X_remainder_121 (lv_at hl 0 rfl) ?_
            refine lv_lneg hx hb d_X_remainder_123 ?_
            refine lv_goto (tgt := 129) hx hb d_X_remainder_124 (by decide) ?_
            exact b_129 a1 a3 (-q_101) X_lo X_ro X_rc M_f P_f E1_sg E1_hi E1_lo E1_pl E1_mo _ _ _ hP hD hS (lv_sub hl [1, 2, 4] rfl) hF
        · replace hF := hif_f c_45 hF
          refine lv_aload_n hx hb d_X_remainder_48 rfl (lv_at hl 0 rfl) ?_
          refine va_get (D := (dC, dI)) (ci := 1) (v := .ref h_E1) (C := "RoundedNumbers") (T := F_X) (N := 8) hx hb hts in_X hown hK hP 0 rfl rfl 5 (by decide) (hts _ tw_48) (fun _ h9 => h9) rfl d_X_remainder_49 ?_
          refine lv_aload_n hx hb d_X_remainder_52 rfl (lv_at hl 0 rfl) ?_
          refine va_get (D := (dC, dI)) (ci := 1) (v := .ref h_M) (C := "RoundedNumbers") (T := F_X) (N := 8) hx hb hts in_X hown hK hP 0 rfl rfl 0 (by decide) (hts _ tw_43) (fun _ h9 => h9) rfl d_X_remainder_53 ?_
          refine lv_iload_n hx hb d_X_remainder_56 rfl (lv_at hl 2 rfl) ?_
          have c_57 : ¬ (a2 < 0 ∨ 8 ≤ a2.toNatClampNeg) := hif_n hF
          replace hF := hif_f c_57 hF
          refine va_lald hx hb hK hP 1 0 rfl rfl c_57 d_X_remainder_57 ?_
          refine lv_aload_n hx hb d_X_remainder_58 rfl (lv_at hl 0 rfl) ?_
          refine va_get (D := (dC, dI)) (ci := 1) (v := .ref h_P) (C := "RoundedNumbers") (T := F_X) (N := 8) hx hb hts in_X hown hK hP 0 rfl rfl 1 (by decide) (hts _ tw_44) (fun _ h9 => h9) rfl d_X_remainder_59 ?_
          refine lv_iload_n hx hb d_X_remainder_62 rfl (lv_at hl 2 rfl) ?_
          have c_63 : ¬ (a2 < 0 ∨ 8 ≤ a2.toNatClampNeg) := hif_n hF
          replace hF := hif_f c_63 hF
          refine va_iald hx hb hK hP 2 1 rfl rfl c_63 d_X_remainder_63 ?_
          obtain ⟨q_64, hC_64, hF⟩ := hbd hF
          have hPc := hP.sub (ws' := [cE h_E1 E1_sg E1_hi E1_lo E1_pl E1_mo]) [3] rfl
          have hDc := hD.sub (ws' := [cE h_E1 E1_sg E1_hi E1_lo E1_pl E1_mo]) [3] (by decide) rfl
          have hKc := hK.sub (tys' := []) [] rfl
          have hFc := va_free (wc := [cE h_E1 E1_sg E1_hi E1_lo E1_pl E1_mo]) hD hS hA [3] rfl
          refine va_callv (va_runV (As := [.long (M_f a2.toNatClampNeg), .int (P_f a2.toNatClampNeg)]) (rest := []) ⟨hx, hb, hml, hown, hts⟩ (c_E_hold l dC dI h_E1 H.size E1_sg E1_hi E1_lo E1_pl E1_mo (M_f a2.toNatClampNeg) (P_f a2.toNatClampNeg) q_64 hC_64) (cwV 2 hts g_X_54_E_hold rfl rfl rfl (by decide +kernel) ⟨Nat.le_of_ble_eq_true rfl, Nat.le_of_ble_eq_true rfl⟩) ⟨fun a U g mk q => by obtain ⟨q0, q1, qP, qK, qD⟩ := q; exact ⟨q0, q1, qP, va_K.moved (u := U) (U := U.calling g mk a) (Vm.Alike.refl U.vm) qK, qD⟩, va_recv hKc hPc (ci := 0) (q0 := 0) rfl rfl, fun U hU hW => ⟨rfl, by rw [hU], by rw [hU]; exact hPc, va_K.moved hW.alike hKc, hDc.weaken (fun _ _ _ _ => trivial)⟩⟩ rfl rfl hl.1 rfl (lv_room (Nat.le_of_ble_eq_true rfl)) d_X_remainder_64 ⟨Nat.zero_le _, Nat.zero_le _⟩) hS (fun q _ h => hFc q h) hFc (fun u t H1 locs ht hvm hw hB hz1 hk1 hS => ?_)
          obtain ⟨hP1, hK1, hD1⟩ := hB
          rw [ht] at hP1
          obtain ⟨hP, hD⟩ := va_join (wr := [cX h_X h_M h_P h_E1 h_E2 h_E3 X_lo X_ro X_rc, cL h_M k_M 8 M_f, cI h_P k_P 8 P_f]) (w1 := [cE h_E1 q_64.1 q_64.2.1 q_64.2.2.1 q_64.2.2.2.1 q_64.2.2.2.2]) hP hD [3] [0, 1, 2] rfl rfl (by decide) (by decide) hk1 hFc hP1 hD1
          generalize H1 = H at hP hS ⊢
          have hP := hP.sub (ws' := [cX h_X h_M h_P h_E1 h_E2 h_E3 X_lo X_ro X_rc, cL h_M k_M 8 M_f, cI h_P k_P 8 P_f, cE h_E1 q_64.1 q_64.2.1 q_64.2.2.1 q_64.2.2.2.1 q_64.2.2.2.2]) [0, 1, 2, 3] rfl
          have hD := hD.sub (ws' := [cX h_X h_M h_P h_E1 h_E2 h_E3 X_lo X_ro X_rc, cL h_M k_M 8 M_f, cI h_P k_P 8 P_f, cE h_E1 q_64.1 q_64.2.1 q_64.2.2.1 q_64.2.2.2.1 q_64.2.2.2.2]) [0, 1, 2, 3] (by decide) rfl
          refine lv_goto (tgt := 138) hx hb d_X_remainder_67 (by decide) ?_
          exact b_138 a1 X_lo X_ro X_rc M_f P_f q_64.1 q_64.2.1 q_64.2.2.1 q_64.2.2.2.1 q_64.2.2.2.2 _ _ _ hP hD hS (lv_sub hl [0, 1] rfl) hF
      · replace hF := hif_f c_28 hF
        refine lv_iconst (v := (-1 : Int32)) hx hb d_X_remainder_31 (by decide) ?_
        obtain rfl := Option.some.inj hF
        exact W.iret (v := (-1 : Int32)) hx hb hr (fun t ht hW => ⟨⟨(-1 : Int32), (), rfl, rfl, by rw [ht]; exact hP, va_K.moved hW.alike hK, hD⟩, hS.F ht⟩) hS.2.2 d_X_remainder_32
set_option maxHeartbeats 4000000 in
set_option maxRecDepth 100000 in
theorem c_X_copy (l : Launch) (dC : Nat → ClassId) (dI : Nat → Nat → Nat) (h_X : Nat) (h_M : Nat) (h_P : Nat) (h_E1 : Nat) (h_E2 : Nat) (h_E3 : Nat) (k_M : ClassId) (k_P : ClassId) (sz : Nat) (X_lo : Int32) (X_ro : Int32) (X_rc : Int32) (M_f : Nat → Int64) (P_f : Nat → Int32) (E1_sg : Int32) (E1_hi : Int64) (E1_lo : Int64) (E1_pl : Int32) (E1_mo : Int32) (a1 : Int32) (a2 : Int32) (a3 : Int32) (o : Int32 × Int32 × Int32 × Int32 × (Nat → Int64) × (Nat → Int32) × Int32 × Int64 × Int64 × Int32 × Int32) (hF : f_X_copy X_lo X_ro X_rc M_f P_f E1_sg E1_hi E1_lo E1_pl E1_mo a1 a2 a3 = some o) : Met l y_X_copy w_X_copy ({ frames := 6, cells := 0, slots := 0, locals := 142 } : Room) (va_Pc [.ref h_X, .int a1, .int a2, .int a3] (fun U => U.heap.size = sz ∧ va_P (dC, dI) classes [cX h_X h_M h_P h_E1 h_E2 h_E3 X_lo X_ro X_rc, cL h_M k_M 8 M_f, cI h_P k_P 8 P_f, cE h_E1 E1_sg E1_hi E1_lo E1_pl E1_mo] U.heap ∧ va_K (dC, dI) classes [(k_M, .long), (k_P, .int)] U ∧ va_D (fun _ => True) [cX h_X h_M h_P h_E1 h_E2 h_E3 X_lo X_ro X_rc, cL h_M k_M 8 M_f, cI h_P k_P 8 P_f, cE h_E1 E1_sg E1_hi E1_lo E1_pl E1_mo])) (va_Qi (fun (r : Int32) (_ : Unit) => r = o.1) (fun (_ : Unit) (t : State) => va_P (dC, dI) classes [cX h_X h_M h_P h_E1 h_E2 h_E3 o.2.1 o.2.2.1 o.2.2.2.1, cL h_M k_M 8 o.2.2.2.2.1, cI h_P k_P 8 o.2.2.2.2.2.1, cE h_E1 o.2.2.2.2.2.2.1 o.2.2.2.2.2.2.2.1 o.2.2.2.2.2.2.2.2.1 o.2.2.2.2.2.2.2.2.2.1 o.2.2.2.2.2.2.2.2.2.2] t.heap ∧ va_K (dC, dI) classes [(k_M, .long), (k_P, .int)] t ∧ va_D (va_A [cX h_X h_M h_P h_E1 h_E2 h_E3 X_lo X_ro X_rc, cL h_M k_M 8 M_f, cI h_P k_P 8 P_f, cE h_E1 E1_sg E1_hi E1_lo E1_pl E1_mo] sz) [cX h_X h_M h_P h_E1 h_E2 h_E3 o.2.1 o.2.2.1 o.2.2.2.1, cL h_M k_M 8 o.2.2.2.2.1, cI h_P k_P 8 o.2.2.2.2.2.1, cE h_E1 o.2.2.2.2.2.2.1 o.2.2.2.2.2.2.2.1 o.2.2.2.2.2.2.2.2.1 o.2.2.2.2.2.2.2.2.2.1 o.2.2.2.2.2.2.2.2.2.2]) (va_A [cX h_X h_M h_P h_E1 h_E2 h_E3 X_lo X_ro X_rc, cL h_M k_M 8 M_f, cI h_P k_P 8 P_f, cE h_E1 E1_sg E1_hi E1_lo E1_pl E1_mo] sz)) 0 0 (va_A [cX h_X h_M h_P h_E1 h_E2 h_E3 X_lo X_ro X_rc, cL h_M k_M 8 M_f, cI h_P k_P 8 P_f, cE h_E1 E1_sg E1_hi E1_lo E1_pl E1_mo] sz) := by
  refine Met.ofW (cc := prog_1_method_11_code) (maxL := 4) (ret := (some .int)) (by decide) rfl ?_
  intro p e s m args below meth c s₁ B hml hv
  obtain ⟨rfl, hsz, hP, hK, hD0⟩ := hv
  have hx := B.exec
  have hb := B.bytes
  have hr := B.returns
  have hts0 := atoms_spec (ws := w_X_copy) B.pre
  have hts : ∀ w ∈ tb, w.before _ s = true := fun w h => hts0 w (List.mem_cons_of_mem _ h)
  clear hts0
  have hown : s.vm.findClass "RoundedNumbers" = some m.cls := findClass_of_methodNamed B.named
  have hlocks := B.notSynchronized
  subst hsz
  have hD := hD0.self (sz := s.heap.size)
  generalize hAe : va_A [cX h_X h_M h_P h_E1 h_E2 h_E3 X_lo X_ro X_rc, cL h_M k_M 8 M_f, cI h_P k_P 8 P_f, cE h_E1 E1_sg E1_hi E1_lo E1_pl E1_mo] s.heap.size = A at hD ⊢
  have hA : ∀ q : Nat, s.heap.size ≤ q → A q := fun q h => by rw [← hAe]; exact Or.inr h
  clear hAe
  have hS : va_S A s.heap s.heap [] := va_S.rf
  have hP : va_P (dC, dI) classes [cX h_X h_M h_P h_E1 h_E2 h_E3 X_lo X_ro X_rc, cL h_M k_M 8 M_f, cI h_P k_P 8 P_f, cE h_E1 E1_sg E1_hi E1_lo E1_pl E1_mo] s.heap := hP
  have hl := lv_entry ([.ref h_X, .int a1, .int a2, .int a3]) (n := 4) (Nat.le_of_ble_eq_true rfl)
  rw [lg_entry_eq]
  generalize (lg_sl ([.ref h_X, .int a1, .int a2, .int a3]) ++ List.replicate (4 - (lg_sl ([.ref h_X, .int a1, .int a2, .int a3])).length) Slot.unset).toArray = ls at hl ⊢
  have hl : lv_has ls 4 [(0, .ref h_X), (1, .int a1), (2, .int a2), (3, .int a3)] := hl
  unfold f_X_copy at hF
  refine lv_iload_n hx hb d_X_copy_0 rfl (lv_at hl 1 rfl) ?_
  obtain ⟨q_1, hC_1, hF⟩ := hbd hF
  have hPc := hP.sub (ws' := []) [] rfl
  have hDc := hD.sub (ws' := []) [] (by decide) rfl
  have hKc := hK.sub (tys' := []) [] rfl
  have hFc := va_free (wc := []) hD hS hA [] rfl
  refine va_calli (va_runS (As := [.int a1]) (rest := []) ⟨hx, hb, hml, hown, hts⟩ (c_X_isRegister l dC dI s.heap.size a1 q_1 hC_1) (cwS 1 hts g_X_30_X_isRegister rfl rfl rfl (by decide +kernel) ⟨Nat.le_of_ble_eq_true rfl, Nat.le_of_ble_eq_true rfl⟩) ⟨fun a U g mk q => by obtain ⟨q0, q1, qP, qK, qD⟩ := q; exact ⟨q0, q1, qP, va_K.moved (u := U) (U := U.calling g mk a) (Vm.Alike.refl U.vm) qK, qD⟩, fun U hU hW => ⟨rfl, by rw [hU], by rw [hU]; exact hPc, va_K.moved hW.alike hKc, hDc.weaken (fun _ _ _ _ => trivial)⟩⟩ rfl rfl hl.1 rfl (lv_room (Nat.le_of_ble_eq_true rfl)) d_X_copy_1 ⟨Nat.zero_le _, Nat.zero_le _⟩) hS (fun q _ h => hFc q h) hFc (fun r u t H1 locs ht hvm hw hB hz1 hk1 hS => ?_)
  obtain ⟨hP1, hK1, hD1⟩ := hB
  replace hw := hw.symm
  subst hw
  rw [ht] at hP1
  obtain ⟨hP, hD⟩ := va_join (wr := [cX h_X h_M h_P h_E1 h_E2 h_E3 X_lo X_ro X_rc, cL h_M k_M 8 M_f, cI h_P k_P 8 P_f, cE h_E1 E1_sg E1_hi E1_lo E1_pl E1_mo]) (w1 := []) hP hD [] [0, 1, 2, 3] rfl rfl (by decide) (by decide) hk1 hFc hP1 hD1
  generalize H1 = H at hP hS ⊢
  have hP := hP.sub (ws' := [cX h_X h_M h_P h_E1 h_E2 h_E3 X_lo X_ro X_rc, cL h_M k_M 8 M_f, cI h_P k_P 8 P_f, cE h_E1 E1_sg E1_hi E1_lo E1_pl E1_mo]) [0, 1, 2, 3] rfl
  have hD := hD.sub (ws' := [cX h_X h_M h_P h_E1 h_E2 h_E3 X_lo X_ro X_rc, cL h_M k_M 8 M_f, cI h_P k_P 8 P_f, cE h_E1 E1_sg E1_hi E1_lo E1_pl E1_mo]) [0, 1, 2, 3] (by decide) rfl
  refine lv_if_eq (tgt := 14) hx hb d_X_copy_4 (by decide) (fun c_4 => ?_) (fun c_4 => ?_)
  · replace hF := hif_t c_4 hF
    refine lv_iconst (v := (-1 : Int32)) hx hb d_X_copy_14 (by decide) ?_
    obtain rfl := Option.some.inj hF
    exact W.iret (v := (-1 : Int32)) hx hb hr (fun t ht hW => ⟨⟨(-1 : Int32), (), rfl, rfl, by rw [ht]; exact hP, va_K.moved hW.alike hK, hD⟩, hS.F ht⟩) hS.2.2 d_X_copy_15
  · replace hF := hif_f c_4 hF
    refine lv_iload_n hx hb d_X_copy_7 rfl (lv_at hl 2 rfl) ?_
    obtain ⟨q_8, hC_8, hF⟩ := hbd hF
    have hPc := hP.sub (ws' := []) [] rfl
    have hDc := hD.sub (ws' := []) [] (by decide) rfl
    have hKc := hK.sub (tys' := []) [] rfl
    have hFc := va_free (wc := []) hD hS hA [] rfl
    refine va_calli (va_runS (As := [.int a2]) (rest := []) ⟨hx, hb, hml, hown, hts⟩ (c_X_isRegister l dC dI H.size a2 q_8 hC_8) (cwS 1 hts g_X_30_X_isRegister rfl rfl rfl (by decide +kernel) ⟨Nat.le_of_ble_eq_true rfl, Nat.le_of_ble_eq_true rfl⟩) ⟨fun a U g mk q => by obtain ⟨q0, q1, qP, qK, qD⟩ := q; exact ⟨q0, q1, qP, va_K.moved (u := U) (U := U.calling g mk a) (Vm.Alike.refl U.vm) qK, qD⟩, fun U hU hW => ⟨rfl, by rw [hU], by rw [hU]; exact hPc, va_K.moved hW.alike hKc, hDc.weaken (fun _ _ _ _ => trivial)⟩⟩ rfl rfl hl.1 rfl (lv_room (Nat.le_of_ble_eq_true rfl)) d_X_copy_8 ⟨Nat.zero_le _, Nat.zero_le _⟩) hS (fun q _ h => hFc q h) hFc (fun r u t H1 locs ht hvm hw hB hz1 hk1 hS => ?_)
    obtain ⟨hP1, hK1, hD1⟩ := hB
    replace hw := hw.symm
    subst hw
    rw [ht] at hP1
    obtain ⟨hP, hD⟩ := va_join (wr := [cX h_X h_M h_P h_E1 h_E2 h_E3 X_lo X_ro X_rc, cL h_M k_M 8 M_f, cI h_P k_P 8 P_f, cE h_E1 E1_sg E1_hi E1_lo E1_pl E1_mo]) (w1 := []) hP hD [] [0, 1, 2, 3] rfl rfl (by decide) (by decide) hk1 hFc hP1 hD1
    generalize H1 = H at hP hS ⊢
    have hP := hP.sub (ws' := [cX h_X h_M h_P h_E1 h_E2 h_E3 X_lo X_ro X_rc, cL h_M k_M 8 M_f, cI h_P k_P 8 P_f, cE h_E1 E1_sg E1_hi E1_lo E1_pl E1_mo]) [0, 1, 2, 3] rfl
    have hD := hD.sub (ws' := [cX h_X h_M h_P h_E1 h_E2 h_E3 X_lo X_ro X_rc, cL h_M k_M 8 M_f, cI h_P k_P 8 P_f, cE h_E1 E1_sg E1_hi E1_lo E1_pl E1_mo]) [0, 1, 2, 3] (by decide) rfl
    refine lv_if_ne (tgt := 16) hx hb d_X_copy_11 (by decide) (fun c_11 => ?_) (fun c_11 => ?_)
    · replace hF := hif_f c_11 hF
      refine lv_aload_n hx hb d_X_copy_16 rfl (lv_at hl 0 rfl) ?_
      refine va_get (D := (dC, dI)) (ci := 1) (v := .ref h_E1) (C := "RoundedNumbers") (T := F_X) (N := 8) hx hb hts in_X hown hK hP 0 rfl rfl 5 (by decide) (hts _ tw_48) (fun _ h9 => h9) rfl d_X_copy_17 ?_
      refine lv_aload_n hx hb d_X_copy_20 rfl (lv_at hl 0 rfl) ?_
      refine va_get (D := (dC, dI)) (ci := 1) (v := .ref h_M) (C := "RoundedNumbers") (T := F_X) (N := 8) hx hb hts in_X hown hK hP 0 rfl rfl 0 (by decide) (hts _ tw_43) (fun _ h9 => h9) rfl d_X_copy_21 ?_
      refine lv_iload_n hx hb d_X_copy_24 rfl (lv_at hl 2 rfl) ?_
      have c_25 : ¬ (a2 < 0 ∨ 8 ≤ a2.toNatClampNeg) := hif_n hF
      replace hF := hif_f c_25 hF
      refine va_lald hx hb hK hP 1 0 rfl rfl c_25 d_X_copy_25 ?_
      refine lv_aload_n hx hb d_X_copy_26 rfl (lv_at hl 0 rfl) ?_
      refine va_get (D := (dC, dI)) (ci := 1) (v := .ref h_P) (C := "RoundedNumbers") (T := F_X) (N := 8) hx hb hts in_X hown hK hP 0 rfl rfl 1 (by decide) (hts _ tw_44) (fun _ h9 => h9) rfl d_X_copy_27 ?_
      refine lv_iload_n hx hb d_X_copy_30 rfl (lv_at hl 2 rfl) ?_
      have c_31 : ¬ (a2 < 0 ∨ 8 ≤ a2.toNatClampNeg) := hif_n hF
      replace hF := hif_f c_31 hF
      refine va_iald hx hb hK hP 2 1 rfl rfl c_31 d_X_copy_31 ?_
      obtain ⟨q_32, hC_32, hF⟩ := hbd hF
      have hPc := hP.sub (ws' := [cE h_E1 E1_sg E1_hi E1_lo E1_pl E1_mo]) [3] rfl
      have hDc := hD.sub (ws' := [cE h_E1 E1_sg E1_hi E1_lo E1_pl E1_mo]) [3] (by decide) rfl
      have hKc := hK.sub (tys' := []) [] rfl
      have hFc := va_free (wc := [cE h_E1 E1_sg E1_hi E1_lo E1_pl E1_mo]) hD hS hA [3] rfl
      refine va_callv (va_runV (As := [.long (M_f a2.toNatClampNeg), .int (P_f a2.toNatClampNeg)]) (rest := []) ⟨hx, hb, hml, hown, hts⟩ (c_E_hold l dC dI h_E1 H.size E1_sg E1_hi E1_lo E1_pl E1_mo (M_f a2.toNatClampNeg) (P_f a2.toNatClampNeg) q_32 hC_32) (cwV 2 hts g_X_54_E_hold rfl rfl rfl (by decide +kernel) ⟨Nat.le_of_ble_eq_true rfl, Nat.le_of_ble_eq_true rfl⟩) ⟨fun a U g mk q => by obtain ⟨q0, q1, qP, qK, qD⟩ := q; exact ⟨q0, q1, qP, va_K.moved (u := U) (U := U.calling g mk a) (Vm.Alike.refl U.vm) qK, qD⟩, va_recv hKc hPc (ci := 0) (q0 := 0) rfl rfl, fun U hU hW => ⟨rfl, by rw [hU], by rw [hU]; exact hPc, va_K.moved hW.alike hKc, hDc.weaken (fun _ _ _ _ => trivial)⟩⟩ rfl rfl hl.1 rfl (lv_room (Nat.le_of_ble_eq_true rfl)) d_X_copy_32 ⟨Nat.zero_le _, Nat.zero_le _⟩) hS (fun q _ h => hFc q h) hFc (fun u t H1 locs ht hvm hw hB hz1 hk1 hS => ?_)
      obtain ⟨hP1, hK1, hD1⟩ := hB
      rw [ht] at hP1
      obtain ⟨hP, hD⟩ := va_join (wr := [cX h_X h_M h_P h_E1 h_E2 h_E3 X_lo X_ro X_rc, cL h_M k_M 8 M_f, cI h_P k_P 8 P_f]) (w1 := [cE h_E1 q_32.1 q_32.2.1 q_32.2.2.1 q_32.2.2.2.1 q_32.2.2.2.2]) hP hD [3] [0, 1, 2] rfl rfl (by decide) (by decide) hk1 hFc hP1 hD1
      generalize H1 = H at hP hS ⊢
      have hP := hP.sub (ws' := [cX h_X h_M h_P h_E1 h_E2 h_E3 X_lo X_ro X_rc, cL h_M k_M 8 M_f, cI h_P k_P 8 P_f, cE h_E1 q_32.1 q_32.2.1 q_32.2.2.1 q_32.2.2.2.1 q_32.2.2.2.2]) [0, 1, 2, 3] rfl
      have hD := hD.sub (ws' := [cX h_X h_M h_P h_E1 h_E2 h_E3 X_lo X_ro X_rc, cL h_M k_M 8 M_f, cI h_P k_P 8 P_f, cE h_E1 q_32.1 q_32.2.1 q_32.2.2.1 q_32.2.2.2.1 q_32.2.2.2.2]) [0, 1, 2, 3] (by decide) rfl
      refine lv_aload_n hx hb d_X_copy_35 rfl (lv_at hl 0 rfl) ?_
      refine lv_iload_n hx hb d_X_copy_36 rfl (lv_at hl 1 rfl) ?_
      refine lv_aload_n hx hb d_X_copy_37 rfl (lv_at hl 0 rfl) ?_
      refine va_get (D := (dC, dI)) (ci := 1) (v := .ref h_E1) (C := "RoundedNumbers") (T := F_X) (N := 8) hx hb hts in_X hown hK hP 0 rfl rfl 5 (by decide) (hts _ tw_48) (fun _ h9 => h9) rfl d_X_copy_38 ?_
      refine lv_iload_n hx hb d_X_copy_41 rfl (lv_at hl 3 rfl) ?_
      obtain ⟨q_42, hC_42, hF⟩ := hbd hF
      have hPc := hP.sub (ws' := [cX h_X h_M h_P h_E1 h_E2 h_E3 X_lo X_ro X_rc, cL h_M k_M 8 M_f, cI h_P k_P 8 P_f, cE h_E1 q_32.1 q_32.2.1 q_32.2.2.1 q_32.2.2.2.1 q_32.2.2.2.2]) [0, 1, 2, 3] rfl
      have hDc := hD.sub (ws' := [cX h_X h_M h_P h_E1 h_E2 h_E3 X_lo X_ro X_rc, cL h_M k_M 8 M_f, cI h_P k_P 8 P_f, cE h_E1 q_32.1 q_32.2.1 q_32.2.2.1 q_32.2.2.2.1 q_32.2.2.2.2]) [0, 1, 2, 3] (by decide) rfl
      have hKc := hK.sub (tys' := [(k_M, .long), (k_P, .int)]) [0, 1] rfl
      have hFc := va_free (wc := [cX h_X h_M h_P h_E1 h_E2 h_E3 X_lo X_ro X_rc, cL h_M k_M 8 M_f, cI h_P k_P 8 P_f, cE h_E1 q_32.1 q_32.2.1 q_32.2.2.1 q_32.2.2.2.1 q_32.2.2.2.2]) hD hS hA [0, 1, 2, 3] rfl
      refine va_calli (va_runV (As := [.int a1, .ref h_E1, .int a3]) (rest := []) ⟨hx, hb, hml, hown, hts⟩ (c_X_finish l dC dI h_X h_M h_P h_E1 h_E2 h_E3 h_E1 k_M k_P H.size X_lo X_ro X_rc M_f P_f q_32.1 q_32.2.1 q_32.2.2.1 q_32.2.2.2.1 q_32.2.2.2.2 a1 a3 q_42 hC_42) (cwV 3 hts g_X_62_X_finish rfl rfl rfl (by decide +kernel) ⟨Nat.le_of_ble_eq_true rfl, Nat.le_of_ble_eq_true rfl⟩) ⟨fun a U g mk q => by obtain ⟨q0, q1, qP, qK, qD⟩ := q; exact ⟨q0, q1, qP, va_K.moved (u := U) (U := U.calling g mk a) (Vm.Alike.refl U.vm) qK, qD⟩, va_recv hKc hPc (ci := 1) (q0 := 0) rfl rfl, fun U hU hW => ⟨rfl, by rw [hU], by rw [hU]; exact hPc, va_K.moved hW.alike hKc, hDc.weaken (fun _ _ _ _ => trivial)⟩⟩ rfl rfl hl.1 rfl (lv_room (Nat.le_of_ble_eq_true rfl)) d_X_copy_42 ⟨Nat.zero_le _, Nat.zero_le _⟩) hS (fun q _ h => hFc q h) hFc (fun r u t H1 locs ht hvm hw hB hz1 hk1 hS => ?_)
      obtain ⟨hP1, hK1, hD1⟩ := hB
      replace hw := hw.symm
      subst hw
      rw [ht] at hP1
      obtain ⟨hP, hD⟩ := va_join (wr := []) (w1 := [cX h_X h_M h_P h_E1 h_E2 h_E3 q_42.2.1 q_42.2.2.1 q_42.2.2.2.1, cL h_M k_M 8 q_42.2.2.2.2.1, cI h_P k_P 8 q_42.2.2.2.2.2.1, cE h_E1 q_32.1 q_42.2.2.2.2.2.2.1 q_42.2.2.2.2.2.2.2.1 q_42.2.2.2.2.2.2.2.2.1 q_42.2.2.2.2.2.2.2.2.2]) hP hD [0, 1, 2, 3] [] rfl rfl (by decide) (by decide) hk1 hFc hP1 hD1
      generalize H1 = H at hP hS ⊢
      have hP := hP.sub (ws' := [cX h_X h_M h_P h_E1 h_E2 h_E3 q_42.2.1 q_42.2.2.1 q_42.2.2.2.1, cL h_M k_M 8 q_42.2.2.2.2.1, cI h_P k_P 8 q_42.2.2.2.2.2.1, cE h_E1 q_32.1 q_42.2.2.2.2.2.2.1 q_42.2.2.2.2.2.2.2.1 q_42.2.2.2.2.2.2.2.2.1 q_42.2.2.2.2.2.2.2.2.2]) [0, 1, 2, 3] rfl
      have hD := hD.sub (ws' := [cX h_X h_M h_P h_E1 h_E2 h_E3 q_42.2.1 q_42.2.2.1 q_42.2.2.2.1, cL h_M k_M 8 q_42.2.2.2.2.1, cI h_P k_P 8 q_42.2.2.2.2.2.1, cE h_E1 q_32.1 q_42.2.2.2.2.2.2.1 q_42.2.2.2.2.2.2.2.1 q_42.2.2.2.2.2.2.2.2.1 q_42.2.2.2.2.2.2.2.2.2]) [0, 1, 2, 3] (by decide) rfl
      obtain rfl := Option.some.inj hF
      exact W.iret (v := q_42.1) hx hb hr (fun t ht hW => ⟨⟨q_42.1, (), rfl, rfl, by rw [ht]; exact hP, va_K.moved hW.alike hK, hD⟩, hS.F ht⟩) hS.2.2 d_X_copy_45
    · replace hF := hif_t c_11 hF
      refine lv_iconst (v := (-1 : Int32)) hx hb d_X_copy_14 (by decide) ?_
      obtain rfl := Option.some.inj hF
      exact W.iret (v := (-1 : Int32)) hx hb hr (fun t ht hW => ⟨⟨(-1 : Int32), (), rfl, rfl, by rw [ht]; exact hP, va_K.moved hW.alike hK, hD⟩, hS.F ht⟩) hS.2.2 d_X_copy_15
