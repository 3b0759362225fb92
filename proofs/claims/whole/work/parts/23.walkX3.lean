set_option maxHeartbeats 4000000 in
set_option maxRecDepth 100000 in
theorem c_X_scale (l : Launch) (dC : Nat → ClassId) (dI : Nat → Nat → Nat) (h_X : Nat) (h_M : Nat) (h_P : Nat) (h_E1 : Nat) (h_E2 : Nat) (h_E3 : Nat) (k_M : ClassId) (k_P : ClassId) (sz : Nat) (X_lo : Int32) (X_ro : Int32) (X_rc : Int32) (M_f : Nat → Int64) (P_f : Nat → Int32) (E1_sg : Int32) (E1_hi : Int64) (E1_lo : Int64) (E1_pl : Int32) (E1_mo : Int32) (a1 : Int32) (a2 : Int32) (a3 : Int32) (o : Int32 × Int32 × Int32 × Int32 × (Nat → Int64) × (Nat → Int32) × Int32 × Int64 × Int64 × Int32 × Int32) (hF : f_X_scale X_lo X_ro X_rc M_f P_f E1_sg E1_hi E1_lo E1_pl E1_mo a1 a2 a3 = some o) : Met l y_X_scale w_X_scale ({ frames := 6, cells := 0, slots := 0, locals := 142 } : Room) (va_Pc [.ref h_X, .int a1, .int a2, .int a3] (fun U => U.heap.size = sz ∧ va_P (dC, dI) classes [cX h_X h_M h_P h_E1 h_E2 h_E3 X_lo X_ro X_rc, cL h_M k_M 8 M_f, cI h_P k_P 8 P_f, cE h_E1 E1_sg E1_hi E1_lo E1_pl E1_mo] U.heap ∧ va_K (dC, dI) classes [(k_M, .long), (k_P, .int)] U ∧ va_D (fun _ => True) [cX h_X h_M h_P h_E1 h_E2 h_E3 X_lo X_ro X_rc, cL h_M k_M 8 M_f, cI h_P k_P 8 P_f, cE h_E1 E1_sg E1_hi E1_lo E1_pl E1_mo])) (va_Qi (fun (r : Int32) (_ : Unit) => r = o.1) (fun (_ : Unit) (t : State) => va_P (dC, dI) classes [cX h_X h_M h_P h_E1 h_E2 h_E3 o.2.1 o.2.2.1 o.2.2.2.1, cL h_M k_M 8 o.2.2.2.2.1, cI h_P k_P 8 o.2.2.2.2.2.1, cE h_E1 o.2.2.2.2.2.2.1 o.2.2.2.2.2.2.2.1 o.2.2.2.2.2.2.2.2.1 o.2.2.2.2.2.2.2.2.2.1 o.2.2.2.2.2.2.2.2.2.2] t.heap ∧ va_K (dC, dI) classes [(k_M, .long), (k_P, .int)] t ∧ va_D (va_A [cX h_X h_M h_P h_E1 h_E2 h_E3 X_lo X_ro X_rc, cL h_M k_M 8 M_f, cI h_P k_P 8 P_f, cE h_E1 E1_sg E1_hi E1_lo E1_pl E1_mo] sz) [cX h_X h_M h_P h_E1 h_E2 h_E3 o.2.1 o.2.2.1 o.2.2.2.1, cL h_M k_M 8 o.2.2.2.2.1, cI h_P k_P 8 o.2.2.2.2.2.1, cE h_E1 o.2.2.2.2.2.2.1 o.2.2.2.2.2.2.2.1 o.2.2.2.2.2.2.2.2.1 o.2.2.2.2.2.2.2.2.2.1 o.2.2.2.2.2.2.2.2.2.2]) (va_A [cX h_X h_M h_P h_E1 h_E2 h_E3 X_lo X_ro X_rc, cL h_M k_M 8 M_f, cI h_P k_P 8 P_f, cE h_E1 E1_sg E1_hi E1_lo E1_pl E1_mo] sz)) 0 0 (va_A [cX h_X h_M h_P h_E1 h_E2 h_E3 X_lo X_ro X_rc, cL h_M k_M 8 M_f, cI h_P k_P 8 P_f, cE h_E1 E1_sg E1_hi E1_lo E1_pl E1_mo] sz) := by
  refine Met.ofW (cc := prog_1_method_12_code) (maxL := 4) (ret := (some .int)) (by decide) rfl ?_
  intro p e s m args below meth c s₁ B hml hv
  obtain ⟨rfl, hsz, hP, hK, hD0⟩ := hv
  have hx := B.exec
  have hb := B.bytes
  have hr := B.returns
  have hts0 := atoms_spec (ws := w_X_scale) B.pre
  have hts : ∀ w ∈ tb, w.before _ s = true := fun w h => hts0 w (List.mem_cons_of_mem _ h)
  clear hts0
  have hown : s.vm.findClass "RoundedNumbers" = some m.cls := findClass_of_methodNamed B.named
  have hlocks := B.notSynchronized
  subst hsz
  have hD := hD0.self (sz := s.heap.size)
  generalize hAe : va_A [cX h_X h_M h_P h_E1 h_E2 h_E3 X_lo X_ro X_rc, cL h_M k_M 8 M_f, cI h_P k_P 8 P_f, cE h_E1 E1_sg E1_hi E1_lo E1_pl E1_mo] s.heap.size = A at hD ⊢
  have hA : ∀ q : Nat, s.heap.size ≤ q → A q := fun q h => by rw [← hAe]; exact Or.inr h
  clear hAe
  have hS : va_S A s.heap s.heap [] := va_S.rf
  have hP : va_P (dC, dI) classes [cX h_X h_M h_P h_E1 h_E2 h_E3 X_lo X_ro X_rc, cL h_M k_M 8 M_f, cI h_P k_P 8 P_f, cE h_E1 E1_sg E1_hi E1_lo E1_pl E1_mo] s.heap := hP
  have hl := lv_entry ([.ref h_X, .int a1, .int a2, .int a3]) (n := 4) (Nat.le_of_ble_eq_true rfl)
  rw [lg_entry_eq]
  generalize (lg_sl ([.ref h_X, .int a1, .int a2, .int a3]) ++ List.replicate (4 - (lg_sl ([.ref h_X, .int a1, .int a2, .int a3])).length) Slot.unset).toArray = ls at hl ⊢
  have hl : lv_has ls 4 [(0, .ref h_X), (1, .int a1), (2, .int a2), (3, .int a3)] := hl
  unfold f_X_scale at hF
  refine lv_iload_n hx hb d_X_scale_0 rfl (lv_at hl 1 rfl) ?_
  obtain ⟨q_1, hC_1, hF⟩ := hbd hF
  have hPc := hP.sub (ws' := []) [] rfl
  have hDc := hD.sub (ws' := []) [] (by decide) rfl
  have hKc := hK.sub (tys' := []) [] rfl
  have hFc := va_free (wc := []) hD hS hA [] rfl
  refine va_calli (va_runS (As := [.int a1]) (rest := []) ⟨hx, hb, hml, hown, hts⟩ (c_X_isRegister l dC dI s.heap.size a1 q_1 hC_1) (cwS 1 hts g_X_30_X_isRegister rfl rfl rfl (by decide +kernel) ⟨Nat.le_of_ble_eq_true rfl, Nat.le_of_ble_eq_true rfl⟩) ⟨fun a U g mk q => by obtain ⟨q0, q1, qP, qK, qD⟩ := q; exact ⟨q0, q1, qP, va_K.moved (u := U) (U := U.calling g mk a) (Vm.Alike.refl U.vm) qK, qD⟩, fun U hU hW => ⟨rfl, by rw [hU], by rw [hU]; exact hPc, va_K.moved hW.alike hKc, hDc.weaken (fun _ _ _ _ => trivial)⟩⟩ rfl rfl hl.1 rfl (lv_room (Nat.le_of_ble_eq_true rfl)) d_X_scale_1 ⟨Nat.zero_le _, Nat.zero_le _⟩) hS (fun q _ h => hFc q h) hFc (fun r u t H1 locs ht hvm hw hB hz1 hk1 hS => ?_)
  obtain ⟨hP1, hK1, hD1⟩ := hB
  replace hw := hw.symm
  subst hw
  rw [ht] at hP1
  obtain ⟨hP, hD⟩ := va_join (wr := [cX h_X h_M h_P h_E1 h_E2 h_E3 X_lo X_ro X_rc, cL h_M k_M 8 M_f, cI h_P k_P 8 P_f, cE h_E1 E1_sg E1_hi E1_lo E1_pl E1_mo]) (w1 := []) hP hD [] [0, 1, 2, 3] rfl rfl (by decide) (by decide) hk1 hFc hP1 hD1
  generalize H1 = H at hP hS ⊢
  have hP := hP.sub (ws' := [cX h_X h_M h_P h_E1 h_E2 h_E3 X_lo X_ro X_rc, cL h_M k_M 8 M_f, cI h_P k_P 8 P_f, cE h_E1 E1_sg E1_hi E1_lo E1_pl E1_mo]) [0, 1, 2, 3] rfl
  have hD := hD.sub (ws' := [cX h_X h_M h_P h_E1 h_E2 h_E3 X_lo X_ro X_rc, cL h_M k_M 8 M_f, cI h_P k_P 8 P_f, cE h_E1 E1_sg E1_hi E1_lo E1_pl E1_mo]) [0, 1, 2, 3] (by decide) rfl
  refine lv_if_eq (tgt := 28) hx hb d_X_scale_4 (by decide) (fun c_4 => ?_) (fun c_4 => ?_)
  · replace hF := hif_t c_4 hF
    refine lv_iconst (v := (-1 : Int32)) hx hb d_X_scale_28 (by decide) ?_
    obtain rfl := Option.some.inj hF
    exact W.iret (v := (-1 : Int32)) hx hb hr (fun t ht hW => ⟨⟨(-1 : Int32), (), rfl, rfl, by rw [ht]; exact hP, va_K.moved hW.alike hK, hD⟩, hS.F ht⟩) hS.2.2 d_X_scale_29
  · replace hF := hif_f c_4 hF
    refine lv_iload_n hx hb d_X_scale_7 rfl (lv_at hl 2 rfl) ?_
    obtain ⟨q_8, hC_8, hF⟩ := hbd hF
    have hPc := hP.sub (ws' := []) [] rfl
    have hDc := hD.sub (ws' := []) [] (by decide) rfl
    have hKc := hK.sub (tys' := []) [] rfl
    have hFc := va_free (wc := []) hD hS hA [] rfl
    refine va_calli (va_runS (As := [.int a2]) (rest := []) ⟨hx, hb, hml, hown, hts⟩ (c_X_isRegister l dC dI H.size a2 q_8 hC_8) (cwS 1 hts g_X_30_X_isRegister rfl rfl rfl (by decide +kernel) ⟨Nat.le_of_ble_eq_true rfl, Nat.le_of_ble_eq_true rfl⟩) ⟨fun a U g mk q => by obtain ⟨q0, q1, qP, qK, qD⟩ := q; exact ⟨q0, q1, qP, va_K.moved (u := U) (U := U.calling g mk a) (Vm.Alike.refl U.vm) qK, qD⟩, fun U hU hW => ⟨rfl, by rw [hU], by rw [hU]; exact hPc, va_K.moved hW.alike hKc, hDc.weaken (fun _ _ _ _ => trivial)⟩⟩ rfl rfl hl.1 rfl (lv_room (Nat.le_of_ble_eq_true rfl)) d_X_scale_8 ⟨Nat.zero_le _, Nat.zero_le _⟩) hS (fun q _ h => hFc q h) hFc (fun r u t H1 locs ht hvm hw hB hz1 hk1 hS => ?_)
    obtain ⟨hP1, hK1, hD1⟩ := hB
    replace hw := hw.symm
    subst hw
    rw [ht] at hP1
    obtain ⟨hP, hD⟩ := va_join (wr := [cX h_X h_M h_P h_E1 h_E2 h_E3 X_lo X_ro X_rc, cL h_M k_M 8 M_f, cI h_P k_P 8 P_f, cE h_E1 E1_sg E1_hi E1_lo E1_pl E1_mo]) (w1 := []) hP hD [] [0, 1, 2, 3] rfl rfl (by decide) (by decide) hk1 hFc hP1 hD1
    generalize H1 = H at hP hS ⊢
    have hP := hP.sub (ws' := [cX h_X h_M h_P h_E1 h_E2 h_E3 X_lo X_ro X_rc, cL h_M k_M 8 M_f, cI h_P k_P 8 P_f, cE h_E1 E1_sg E1_hi E1_lo E1_pl E1_mo]) [0, 1, 2, 3] rfl
    have hD := hD.sub (ws' := [cX h_X h_M h_P h_E1 h_E2 h_E3 X_lo X_ro X_rc, cL h_M k_M 8 M_f, cI h_P k_P 8 P_f, cE h_E1 E1_sg E1_hi E1_lo E1_pl E1_mo]) [0, 1, 2, 3] (by decide) rfl
    refine lv_if_eq (tgt := 28) hx hb d_X_scale_11 (by decide) (fun c_11 => ?_) (fun c_11 => ?_)
    · replace hF := hif_t c_11 hF
      refine lv_iconst (v := (-1 : Int32)) hx hb d_X_scale_28 (by decide) ?_
      obtain rfl := Option.some.inj hF
      exact W.iret (v := (-1 : Int32)) hx hb hr (fun t ht hW => ⟨⟨(-1 : Int32), (), rfl, rfl, by rw [ht]; exact hP, va_K.moved hW.alike hK, hD⟩, hS.F ht⟩) hS.2.2 d_X_scale_29
    · replace hF := hif_f c_11 hF
      refine lv_iload_n hx hb d_X_scale_14 rfl (lv_at hl 3 rfl) ?_
      refine lv_sipush (v := (-500 : Int32)) hx hb d_X_scale_15 (by decide) ?_
      refine lv_icmp_lt (tgt := 28) hx hb d_X_scale_18 (by decide) (fun c_18 => ?_) (fun c_18 => ?_)
      · replace hF := hif_t c_18 hF
        refine lv_iconst (v := (-1 : Int32)) hx hb d_X_scale_28 (by decide) ?_
        obtain rfl := Option.some.inj hF
        exact W.iret (v := (-1 : Int32)) hx hb hr (fun t ht hW => ⟨⟨(-1 : Int32), (), rfl, rfl, by rw [ht]; exact hP, va_K.moved hW.alike hK, hD⟩, hS.F ht⟩) hS.2.2 d_X_scale_29
      · replace hF := hif_f c_18 hF
        refine lv_iload_n hx hb d_X_scale_21 rfl (lv_at hl 3 rfl) ?_
        refine lv_sipush (v := (500 : Int32)) hx hb d_X_scale_22 (by decide) ?_
        refine lv_icmp_le (tgt := 30) hx hb d_X_scale_25 (by decide) (fun c_25 => ?_) (fun c_25 => ?_)
        · replace hF := hif_t c_25 hF
          refine lv_aload_n hx hb d_X_scale_30 rfl (lv_at hl 0 rfl) ?_
          refine va_get (D := (dC, dI)) (ci := 1) (v := .ref h_E1) (C := "RoundedNumbers") (T := F_X) (N := 8) hx hb hts in_X hown hK hP 0 rfl rfl 5 (by decide) (hts _ tw_48) (fun _ h9 => h9) rfl d_X_scale_31 ?_
          refine lv_aload_n hx hb d_X_scale_34 rfl (lv_at hl 0 rfl) ?_
          refine va_get (D := (dC, dI)) (ci := 1) (v := .ref h_M) (C := "RoundedNumbers") (T := F_X) (N := 8) hx hb hts in_X hown hK hP 0 rfl rfl 0 (by decide) (hts _ tw_43) (fun _ h9 => h9) rfl d_X_scale_35 ?_
          refine lv_iload_n hx hb d_X_scale_38 rfl (lv_at hl 2 rfl) ?_
          have c_39 : ¬ (a2 < 0 ∨ 8 ≤ a2.toNatClampNeg) := hif_n hF
          replace hF := hif_f c_39 hF
          refine va_lald hx hb hK hP 1 0 rfl rfl c_39 d_X_scale_39 ?_
          refine lv_aload_n hx hb d_X_scale_40 rfl (lv_at hl 0 rfl) ?_
          refine va_get (D := (dC, dI)) (ci := 1) (v := .ref h_P) (C := "RoundedNumbers") (T := F_X) (N := 8) hx hb hts in_X hown hK hP 0 rfl rfl 1 (by decide) (hts _ tw_44) (fun _ h9 => h9) rfl d_X_scale_41 ?_
          refine lv_iload_n hx hb d_X_scale_44 rfl (lv_at hl 2 rfl) ?_
          have c_45 : ¬ (a2 < 0 ∨ 8 ≤ a2.toNatClampNeg) := hif_n hF
          replace hF := hif_f c_45 hF
          refine va_iald hx hb hK hP 2 1 rfl rfl c_45 d_X_scale_45 ?_
          refine lv_iload_n hx hb d_X_scale_46 rfl (lv_at hl 3 rfl) ?_
          refine lv_iadd hx hb d_X_scale_47 ?_
          obtain ⟨q_48, hC_48, hF⟩ := hbd hF
          have hPc := hP.sub (ws' := [cE h_E1 E1_sg E1_hi E1_lo E1_pl E1_mo]) [3] rfl
          have hDc := hD.sub (ws' := [cE h_E1 E1_sg E1_hi E1_lo E1_pl E1_mo]) [3] (by decide) rfl
          have hKc := hK.sub (tys' := []) [] rfl
          have hFc := va_free (wc := [cE h_E1 E1_sg E1_hi E1_lo E1_pl E1_mo]) hD hS hA [3] rfl
          refine va_callv (va_runV (As := [.long (M_f a2.toNatClampNeg), .int ((P_f a2.toNatClampNeg) + a3)]) (rest := []) ⟨hx, hb, hml, hown, hts⟩ (c_E_hold l dC dI h_E1 H.size E1_sg E1_hi E1_lo E1_pl E1_mo (M_f a2.toNatClampNeg) ((P_f a2.toNatClampNeg) + a3) q_48 hC_48) (cwV 2 hts g_X_54_E_hold rfl rfl rfl (by decide +kernel) ⟨Nat.le_of_ble_eq_true rfl, Nat.le_of_ble_eq_true rfl⟩) ⟨fun a U g mk q => by obtain ⟨q0, q1, qP, qK, qD⟩ := q; exact ⟨q0, q1, qP, va_K.moved (u := U) (U := U.calling g mk a) (Vm.Alike.refl U.vm) qK, qD⟩, va_recv hKc hPc (ci := 0) (q0 := 0) rfl rfl, fun U hU hW => ⟨rfl, by rw [hU], by rw [hU]; exact hPc, va_K.moved hW.alike hKc, hDc.weaken (fun _ _ _ _ => trivial)⟩⟩ rfl rfl hl.1 rfl (lv_room (Nat.le_of_ble_eq_true rfl)) d_X_scale_48 ⟨Nat.zero_le _, Nat.zero_le _⟩) hS (fun q _ h => hFc q h) hFc (fun u t H1 locs ht hvm hw hB hz1 hk1 hS => ?_)
          obtain ⟨hP1, hK1, hD1⟩ := hB
          rw [ht] at hP1
          obtain ⟨hP, hD⟩ := va_join (wr := [cX h_X h_M h_P h_E1 h_E2 h_E3 X_lo X_ro X_rc, cL h_M k_M 8 M_f, cI h_P k_P 8 P_f]) (w1 := [cE h_E1 q_48.1 q_48.2.1 q_48.2.2.1 q_48.2.2.2.1 q_48.2.2.2.2]) hP hD [3] [0, 1, 2] rfl rfl (by decide) (by decide) hk1 hFc hP1 hD1
          generalize H1 = H at hP hS ⊢
          have hP := hP.sub (ws' := [cX h_X h_M h_P h_E1 h_E2 h_E3 X_lo X_ro X_rc, cL h_M k_M 8 M_f, cI h_P k_P 8 P_f, cE h_E1 q_48.1 q_48.2.1 q_48.2.2.1 q_48.2.2.2.1 q_48.2.2.2.2]) [0, 1, 2, 3] rfl
          have hD := hD.sub (ws' := [cX h_X h_M h_P h_E1 h_E2 h_E3 X_lo X_ro X_rc, cL h_M k_M 8 M_f, cI h_P k_P 8 P_f, cE h_E1 q_48.1 q_48.2.1 q_48.2.2.1 q_48.2.2.2.1 q_48.2.2.2.2]) [0, 1, 2, 3] (by decide) rfl
          refine lv_aload_n hx hb d_X_scale_51 rfl (lv_at hl 0 rfl) ?_
          refine lv_iload_n hx hb d_X_scale_52 rfl (lv_at hl 1 rfl) ?_
          refine lv_aload_n hx hb d_X_scale_53 rfl (lv_at hl 0 rfl) ?_
          refine va_get (D := (dC, dI)) (ci := 1) (v := .ref h_E1) (C := "RoundedNumbers") (T := F_X) (N := 8) hx hb hts in_X hown hK hP 0 rfl rfl 5 (by decide) (hts _ tw_48) (fun _ h9 => h9) rfl d_X_scale_54 ?_
          refine lv_iconst (v := (0 : Int32)) hx hb d_X_scale_57 (by decide) ?_
          obtain ⟨q_58, hC_58, hF⟩ := hbd hF
          have hPc := hP.sub (ws' := [cX h_X h_M h_P h_E1 h_E2 h_E3 X_lo X_ro X_rc, cL h_M k_M 8 M_f, cI h_P k_P 8 P_f, cE h_E1 q_48.1 q_48.2.1 q_48.2.2.1 q_48.2.2.2.1 q_48.2.2.2.2]) [0, 1, 2, 3] rfl
          have hDc := hD.sub (ws' := [cX h_X h_M h_P h_E1 h_E2 h_E3 X_lo X_ro X_rc, cL h_M k_M 8 M_f, cI h_P k_P 8 P_f, cE h_E1 q_48.1 q_48.2.1 q_48.2.2.1 q_48.2.2.2.1 q_48.2.2.2.2]) [0, 1, 2, 3] (by decide) rfl
          have hKc := hK.sub (tys' := [(k_M, .long), (k_P, .int)]) [0, 1] rfl
          have hFc := va_free (wc := [cX h_X h_M h_P h_E1 h_E2 h_E3 X_lo X_ro X_rc, cL h_M k_M 8 M_f, cI h_P k_P 8 P_f, cE h_E1 q_48.1 q_48.2.1 q_48.2.2.1 q_48.2.2.2.1 q_48.2.2.2.2]) hD hS hA [0, 1, 2, 3] rfl
          refine va_calli (va_runV (As := [.int a1, .ref h_E1, .int (0 : Int32)]) (rest := []) ⟨hx, hb, hml, hown, hts⟩ (c_X_finish l dC dI h_X h_M h_P h_E1 h_E2 h_E3 h_E1 k_M k_P H.size X_lo X_ro X_rc M_f P_f q_48.1 q_48.2.1 q_48.2.2.1 q_48.2.2.2.1 q_48.2.2.2.2 a1 (0 : Int32) q_58 hC_58) (cwV 3 hts g_X_62_X_finish rfl rfl rfl (by decide +kernel) ⟨Nat.le_of_ble_eq_true rfl, Nat.le_of_ble_eq_true rfl⟩) ⟨fun a U g mk q => by obtain ⟨q0, q1, qP, qK, qD⟩ := q; exact ⟨q0, q1, qP, va_K.moved (u := U) (U := U.calling g mk a) (Vm.Alike.refl U.vm) qK, qD⟩, va_recv hKc hPc (ci := 1) (q0 := 0) rfl rfl, fun U hU hW => ⟨rfl, by rw [hU], by rw [hU]; exact hPc, va_K.moved hW.alike hKc, hDc.weaken (fun _ _ _ _ => trivial)⟩⟩ rfl rfl hl.1 rfl (lv_room (Nat.le_of_ble_eq_true rfl)) d_X_scale_58 ⟨Nat.zero_le _, Nat.zero_le _⟩) hS (fun q _ h => hFc q h) hFc (fun r u t H1 locs ht hvm hw hB hz1 hk1 hS => ?_)
          obtain ⟨hP1, hK1, hD1⟩ := hB
          replace hw := hw.symm
          subst hw
          rw [ht] at hP1
          obtain ⟨hP, hD⟩ := va_join (wr := []) (w1 := [cX h_X h_M h_P h_E1 h_E2 h_E3 q_58.2.1 q_58.2.2.1 q_58.2.2.2.1, cL h_M k_M 8 q_58.2.2.2.2.1, cI h_P k_P 8 q_58.2.2.2.2.2.1, cE h_E1 q_48.1 q_58.2.2.2.2.2.2.1 q_58.2.2.2.2.2.2.2.1 q_58.2.2.2.2.2.2.2.2.1 q_58.2.2.2.2.2.2.2.2.2]) hP hD [0, 1, 2, 3] [] rfl rfl (by decide) (by decide) hk1 hFc hP1 hD1
          generalize H1 = H at hP hS ⊢
          have hP := hP.sub (ws' := [cX h_X h_M h_P h_E1 h_E2 h_E3 q_58.2.1 q_58.2.2.1 q_58.2.2.2.1, cL h_M k_M 8 q_58.2.2.2.2.1, cI h_P k_P 8 q_58.2.2.2.2.2.1, cE h_E1 q_48.1 q_58.2.2.2.2.2.2.1 q_58.2.2.2.2.2.2.2.1 q_58.2.2.2.2.2.2.2.2.1 q_58.2.2.2.2.2.2.2.2.2]) [0, 1, 2, 3] rfl
          have hD := hD.sub (ws' := [cX h_X h_M h_P h_E1 h_E2 h_E3 q_58.2.1 q_58.2.2.1 q_58.2.2.2.1, cL h_M k_M 8 q_58.2.2.2.2.1, cI h_P k_P 8 q_58.2.2.2.2.2.1, cE h_E1 q_48.1 q_58.2.2.2.2.2.2.1 q_58.2.2.2.2.2.2.2.1 q_58.2.2.2.2.2.2.2.2.1 q_58.2.2.2.2.2.2.2.2.2]) [0, 1, 2, 3] (by decide) rfl
          obtain rfl := Option.some.inj hF
          exact W.iret (v := q_58.1) hx hb hr (fun t ht hW => ⟨⟨q_58.1, (), rfl, rfl, by rw [ht]; exact hP, va_K.moved hW.alike hK, hD⟩, hS.F ht⟩) hS.2.2 d_X_scale_61
        · replace hF := hif_f c_25 hF
          refine lv_iconst (v := (-1 : Int32)) hx hb d_X_scale_28 (by decide) ?_
          obtain rfl := Option.some.inj hF
          exact W.iret (v := (-1 : Int32)) hx hb hr (fun t ht hW => ⟨⟨(-1 : Int32), (), rfl, rfl, by rw [ht]; exact hP, va_K.moved hW.alike hK, hD⟩, hS.F ht⟩) hS.2.2 d_X_scale_29
set_option maxHeartbeats 4000000 in
set_option maxRecDepth 100000 in
theorem c_X_step (l : Launch) (dC : Nat → ClassId) (dI : Nat → Nat → Nat) (h_X : Nat) (h_M : Nat) (h_P : Nat) (h_E1 : Nat) (h_E2 : Nat) (h_E3 : Nat) (k_M : ClassId) (k_P : ClassId) (sz : Nat) (X_lo : Int32) (X_ro : Int32) (X_rc : Int32) (M_f : Nat → Int64) (P_f : Nat → Int32) (a1 : Int32) (a2 : Int32) (a3 : Int32) (a4 : Int32) (o : Int32 × Int32 × Int32 × Int32 × (Nat → Int64) × (Nat → Int32)) (hF : f_X_step X_lo X_ro X_rc M_f P_f a1 a2 a3 a4 = some o) : Met l y_X_step w_X_step ({ frames := 5, cells := 0, slots := 0, locals := 118 } : Room) (va_Pc [.ref h_X, .int a1, .int a2, .int a3, .int a4] (fun U => U.heap.size = sz ∧ va_P (dC, dI) classes [cX h_X h_M h_P h_E1 h_E2 h_E3 X_lo X_ro X_rc, cL h_M k_M 8 M_f, cI h_P k_P 8 P_f] U.heap ∧ va_K (dC, dI) classes [(k_M, .long), (k_P, .int)] U ∧ va_D (fun _ => True) [cX h_X h_M h_P h_E1 h_E2 h_E3 X_lo X_ro X_rc, cL h_M k_M 8 M_f, cI h_P k_P 8 P_f])) (va_Qi (fun (r : Int32) (_ : Unit) => r = o.1) (fun (_ : Unit) (t : State) => va_P (dC, dI) classes [cX h_X h_M h_P h_E1 h_E2 h_E3 o.2.1 o.2.2.1 o.2.2.2.1, cL h_M k_M 8 o.2.2.2.2.1, cI h_P k_P 8 o.2.2.2.2.2] t.heap ∧ va_K (dC, dI) classes [(k_M, .long), (k_P, .int)] t ∧ va_D (va_A [cX h_X h_M h_P h_E1 h_E2 h_E3 X_lo X_ro X_rc, cL h_M k_M 8 M_f, cI h_P k_P 8 P_f] sz) [cX h_X h_M h_P h_E1 h_E2 h_E3 o.2.1 o.2.2.1 o.2.2.2.1, cL h_M k_M 8 o.2.2.2.2.1, cI h_P k_P 8 o.2.2.2.2.2]) (va_A [cX h_X h_M h_P h_E1 h_E2 h_E3 X_lo X_ro X_rc, cL h_M k_M 8 M_f, cI h_P k_P 8 P_f] sz)) 0 0 (va_A [cX h_X h_M h_P h_E1 h_E2 h_E3 X_lo X_ro X_rc, cL h_M k_M 8 M_f, cI h_P k_P 8 P_f] sz) := by
  refine Met.ofW (cc := prog_1_method_13_code) (maxL := 12) (ret := (some .int)) (by decide) rfl ?_
  intro p e s m args below meth c s₁ B hml hv
  obtain ⟨rfl, hsz, hP, hK, hD0⟩ := hv
  have hx := B.exec
  have hb := B.bytes
  have hr := B.returns
  have hts0 := atoms_spec (ws := w_X_step) B.pre
  have hts : ∀ w ∈ tb, w.before _ s = true := fun w h => hts0 w (List.mem_cons_of_mem _ h)
  clear hts0
  have hown : s.vm.findClass "RoundedNumbers" = some m.cls := findClass_of_methodNamed B.named
  have hlocks := B.notSynchronized
  subst hsz
  have hD := hD0.self (sz := s.heap.size)
  generalize hAe : va_A [cX h_X h_M h_P h_E1 h_E2 h_E3 X_lo X_ro X_rc, cL h_M k_M 8 M_f, cI h_P k_P 8 P_f] s.heap.size = A at hD ⊢
  have hA : ∀ q : Nat, s.heap.size ≤ q → A q := fun q h => by rw [← hAe]; exact Or.inr h
  clear hAe
  have hS : va_S A s.heap s.heap [] := va_S.rf
  have hP : va_P (dC, dI) classes [cX h_X h_M h_P h_E1 h_E2 h_E3 X_lo X_ro X_rc, cL h_M k_M 8 M_f, cI h_P k_P 8 P_f] s.heap := hP
  have hl := lv_entry ([.ref h_X, .int a1, .int a2, .int a3, .int a4]) (n := 12) (Nat.le_of_ble_eq_true rfl)
  rw [lg_entry_eq]
  generalize (lg_sl ([.ref h_X, .int a1, .int a2, .int a3, .int a4]) ++ List.replicate (12 - (lg_sl ([.ref h_X, .int a1, .int a2, .int a3, .int a4])).length) Slot.unset).toArray = ls at hl ⊢
  have hl : lv_has ls 12 [(0, .ref h_X), (1, .int a1), (2, .int a2), (3, .int a3), (4, .int a4)] := hl
  have b_182 : ∀ (x1 : Int32) (x5 : Int64) (x9 : Int64) (x11 : Int32) (X_lo : Int32) (X_ro : Int32) (X_rc : Int32) (M_f : Nat → Int64) (P_f : Nat → Int32) (H : Heap) (locs : List Loc) (ls : Array Slot), va_P (dC, dI) classes [cX h_X h_M h_P h_E1 h_E2 h_E3 X_lo X_ro X_rc, cL h_M k_M 8 M_f, cI h_P k_P 8 P_f] H → va_D A [cX h_X h_M h_P h_E1 h_E2 h_E3 X_lo X_ro X_rc, cL h_M k_M 8 M_f, cI h_P k_P 8 P_f] → va_S A s.heap H locs → lv_has ls 12 [(0, .ref h_X), (1, .int x1), (5, .long x5), (9, .long x9), (11, .int x11)] → f_X_step_182  x1 x5 x9 x11 X_lo X_ro X_rc M_f P_f = some o → W p l e (headSpec w_X_step ({ frames := 5, cells := 0, slots := 0, locals := 118 } : Room)).room s m ([.ref h_X, .int a1, .int a2, .int a3, .int a4] : List Value).toArray below meth c H locs 0 0 (MQ below (va_Qi (fun (r : Int32) (_ : Unit) => r = o.1) (fun (_ : Unit) (t : State) => va_P (dC, dI) classes [cX h_X h_M h_P h_E1 h_E2 h_E3 o.2.1 o.2.2.1 o.2.2.2.1, cL h_M k_M 8 o.2.2.2.2.1, cI h_P k_P 8 o.2.2.2.2.2] t.heap ∧ va_K (dC, dI) classes [(k_M, .long), (k_P, .int)] t ∧ va_D A [cX h_X h_M h_P h_E1 h_E2 h_E3 o.2.1 o.2.2.1 o.2.2.2.1, cL h_M k_M 8 o.2.2.2.2.1, cI h_P k_P 8 o.2.2.2.2.2]) A) ([.ref h_X, .int a1, .int a2, .int a3, .int a4] : List Value).toArray s 0 0 A) (F0 m 182 ls []) := by
    intro x1 x5 x9 x11 X_lo X_ro X_rc M_f P_f H locs ls hP hD hS hl hF
    unfold f_X_step_182 at hF
    refine lv_aload_n hx hb d_X_step_182 rfl (lv_at hl 0 rfl) ?_
    refine lv_iload_n hx hb d_X_step_183 rfl (lv_at hl 1 rfl) ?_
    refine lv_lload hx hb d_X_step_184 (lv_at hl 2 rfl) ?_
    refine lv_lconst (v := (0 : Int64)) hx hb d_X_step_186 (by decide) ?_
    refine W.lcmp hx hb d_X_step_187 ?_
    refine lv_if_ge (tgt := 197) hx hb d_X_step_188 (by decide) (fun c_188 => ?_) (fun c_188 => ?_)
    · replace hF := hif_t c_188 hF
      refine lv_lload hx hb d_X_step_197 (lv_at hl 3 rfl) ?_
      refine lv_iload hx hb d_X_step_199 (lv_at hl 4 rfl) ?_
      refine lv_iconst (v := (0 : Int32)) hx hb d_X_step_201 (by decide) ?_
      obtain ⟨q_202, hC_202, hF⟩ := hbd hF
      have hPc := hP.sub (ws' := [cX h_X h_M h_P h_E1 h_E2 h_E3 X_lo X_ro X_rc, cL h_M k_M 8 M_f, cI h_P k_P 8 P_f]) [0, 1, 2] rfl
      have hDc := hD.sub (ws' := [cX h_X h_M h_P h_E1 h_E2 h_E3 X_lo X_ro X_rc, cL h_M k_M 8 M_f, cI h_P k_P 8 P_f]) [0, 1, 2] (by decide) rfl
      have hKc := hK.sub (tys' := [(k_M, .long), (k_P, .int)]) [0, 1] rfl
      have hFc := va_free (wc := [cX h_X h_M h_P h_E1 h_E2 h_E3 X_lo X_ro X_rc, cL h_M k_M 8 M_f, cI h_P k_P 8 P_f]) hD hS hA [0, 1, 2] rfl
      refine va_calli (va_runV (As := [.int x1, .long x9, .int x11, .int (0 : Int32)]) (rest := []) ⟨hx, hb, hml, hown, hts⟩ (c_X_put l dC dI h_X h_M h_P h_E1 h_E2 h_E3 k_M k_P H.size X_lo X_ro X_rc M_f P_f x1 x9 x11 (0 : Int32) q_202 hC_202) (cwV 4 hts g_X_96_X_put rfl rfl rfl (by decide +kernel) ⟨Nat.le_of_ble_eq_true rfl, Nat.le_of_ble_eq_true rfl⟩) ⟨fun a U g mk q => by obtain ⟨q0, q1, qP, qK, qD⟩ := q; exact ⟨q0, q1, qP, va_K.moved (u := U) (U := U.calling g mk a) (Vm.Alike.refl U.vm) qK, qD⟩, va_recv hKc hPc (ci := 1) (q0 := 0) rfl rfl, fun U hU hW => ⟨rfl, by rw [hU], by rw [hU]; exact hPc, va_K.moved hW.alike hKc, hDc.weaken (fun _ _ _ _ => trivial)⟩⟩ rfl rfl hl.1 rfl (lv_room (Nat.le_of_ble_eq_true rfl)) d_X_step_202 ⟨Nat.zero_le _, Nat.zero_le _⟩) hS (fun q _ h => hFc q h) hFc (fun r u t H1 locs ht hvm hw hB hz1 hk1 hS => ?_)
      obtain ⟨hP1, hK1, hD1⟩ := hB
      replace hw := hw.symm
      subst hw
      rw [ht] at hP1
      obtain ⟨hP, hD⟩ := va_join (wr := []) (w1 := [cX h_X h_M h_P h_E1 h_E2 h_E3 q_202.2.1 q_202.2.2.1 q_202.2.2.2.1, cL h_M k_M 8 q_202.2.2.2.2.1, cI h_P k_P 8 q_202.2.2.2.2.2]) hP hD [0, 1, 2] [] rfl rfl (by decide) (by decide) hk1 hFc hP1 hD1
      generalize H1 = H at hP hS ⊢
      have hP := hP.sub (ws' := [cX h_X h_M h_P h_E1 h_E2 h_E3 q_202.2.1 q_202.2.2.1 q_202.2.2.2.1, cL h_M k_M 8 q_202.2.2.2.2.1, cI h_P k_P 8 q_202.2.2.2.2.2]) [0, 1, 2] rfl
      have hD := hD.sub (ws' := [cX h_X h_M h_P h_E1 h_E2 h_E3 q_202.2.1 q_202.2.2.1 q_202.2.2.2.1, cL h_M k_M 8 q_202.2.2.2.2.1, cI h_P k_P 8 q_202.2.2.2.2.2]) [0, 1, 2] (by decide) rfl
      obtain rfl := Option.some.inj hF
      exact W.iret (v := q_202.1) hx hb hr (fun t ht hW => ⟨⟨q_202.1, (), rfl, rfl, by rw [ht]; exact hP, va_K.moved hW.alike hK, hD⟩, hS.F ht⟩) hS.2.2 d_X_step_205
    · replace hF := hif_f c_188 hF
      refine lv_lload hx hb d_X_step_191 (lv_at hl 3 rfl) ?_
      refine lv_lneg hx hb d_X_step_193 ?_
      refine lv_goto (tgt := 199) hx hb d_X_step_194 (by decide) ?_
      refine lv_iload hx hb d_X_step_199 (lv_at hl 4 rfl) ?_
      refine lv_iconst (v := (0 : Int32)) hx hb d_X_step_201 (by decide) ?_
      obtain ⟨q_202, hC_202, hF⟩ := hbd hF
      have hPc := hP.sub (ws' := [cX h_X h_M h_P h_E1 h_E2 h_E3 X_lo X_ro X_rc, cL h_M k_M 8 M_f, cI h_P k_P 8 P_f]) [0, 1, 2] rfl
      have hDc := hD.sub (ws' := [cX h_X h_M h_P h_E1 h_E2 h_E3 X_lo X_ro X_rc, cL h_M k_M 8 M_f, cI h_P k_P 8 P_f]) [0, 1, 2] (by decide) rfl
      have hKc := hK.sub (tys' := [(k_M, .long), (k_P, .int)]) [0, 1] rfl
      have hFc := va_free (wc := [cX h_X h_M h_P h_E1 h_E2 h_E3 X_lo X_ro X_rc, cL h_M k_M 8 M_f, cI h_P k_P 8 P_f]) hD hS hA [0, 1, 2] rfl
      refine va_calli (va_runV (As := [.int x1, .long (-x9), .int x11, .int (0 : Int32)]) (rest := []) ⟨hx, hb, hml, hown, hts⟩ (c_X_put l dC dI h_X h_M h_P h_E1 h_E2 h_E3 k_M k_P H.size X_lo X_ro X_rc M_f P_f x1 (-x9) x11 (0 : Int32) q_202 hC_202) (cwV 4 hts g_X_96_X_put rfl rfl rfl (by decide +kernel) ⟨Nat.le_of_ble_eq_true rfl, Nat.le_of_ble_eq_true rfl⟩) ⟨fun a U g mk q => by obtain ⟨q0, q1, qP, qK, qD⟩ := q; exact ⟨q0, q1, qP, va_K.moved (u := U) (U := U.calling g mk a) (Vm.Alike.refl U.vm) qK, qD⟩, va_recv hKc hPc (ci := 1) (q0 := 0) rfl rfl, fun U hU hW => ⟨rfl, by rw [hU], by rw [hU]; exact hPc, va_K.moved hW.alike hKc, hDc.weaken (fun _ _ _ _ => trivial)⟩⟩ rfl rfl hl.1 rfl (lv_room (Nat.le_of_ble_eq_true rfl)) d_X_step_202 ⟨Nat.zero_le _, Nat.zero_le _⟩) hS (fun q _ h => hFc q h) hFc (fun r u t H1 locs ht hvm hw hB hz1 hk1 hS => ?_)
      obtain ⟨hP1, hK1, hD1⟩ := hB
      replace hw := hw.symm
      subst hw
      rw [ht] at hP1
      obtain ⟨hP, hD⟩ := va_join (wr := []) (w1 := [cX h_X h_M h_P h_E1 h_E2 h_E3 q_202.2.1 q_202.2.2.1 q_202.2.2.2.1, cL h_M k_M 8 q_202.2.2.2.2.1, cI h_P k_P 8 q_202.2.2.2.2.2]) hP hD [0, 1, 2] [] rfl rfl (by decide) (by decide) hk1 hFc hP1 hD1
      generalize H1 = H at hP hS ⊢
      have hP := hP.sub (ws' := [cX h_X h_M h_P h_E1 h_E2 h_E3 q_202.2.1 q_202.2.2.1 q_202.2.2.2.1, cL h_M k_M 8 q_202.2.2.2.2.1, cI h_P k_P 8 q_202.2.2.2.2.2]) [0, 1, 2] rfl
      have hD := hD.sub (ws' := [cX h_X h_M h_P h_E1 h_E2 h_E3 q_202.2.1 q_202.2.2.1 q_202.2.2.2.1, cL h_M k_M 8 q_202.2.2.2.2.1, cI h_P k_P 8 q_202.2.2.2.2.2]) [0, 1, 2] (by decide) rfl
      obtain rfl := Option.some.inj hF
      exact W.iret (v := q_202.1) hx hb hr (fun t ht hW => ⟨⟨q_202.1, (), rfl, rfl, by rw [ht]; exact hP, va_K.moved hW.alike hK, hD⟩, hS.F ht⟩) hS.2.2 d_X_step_205
  have b_135 : ∀ (x1 : Int32) (x2 : Int32) (x5 : Int64) (x9 : Int64) (x11 : Int32) (X_lo : Int32) (X_ro : Int32) (X_rc : Int32) (M_f : Nat → Int64) (P_f : Nat → Int32) (H : Heap) (locs : List Loc) (ls : Array Slot), va_P (dC, dI) classes [cX h_X h_M h_P h_E1 h_E2 h_E3 X_lo X_ro X_rc, cL h_M k_M 8 M_f, cI h_P k_P 8 P_f] H → va_D A [cX h_X h_M h_P h_E1 h_E2 h_E3 X_lo X_ro X_rc, cL h_M k_M 8 M_f, cI h_P k_P 8 P_f] → va_S A s.heap H locs → lv_has ls 12 [(0, .ref h_X), (1, .int x1), (2, .int x2), (5, .long x5), (9, .long x9), (11, .int x11)] → f_X_step_135  x1 x2 x5 x9 x11 X_lo X_ro X_rc M_f P_f = some o → W p l e (headSpec w_X_step ({ frames := 5, cells := 0, slots := 0, locals := 118 } : Room)).room s m ([.ref h_X, .int a1, .int a2, .int a3, .int a4] : List Value).toArray below meth c H locs 0 0 (MQ below (va_Qi (fun (r : Int32) (_ : Unit) => r = o.1) (fun (_ : Unit) (t : State) => va_P (dC, dI) classes [cX h_X h_M h_P h_E1 h_E2 h_E3 o.2.1 o.2.2.1 o.2.2.2.1, cL h_M k_M 8 o.2.2.2.2.1, cI h_P k_P 8 o.2.2.2.2.2] t.heap ∧ va_K (dC, dI) classes [(k_M, .long), (k_P, .int)] t ∧ va_D A [cX h_X h_M h_P h_E1 h_E2 h_E3 o.2.1 o.2.2.1 o.2.2.2.1, cL h_M k_M 8 o.2.2.2.2.1, cI h_P k_P 8 o.2.2.2.2.2]) A) ([.ref h_X, .int a1, .int a2, .int a3, .int a4] : List Value).toArray s 0 0 A) (F0 m 135 ls []) := by
    intro x1 x2 x5 x9 x11 X_lo X_ro X_rc M_f P_f H locs ls hP hD hS hl hF
    unfold f_X_step_135 at hF
    refine lv_lload hx hb d_X_step_135 (lv_at hl 4 rfl) ?_
    obtain ⟨q_137, hC_137, hF⟩ := hbd hF
    have hPc := hP.sub (ws' := []) [] rfl
    have hDc := hD.sub (ws' := []) [] (by decide) rfl
    have hKc := hK.sub (tys' := []) [] rfl
    have hFc := va_free (wc := []) hD hS hA [] rfl
    refine va_calli (va_runS (As := [.long x9]) (rest := []) ⟨hx, hb, hml, hown, hts⟩ (c_J_bitCount l dC dI H.size x9 q_137 hC_137) (va_cwS 1 hts g_X_103_JL_bitCount rfl rfl rfl (by decide +kernel) ⟨Nat.le_of_ble_eq_true rfl, Nat.le_of_ble_eq_true rfl⟩) ⟨fun a U g mk q => by obtain ⟨q0, q1, qP, qK, qD⟩ := q; exact ⟨q0, q1, qP, va_K.moved (u := U) (U := U.calling g mk a) (Vm.Alike.refl U.vm) qK, qD⟩, fun U hU hW => ⟨rfl, by rw [hU], by rw [hU]; exact hPc, va_K.moved hW.alike hKc, hDc.weaken (fun _ _ _ _ => trivial)⟩⟩ rfl rfl hl.1 rfl (lv_room (Nat.le_of_ble_eq_true rfl)) d_X_step_137 ⟨Nat.zero_le _, Nat.zero_le _⟩) hS (fun q _ h => hFc q h) hFc (fun r u t H1 locs ht hvm hw hB hz1 hk1 hS => ?_)
    obtain ⟨hP1, hK1, hD1⟩ := hB
    replace hw := hw.symm
    subst hw
    rw [ht] at hP1
    obtain ⟨hP, hD⟩ := va_join (wr := [cX h_X h_M h_P h_E1 h_E2 h_E3 X_lo X_ro X_rc, cL h_M k_M 8 M_f, cI h_P k_P 8 P_f]) (w1 := []) hP hD [] [0, 1, 2] rfl rfl (by decide) (by decide) hk1 hFc hP1 hD1
    generalize H1 = H at hP hS ⊢
    have hP := hP.sub (ws' := [cX h_X h_M h_P h_E1 h_E2 h_E3 X_lo X_ro X_rc, cL h_M k_M 8 M_f, cI h_P k_P 8 P_f]) [0, 1, 2] rfl
    have hD := hD.sub (ws' := [cX h_X h_M h_P h_E1 h_E2 h_E3 X_lo X_ro X_rc, cL h_M k_M 8 M_f, cI h_P k_P 8 P_f]) [0, 1, 2] (by decide) rfl
    refine lv_iconst (v := (1 : Int32)) hx hb d_X_step_140 (by decide) ?_
    refine lv_icmp_le (tgt := 153) hx hb d_X_step_141 (by decide) (fun c_141 => ?_) (fun c_141 => ?_)
    · replace hF := hif_t c_141 hF
      refine lv_aload_n hx hb d_X_step_153 rfl (lv_at hl 0 rfl) ?_
      refine lv_iload_n hx hb d_X_step_154 rfl (lv_at hl 2 rfl) ?_
      obtain ⟨q_155, hC_155, hF⟩ := hbd hF
      have hPc := hP.sub (ws' := [cX h_X h_M h_P h_E1 h_E2 h_E3 X_lo X_ro X_rc, cI h_P k_P 8 P_f]) [0, 2] rfl
      have hDc := hD.sub (ws' := [cX h_X h_M h_P h_E1 h_E2 h_E3 X_lo X_ro X_rc, cI h_P k_P 8 P_f]) [0, 2] (by decide) rfl
      have hKc := hK.sub (tys' := [(k_P, .int)]) [1] rfl
      have hFc := va_free (wc := [cX h_X h_M h_P h_E1 h_E2 h_E3 X_lo X_ro X_rc, cI h_P k_P 8 P_f]) hD hS hA [0, 2] rfl
      refine va_calli (va_runV (As := [.int x2]) (rest := []) ⟨hx, hb, hml, hown, hts⟩ (c_X_topOf l dC dI h_X h_M h_P h_E1 h_E2 h_E3 k_P H.size X_lo X_ro X_rc P_f x2 q_155 hC_155) (cwV 1 hts g_X_109_X_topOf rfl rfl rfl (by decide +kernel) ⟨Nat.le_of_ble_eq_true rfl, Nat.le_of_ble_eq_true rfl⟩) ⟨fun a U g mk q => by obtain ⟨q0, q1, qP, qK, qD⟩ := q; exact ⟨q0, q1, qP, va_K.moved (u := U) (U := U.calling g mk a) (Vm.Alike.refl U.vm) qK, qD⟩, va_recv hKc hPc (ci := 1) (q0 := 0) rfl rfl, fun U hU hW => ⟨rfl, by rw [hU], by rw [hU]; exact hPc, va_K.moved hW.alike hKc, hDc.weaken (fun _ _ _ _ => trivial)⟩⟩ rfl rfl hl.1 rfl (lv_room (Nat.le_of_ble_eq_true rfl)) d_X_step_155 ⟨Nat.zero_le _, Nat.zero_le _⟩) hS (fun q _ h => hFc q h) hFc (fun r u t H1 locs ht hvm hw hB hz1 hk1 hS => ?_)
      obtain ⟨hP1, hK1, hD1⟩ := hB
      replace hw := hw.symm
      subst hw
      rw [ht] at hP1
      obtain ⟨hP, hD⟩ := va_join (wr := [cL h_M k_M 8 M_f]) (w1 := [cX h_X h_M h_P h_E1 h_E2 h_E3 X_lo X_ro X_rc, cI h_P k_P 8 P_f]) hP hD [0, 2] [1] rfl rfl (by decide) (by decide) hk1 hFc hP1 hD1
      generalize H1 = H at hP hS ⊢
      have hP := hP.sub (ws' := [cX h_X h_M h_P h_E1 h_E2 h_E3 X_lo X_ro X_rc, cL h_M k_M 8 M_f, cI h_P k_P 8 P_f]) [1, 0, 2] rfl
      have hD := hD.sub (ws' := [cX h_X h_M h_P h_E1 h_E2 h_E3 X_lo X_ro X_rc, cL h_M k_M 8 M_f, cI h_P k_P 8 P_f]) [1, 0, 2] (by decide) rfl
      refine lv_bipush (v := (-100 : Int32)) hx hb d_X_step_158 (by decide) ?_
      refine lv_icmp_ne (tgt := 169) hx hb d_X_step_160 (by decide) (fun c_160 => ?_) (fun c_160 => ?_)
      · replace hF := hif_f c_160 hF
        refine lv_ldc2 (v := (2 : Int64)) hx hb hown (hts _ tw_249) d_X_step_169 ?_
        refine lv_lload hx hb d_X_step_172 (lv_at hl 4 rfl) ?_
        refine lv_lmul hx hb d_X_step_174 ?_
        refine lv_lconst (v := (1 : Int64)) hx hb d_X_step_175 (by decide) ?_
        refine lv_lsub hx hb d_X_step_176 ?_
        refine lv_lstore (lv' := [(9, .long (((2 : Int64) * x9) - (1 : Int64))), (0, .ref h_X), (1, .int x1), (2, .int x2), (5, .long x5), (11, .int x11)]) hx hb d_X_step_177 hl (by decide) rfl (fun ls hl => ?_)
        refine lv_iinc (v := (x11 + (-1 : Int32))) (lv' := [(11, .int (x11 + (-1 : Int32))), (9, .long (((2 : Int64) * x9) - (1 : Int64))), (0, .ref h_X), (1, .int x1), (2, .int x2), (5, .long x5)]) hx hb d_X_step_179 hl (k := 5) rfl rfl (by decide) rfl (fun ls hl => ?_)
        exact b_182 x1 x5 (((2 : Int64) * x9) - (1 : Int64)) (x11 + (-1 : Int32)) X_lo X_ro X_rc M_f P_f _ _ _ hP hD hS (lv_sub hl [2, 3, 5, 1, 0] rfl) hF
      · replace hF := hif_t c_160 hF
        refine lv_lconst (v := (0 : Int64)) hx hb d_X_step_163 (by decide) ?_
        refine lv_lstore (lv' := [(9, .long (0 : Int64)), (0, .ref h_X), (1, .int x1), (2, .int x2), (5, .long x5), (11, .int x11)]) hx hb d_X_step_164 hl (by decide) rfl (fun ls hl => ?_)
        refine lv_goto (tgt := 182) hx hb d_X_step_166 (by decide) ?_
        exact b_182 x1 x5 (0 : Int64) x11 X_lo X_ro X_rc M_f P_f _ _ _ hP hD hS (lv_sub hl [1, 2, 4, 0, 5] rfl) hF
    · replace hF := hif_f c_141 hF
      refine lv_lload hx hb d_X_step_144 (lv_at hl 4 rfl) ?_
      refine lv_lconst (v := (1 : Int64)) hx hb d_X_step_146 (by decide) ?_
      refine lv_lsub hx hb d_X_step_147 ?_
      refine lv_lstore (lv' := [(9, .long (x9 - (1 : Int64))), (0, .ref h_X), (1, .int x1), (2, .int x2), (5, .long x5), (11, .int x11)]) hx hb d_X_step_148 hl (by decide) rfl (fun ls hl => ?_)
      refine lv_goto (tgt := 182) hx hb d_X_step_150 (by decide) ?_
      exact b_182 x1 x5 (x9 - (1 : Int64)) x11 X_lo X_ro X_rc M_f P_f _ _ _ hP hD hS (lv_sub hl [1, 2, 4, 0, 5] rfl) hF
  have b_85 : ∀ (x1 : Int32) (x2 : Int32) (x4 : Int32) (x5 : Int64) (x7 : Int32) (y0 : Int32) (X_lo : Int32) (X_ro : Int32) (X_rc : Int32) (M_f : Nat → Int64) (P_f : Nat → Int32) (H : Heap) (locs : List Loc) (ls : Array Slot), va_P (dC, dI) classes [cX h_X h_M h_P h_E1 h_E2 h_E3 X_lo X_ro X_rc, cL h_M k_M 8 M_f, cI h_P k_P 8 P_f] H → va_D A [cX h_X h_M h_P h_E1 h_E2 h_E3 X_lo X_ro X_rc, cL h_M k_M 8 M_f, cI h_P k_P 8 P_f] → va_S A s.heap H locs → lv_has ls 12 [(0, .ref h_X), (1, .int x1), (2, .int x2), (4, .int x4), (5, .long x5), (7, .int x7)] → f_X_step_85  x1 x2 x4 x5 x7 y0 X_lo X_ro X_rc M_f P_f = some o → W p l e (headSpec w_X_step ({ frames := 5, cells := 0, slots := 0, locals := 118 } : Room)).room s m ([.ref h_X, .int a1, .int a2, .int a3, .int a4] : List Value).toArray below meth c H locs 0 0 (MQ below (va_Qi (fun (r : Int32) (_ : Unit) => r = o.1) (fun (_ : Unit) (t : State) => va_P (dC, dI) classes [cX h_X h_M h_P h_E1 h_E2 h_E3 o.2.1 o.2.2.1 o.2.2.2.1, cL h_M k_M 8 o.2.2.2.2.1, cI h_P k_P 8 o.2.2.2.2.2] t.heap ∧ va_K (dC, dI) classes [(k_M, .long), (k_P, .int)] t ∧ va_D A [cX h_X h_M h_P h_E1 h_E2 h_E3 o.2.1 o.2.2.1 o.2.2.2.1, cL h_M k_M 8 o.2.2.2.2.1, cI h_P k_P 8 o.2.2.2.2.2]) A) ([.ref h_X, .int a1, .int a2, .int a3, .int a4] : List Value).toArray s 0 0 A) (F0 m 85 ls [.int y0]) := by
    intro x1 x2 x4 x5 x7 y0 X_lo X_ro X_rc M_f P_f H locs ls hP hD hS hl hF
    unfold f_X_step_85 at hF
    refine lv_istore (lv' := [(8, .int y0), (0, .ref h_X), (1, .int x1), (2, .int x2), (4, .int x4), (5, .long x5), (7, .int x7)]) hx hb d_X_step_85 hl (by decide) rfl (fun ls hl => ?_)
    refine lv_lload hx hb d_X_step_87 (lv_at hl 5 rfl) ?_
    refine va_mabs_long hx hb (hml.trans hl.1.symm) hown (hts _ tw_80) (hts _ tw_81) (hts _ tw_4) (hts _ tw_82) (Nat.le_of_ble_eq_true rfl) (Nat.le_of_ble_eq_true rfl) (Nat.zero_le _) (Nat.zero_le _) d_X_step_89 ?_
    refine W.eq (g2 := F0 m 92 ls [.long (jabs x5)]) rfl ?_
    refine lv_iload hx hb d_X_step_92 (lv_at hl 0 rfl) ?_
    refine lv_lshr (v := (jshr (jabs x5) y0)) hx hb d_X_step_94 rfl ?_
    refine lv_lstore (lv' := [(9, .long (jshr (jabs x5) y0)), (8, .int y0), (0, .ref h_X), (1, .int x1), (2, .int x2), (4, .int x4), (5, .long x5), (7, .int x7)]) hx hb d_X_step_95 hl (by decide) rfl (fun ls hl => ?_)
    refine lv_aload_n hx hb d_X_step_97 rfl (lv_at hl 2 rfl) ?_
    refine va_get (D := (dC, dI)) (ci := 1) (v := .ref h_P) (C := "RoundedNumbers") (T := F_X) (N := 8) hx hb hts in_X hown hK hP 0 rfl rfl 1 (by decide) (hts _ tw_44) (fun _ h9 => h9) rfl d_X_step_98 ?_
    refine lv_iload_n hx hb d_X_step_101 rfl (lv_at hl 4 rfl) ?_
    have c_102 : ¬ (x2 < 0 ∨ 8 ≤ x2.toNatClampNeg) := hif_n hF
    replace hF := hif_f c_102 hF
    refine va_iald hx hb hK hP 2 1 rfl rfl c_102 d_X_step_102 ?_
    refine lv_iload hx hb d_X_step_103 (lv_at hl 1 rfl) ?_
    refine lv_iadd hx hb d_X_step_105 ?_
    refine lv_istore (lv' := [(11, .int ((P_f x2.toNatClampNeg) + y0)), (9, .long (jshr (jabs x5) y0)), (8, .int y0), (0, .ref h_X), (1, .int x1), (2, .int x2), (4, .int x4), (5, .long x5), (7, .int x7)]) hx hb d_X_step_106 hl (by decide) rfl (fun ls hl => ?_)
    refine lv_iload hx hb d_X_step_108 (lv_at hl 8 rfl) ?_
    refine lv_if_eq (tgt := 122) hx hb d_X_step_110 (by decide) (fun c_110 => ?_) (fun c_110 => ?_)
    · replace hF := hif_t c_110 hF
      refine lv_iload hx hb d_X_step_122 (lv_at hl 6 rfl) ?_
      refine lv_if_eq (tgt := 135) hx hb d_X_step_124 (by decide) (fun c_124 => ?_) (fun c_124 => ?_)
      · replace hF := hif_t c_124 hF
        exact b_135 x1 x2 x5 (jshr (jabs x5) y0) ((P_f x2.toNatClampNeg) + y0) X_lo X_ro X_rc M_f P_f _ _ _ hP hD hS (lv_sub hl [3, 4, 5, 7, 1, 0] rfl) hF
      · replace hF := hif_f c_124 hF
        refine lv_aload_n hx hb d_X_step_127 rfl (lv_at hl 3 rfl) ?_
        refine lv_iload_n hx hb d_X_step_128 rfl (lv_at hl 5 rfl) ?_
        obtain ⟨q_129, hC_129, hF⟩ := hbd hF
        have hPc := hP.sub (ws' := [cX h_X h_M h_P h_E1 h_E2 h_E3 X_lo X_ro X_rc, cL h_M k_M 8 M_f]) [0, 1] rfl
        have hDc := hD.sub (ws' := [cX h_X h_M h_P h_E1 h_E2 h_E3 X_lo X_ro X_rc, cL h_M k_M 8 M_f]) [0, 1] (by decide) rfl
        have hKc := hK.sub (tys' := [(k_M, .long)]) [0] rfl
        have hFc := va_free (wc := [cX h_X h_M h_P h_E1 h_E2 h_E3 X_lo X_ro X_rc, cL h_M k_M 8 M_f]) hD hS hA [0, 1] rfl
        refine va_calli (va_runV (As := [.int x2]) (rest := []) ⟨hx, hb, hml, hown, hts⟩ (c_X_isNarrow l dC dI h_X h_M h_P h_E1 h_E2 h_E3 k_M H.size X_lo X_ro X_rc M_f x2 q_129 hC_129) (cwV 1 hts g_X_100_X_isNarrow rfl rfl rfl (by decide +kernel) ⟨Nat.le_of_ble_eq_true rfl, Nat.le_of_ble_eq_true rfl⟩) ⟨fun a U g mk q => by obtain ⟨q0, q1, qP, qK, qD⟩ := q; exact ⟨q0, q1, qP, va_K.moved (u := U) (U := U.calling g mk a) (Vm.Alike.refl U.vm) qK, qD⟩, va_recv hKc hPc (ci := 1) (q0 := 0) rfl rfl, fun U hU hW => ⟨rfl, by rw [hU], by rw [hU]; exact hPc, va_K.moved hW.alike hKc, hDc.weaken (fun _ _ _ _ => trivial)⟩⟩ rfl rfl hl.1 rfl (lv_room (Nat.le_of_ble_eq_true rfl)) d_X_step_129 ⟨Nat.zero_le _, Nat.zero_le _⟩) hS (fun q _ h => hFc q h) hFc (fun r u t H1 locs ht hvm hw hB hz1 hk1 hS => ?_)
        obtain ⟨hP1, hK1, hD1⟩ := hB
        replace hw := hw.symm
        subst hw
        rw [ht] at hP1
        obtain ⟨hP, hD⟩ := va_join (wr := [cI h_P k_P 8 P_f]) (w1 := [cX h_X h_M h_P h_E1 h_E2 h_E3 X_lo X_ro X_rc, cL h_M k_M 8 M_f]) hP hD [0, 1] [2] rfl rfl (by decide) (by decide) hk1 hFc hP1 hD1
        generalize H1 = H at hP hS ⊢
        have hP := hP.sub (ws' := [cX h_X h_M h_P h_E1 h_E2 h_E3 X_lo X_ro X_rc, cL h_M k_M 8 M_f, cI h_P k_P 8 P_f]) [1, 2, 0] rfl
        have hD := hD.sub (ws' := [cX h_X h_M h_P h_E1 h_E2 h_E3 X_lo X_ro X_rc, cL h_M k_M 8 M_f, cI h_P k_P 8 P_f]) [1, 2, 0] (by decide) rfl
        refine lv_if_eq (tgt := 182) hx hb d_X_step_132 (by decide) (fun c_132 => ?_) (fun c_132 => ?_)
        · replace hF := hif_t c_132 hF
          exact b_182 x1 x5 (jshr (jabs x5) y0) ((P_f x2.toNatClampNeg) + y0) X_lo X_ro X_rc M_f P_f _ _ _ hP hD hS (lv_sub hl [3, 4, 7, 1, 0] rfl) hF
        · replace hF := hif_f c_132 hF
          exact b_135 x1 x2 x5 (jshr (jabs x5) y0) ((P_f x2.toNatClampNeg) + y0) X_lo X_ro X_rc M_f P_f _ _ _ hP hD hS (lv_sub hl [3, 4, 5, 7, 1, 0] rfl) hF
    · replace hF := hif_f c_110 hF
      refine lv_lload hx hb d_X_step_113 (lv_at hl 1 rfl) ?_
      refine lv_lconst (v := (1 : Int64)) hx hb d_X_step_115 (by decide) ?_
      refine lv_ladd hx hb d_X_step_116 ?_
      refine lv_lstore (lv' := [(9, .long ((jshr (jabs x5) y0) + (1 : Int64))), (11, .int ((P_f x2.toNatClampNeg) + y0)), (8, .int y0), (0, .ref h_X), (1, .int x1), (2, .int x2), (4, .int x4), (5, .long x5), (7, .int x7)]) hx hb d_X_step_117 hl (by decide) rfl (fun ls hl => ?_)
      refine lv_goto (tgt := 182) hx hb d_X_step_119 (by decide) ?_
      exact b_182 x1 x5 ((jshr (jabs x5) y0) + (1 : Int64)) ((P_f x2.toNatClampNeg) + y0) X_lo X_ro X_rc M_f P_f _ _ _ hP hD hS (lv_sub hl [3, 4, 7, 0, 1] rfl) hF
  have b_72 : ∀ (x1 : Int32) (x2 : Int32) (x4 : Int32) (x5 : Int64) (y0 : Int32) (X_lo : Int32) (X_ro : Int32) (X_rc : Int32) (M_f : Nat → Int64) (P_f : Nat → Int32) (H : Heap) (locs : List Loc) (ls : Array Slot), va_P (dC, dI) classes [cX h_X h_M h_P h_E1 h_E2 h_E3 X_lo X_ro X_rc, cL h_M k_M 8 M_f, cI h_P k_P 8 P_f] H → va_D A [cX h_X h_M h_P h_E1 h_E2 h_E3 X_lo X_ro X_rc, cL h_M k_M 8 M_f, cI h_P k_P 8 P_f] → va_S A s.heap H locs → lv_has ls 12 [(0, .ref h_X), (1, .int x1), (2, .int x2), (4, .int x4), (5, .long x5)] → f_X_step_72  x1 x2 x4 x5 y0 X_lo X_ro X_rc M_f P_f = some o → W p l e (headSpec w_X_step ({ frames := 5, cells := 0, slots := 0, locals := 118 } : Room)).room s m ([.ref h_X, .int a1, .int a2, .int a3, .int a4] : List Value).toArray below meth c H locs 0 0 (MQ below (va_Qi (fun (r : Int32) (_ : Unit) => r = o.1) (fun (_ : Unit) (t : State) => va_P (dC, dI) classes [cX h_X h_M h_P h_E1 h_E2 h_E3 o.2.1 o.2.2.1 o.2.2.2.1, cL h_M k_M 8 o.2.2.2.2.1, cI h_P k_P 8 o.2.2.2.2.2] t.heap ∧ va_K (dC, dI) classes [(k_M, .long), (k_P, .int)] t ∧ va_D A [cX h_X h_M h_P h_E1 h_E2 h_E3 o.2.1 o.2.2.1 o.2.2.2.1, cL h_M k_M 8 o.2.2.2.2.1, cI h_P k_P 8 o.2.2.2.2.2]) A) ([.ref h_X, .int a1, .int a2, .int a3, .int a4] : List Value).toArray s 0 0 A) (F0 m 72 ls [.int y0]) := by
    intro x1 x2 x4 x5 y0 X_lo X_ro X_rc M_f P_f H locs ls hP hD hS hl hF
    unfold f_X_step_72 at hF
    refine lv_istore (lv' := [(7, .int y0), (0, .ref h_X), (1, .int x1), (2, .int x2), (4, .int x4), (5, .long x5)]) hx hb d_X_step_72 hl (by decide) rfl (fun ls hl => ?_)
    refine lv_iload hx hb d_X_step_74 (lv_at hl 4 rfl) ?_
    refine lv_if_eq (tgt := 84) hx hb d_X_step_76 (by decide) (fun c_76 => ?_) (fun c_76 => ?_)
    · replace hF := hif_t c_76 hF
      refine lv_iconst (v := (0 : Int32)) hx hb d_X_step_84 (by decide) ?_
      exact b_85 x1 x2 x4 x5 y0 (0 : Int32) X_lo X_ro X_rc M_f P_f _ _ _ hP hD hS (lv_sub hl [1, 2, 3, 4, 5, 0] rfl) hF
    · replace hF := hif_f c_76 hF
      refine lv_bipush (v := (29 : Int32)) hx hb d_X_step_79 (by decide) ?_
      refine lv_goto (tgt := 85) hx hb d_X_step_81 (by decide) ?_
      exact b_85 x1 x2 x4 x5 y0 (29 : Int32) X_lo X_ro X_rc M_f P_f _ _ _ hP hD hS (lv_sub hl [1, 2, 3, 4, 5, 0] rfl) hF
  have b_64 : ∀ (x1 : Int32) (x2 : Int32) (x4 : Int32) (x5 : Int64) (y0 : Int32) (y1 : Int32) (X_lo : Int32) (X_ro : Int32) (X_rc : Int32) (M_f : Nat → Int64) (P_f : Nat → Int32) (H : Heap) (locs : List Loc) (ls : Array Slot), va_P (dC, dI) classes [cX h_X h_M h_P h_E1 h_E2 h_E3 X_lo X_ro X_rc, cL h_M k_M 8 M_f, cI h_P k_P 8 P_f] H → va_D A [cX h_X h_M h_P h_E1 h_E2 h_E3 X_lo X_ro X_rc, cL h_M k_M 8 M_f, cI h_P k_P 8 P_f] → va_S A s.heap H locs → lv_has ls 12 [(0, .ref h_X), (1, .int x1), (2, .int x2), (4, .int x4), (5, .long x5)] → f_X_step_64  x1 x2 x4 x5 y0 y1 X_lo X_ro X_rc M_f P_f = some o → W p l e (headSpec w_X_step ({ frames := 5, cells := 0, slots := 0, locals := 118 } : Room)).room s m ([.ref h_X, .int a1, .int a2, .int a3, .int a4] : List Value).toArray below meth c H locs 0 0 (MQ below (va_Qi (fun (r : Int32) (_ : Unit) => r = o.1) (fun (_ : Unit) (t : State) => va_P (dC, dI) classes [cX h_X h_M h_P h_E1 h_E2 h_E3 o.2.1 o.2.2.1 o.2.2.2.1, cL h_M k_M 8 o.2.2.2.2.1, cI h_P k_P 8 o.2.2.2.2.2] t.heap ∧ va_K (dC, dI) classes [(k_M, .long), (k_P, .int)] t ∧ va_D A [cX h_X h_M h_P h_E1 h_E2 h_E3 o.2.1 o.2.2.1 o.2.2.2.1, cL h_M k_M 8 o.2.2.2.2.1, cI h_P k_P 8 o.2.2.2.2.2]) A) ([.ref h_X, .int a1, .int a2, .int a3, .int a4] : List Value).toArray s 0 0 A) (F0 m 64 ls [.int y0, .int y1]) := by
    intro x1 x2 x4 x5 y0 y1 X_lo X_ro X_rc M_f P_f H locs ls hP hD hS hl hF
    unfold f_X_step_64 at hF
    refine lv_icmp_ne (tgt := 71) hx hb d_X_step_64 (by decide) (fun c_64 => ?_) (fun c_64 => ?_)
    · replace hF := hif_f c_64 hF
      refine lv_iconst (v := (0 : Int32)) hx hb d_X_step_71 (by decide) ?_
      exact b_72 x1 x2 x4 x5 (0 : Int32) X_lo X_ro X_rc M_f P_f _ _ _ hP hD hS (lv_sub hl [0, 1, 2, 3, 4] rfl) hF
    · replace hF := hif_t c_64 hF
      refine lv_iconst (v := (1 : Int32)) hx hb d_X_step_67 (by decide) ?_
      refine lv_goto (tgt := 72) hx hb d_X_step_68 (by decide) ?_
      exact b_72 x1 x2 x4 x5 (1 : Int32) X_lo X_ro X_rc M_f P_f _ _ _ hP hD hS (lv_sub hl [0, 1, 2, 3, 4] rfl) hF
  unfold f_X_step at hF
  refine lv_iload_n hx hb d_X_step_0 rfl (lv_at hl 1 rfl) ?_
  obtain ⟨q_1, hC_1, hF⟩ := hbd hF
  have hPc := hP.sub (ws' := []) [] rfl
  have hDc := hD.sub (ws' := []) [] (by decide) rfl
  have hKc := hK.sub (tys' := []) [] rfl
  have hFc := va_free (wc := []) hD hS hA [] rfl
  refine va_calli (va_runS (As := [.int a1]) (rest := []) ⟨hx, hb, hml, hown, hts⟩ (c_X_isRegister l dC dI s.heap.size a1 q_1 hC_1) (cwS 1 hts g_X_30_X_isRegister rfl rfl rfl (by decide +kernel) ⟨Nat.le_of_ble_eq_true rfl, Nat.le_of_ble_eq_true rfl⟩) ⟨fun a U g mk q => by obtain ⟨q0, q1, qP, qK, qD⟩ := q; exact ⟨q0, q1, qP, va_K.moved (u := U) (U := U.calling g mk a) (Vm.Alike.refl U.vm) qK, qD⟩, fun U hU hW => ⟨rfl, by rw [hU], by rw [hU]; exact hPc, va_K.moved hW.alike hKc, hDc.weaken (fun _ _ _ _ => trivial)⟩⟩ rfl rfl hl.1 rfl (lv_room (Nat.le_of_ble_eq_true rfl)) d_X_step_1 ⟨Nat.zero_le _, Nat.zero_le _⟩) hS (fun q _ h => hFc q h) hFc (fun r u t H1 locs ht hvm hw hB hz1 hk1 hS => ?_)
  obtain ⟨hP1, hK1, hD1⟩ := hB
  replace hw := hw.symm
  subst hw
  rw [ht] at hP1
  obtain ⟨hP, hD⟩ := va_join (wr := [cX h_X h_M h_P h_E1 h_E2 h_E3 X_lo X_ro X_rc, cL h_M k_M 8 M_f, cI h_P k_P 8 P_f]) (w1 := []) hP hD [] [0, 1, 2] rfl rfl (by decide) (by decide) hk1 hFc hP1 hD1
  generalize H1 = H at hP hS ⊢
  have hP := hP.sub (ws' := [cX h_X h_M h_P h_E1 h_E2 h_E3 X_lo X_ro X_rc, cL h_M k_M 8 M_f, cI h_P k_P 8 P_f]) [0, 1, 2] rfl
  have hD := hD.sub (ws' := [cX h_X h_M h_P h_E1 h_E2 h_E3 X_lo X_ro X_rc, cL h_M k_M 8 M_f, cI h_P k_P 8 P_f]) [0, 1, 2] (by decide) rfl
  refine lv_if_eq (tgt := 14) hx hb d_X_step_4 (by decide) (fun c_4 => ?_) (fun c_4 => ?_)
  · replace hF := hif_t c_4 hF
    refine lv_iconst (v := (-1 : Int32)) hx hb d_X_step_14 (by decide) ?_
    obtain rfl := Option.some.inj hF
    exact W.iret (v := (-1 : Int32)) hx hb hr (fun t ht hW => ⟨⟨(-1 : Int32), (), rfl, rfl, by rw [ht]; exact hP, va_K.moved hW.alike hK, hD⟩, hS.F ht⟩) hS.2.2 d_X_step_15
  · replace hF := hif_f c_4 hF
    refine lv_iload_n hx hb d_X_step_7 rfl (lv_at hl 2 rfl) ?_
    obtain ⟨q_8, hC_8, hF⟩ := hbd hF
    have hPc := hP.sub (ws' := []) [] rfl
    have hDc := hD.sub (ws' := []) [] (by decide) rfl
    have hKc := hK.sub (tys' := []) [] rfl
    have hFc := va_free (wc := []) hD hS hA [] rfl
    refine va_calli (va_runS (As := [.int a2]) (rest := []) ⟨hx, hb, hml, hown, hts⟩ (c_X_isRegister l dC dI H.size a2 q_8 hC_8) (cwS 1 hts g_X_30_X_isRegister rfl rfl rfl (by decide +kernel) ⟨Nat.le_of_ble_eq_true rfl, Nat.le_of_ble_eq_true rfl⟩) ⟨fun a U g mk q => by obtain ⟨q0, q1, qP, qK, qD⟩ := q; exact ⟨q0, q1, qP, va_K.moved (u := U) (U := U.calling g mk a) (Vm.Alike.refl U.vm) qK, qD⟩, fun U hU hW => ⟨rfl, by rw [hU], by rw [hU]; exact hPc, va_K.moved hW.alike hKc, hDc.weaken (fun _ _ _ _ => trivial)⟩⟩ rfl rfl hl.1 rfl (lv_room (Nat.le_of_ble_eq_true rfl)) d_X_step_8 ⟨Nat.zero_le _, Nat.zero_le _⟩) hS (fun q _ h => hFc q h) hFc (fun r u t H1 locs ht hvm hw hB hz1 hk1 hS => ?_)
    obtain ⟨hP1, hK1, hD1⟩ := hB
    replace hw := hw.symm
    subst hw
    rw [ht] at hP1
    obtain ⟨hP, hD⟩ := va_join (wr := [cX h_X h_M h_P h_E1 h_E2 h_E3 X_lo X_ro X_rc, cL h_M k_M 8 M_f, cI h_P k_P 8 P_f]) (w1 := []) hP hD [] [0, 1, 2] rfl rfl (by decide) (by decide) hk1 hFc hP1 hD1
    generalize H1 = H at hP hS ⊢
    have hP := hP.sub (ws' := [cX h_X h_M h_P h_E1 h_E2 h_E3 X_lo X_ro X_rc, cL h_M k_M 8 M_f, cI h_P k_P 8 P_f]) [0, 1, 2] rfl
    have hD := hD.sub (ws' := [cX h_X h_M h_P h_E1 h_E2 h_E3 X_lo X_ro X_rc, cL h_M k_M 8 M_f, cI h_P k_P 8 P_f]) [0, 1, 2] (by decide) rfl
    refine lv_if_ne (tgt := 16) hx hb d_X_step_11 (by decide) (fun c_11 => ?_) (fun c_11 => ?_)
    · replace hF := hif_f c_11 hF
      refine lv_aload_n hx hb d_X_step_16 rfl (lv_at hl 0 rfl) ?_
      refine va_get (D := (dC, dI)) (ci := 1) (v := .ref h_M) (C := "RoundedNumbers") (T := F_X) (N := 8) hx hb hts in_X hown hK hP 0 rfl rfl 0 (by decide) (hts _ tw_43) (fun _ h9 => h9) rfl d_X_step_17 ?_
      refine lv_iload_n hx hb d_X_step_20 rfl (lv_at hl 2 rfl) ?_
      have c_21 : ¬ (a2 < 0 ∨ 8 ≤ a2.toNatClampNeg) := hif_n hF
      replace hF := hif_f c_21 hF
      refine va_lald hx hb hK hP 1 0 rfl rfl c_21 d_X_step_21 ?_
      refine lv_lstore (lv' := [(5, .long (M_f a2.toNatClampNeg)), (0, .ref h_X), (1, .int a1), (2, .int a2), (3, .int a3), (4, .int a4)]) hx hb d_X_step_22 hl (by decide) rfl (fun ls hl => ?_)
      refine lv_lload hx hb d_X_step_24 (lv_at hl 0 rfl) ?_
      refine lv_lconst (v := (0 : Int64)) hx hb d_X_step_26 (by decide) ?_
      refine W.lcmp hx hb d_X_step_27 ?_
      refine lv_if_ne (tgt := 51) hx hb d_X_step_28 (by decide) (fun c_28 => ?_) (fun c_28 => ?_)
      · replace hF := hif_f c_28 hF
        refine lv_iload_n hx hb d_X_step_51 rfl (lv_at hl 4 rfl) ?_
        refine lv_lload hx hb d_X_step_52 (lv_at hl 0 rfl) ?_
        refine lv_lconst (v := (0 : Int64)) hx hb d_X_step_54 (by decide) ?_
        refine W.lcmp hx hb d_X_step_55 ?_
        refine lv_if_le (tgt := 63) hx hb d_X_step_56 (by decide) (fun c_56 => ?_) (fun c_56 => ?_)
        · replace hF := hif_t c_56 hF
          refine lv_iconst (v := (0 : Int32)) hx hb d_X_step_63 (by decide) ?_
          exact b_64 a1 a2 a4 (M_f a2.toNatClampNeg) (0 : Int32) a3 X_lo X_ro X_rc M_f P_f _ _ _ hP hD hS (lv_sub hl [1, 2, 3, 5, 0] rfl) hF
        · replace hF := hif_f c_56 hF
          refine lv_iconst (v := (1 : Int32)) hx hb d_X_step_59 (by decide) ?_
          refine lv_goto (tgt := 64) hx hb d_X_step_60 (by decide) ?_
          exact b_64 a1 a2 a4 (M_f a2.toNatClampNeg) (1 : Int32) a3 X_lo X_ro X_rc M_f P_f _ _ _ hP hD hS (lv_sub hl [1, 2, 3, 5, 0] rfl) hF
      · replace hF := hif_t c_28 hF
        refine lv_aload_n hx hb d_X_step_31 rfl (lv_at hl 1 rfl) ?_
        refine lv_iload_n hx hb d_X_step_32 rfl (lv_at hl 2 rfl) ?_
        refine lv_iload_n hx hb d_X_step_33 rfl (lv_at hl 4 rfl) ?_
        refine lv_if_eq (tgt := 41) hx hb d_X_step_34 (by decide) (fun c_34 => ?_) (fun c_34 => ?_)
        · replace hF := hif_t c_34 hF
          refine lv_ldc2 (v := (-1 : Int64)) hx hb hown (hts _ tw_238) d_X_step_41 ?_
          refine lv_bipush (v := (-100 : Int32)) hx hb d_X_step_44 (by decide) ?_
          refine lv_iconst (v := (0 : Int32)) hx hb d_X_step_46 (by decide) ?_
          obtain ⟨q_47, hC_47, hF⟩ := hbd hF
          have hPc := hP.sub (ws' := [cX h_X h_M h_P h_E1 h_E2 h_E3 X_lo X_ro X_rc, cL h_M k_M 8 M_f, cI h_P k_P 8 P_f]) [0, 1, 2] rfl
          have hDc := hD.sub (ws' := [cX h_X h_M h_P h_E1 h_E2 h_E3 X_lo X_ro X_rc, cL h_M k_M 8 M_f, cI h_P k_P 8 P_f]) [0, 1, 2] (by decide) rfl
          have hKc := hK.sub (tys' := [(k_M, .long), (k_P, .int)]) [0, 1] rfl
          have hFc := va_free (wc := [cX h_X h_M h_P h_E1 h_E2 h_E3 X_lo X_ro X_rc, cL h_M k_M 8 M_f, cI h_P k_P 8 P_f]) hD hS hA [0, 1, 2] rfl
          refine va_calli (va_runV (As := [.int a1, .long (-1 : Int64), .int (-100 : Int32), .int (0 : Int32)]) (rest := []) ⟨hx, hb, hml, hown, hts⟩ (c_X_put l dC dI h_X h_M h_P h_E1 h_E2 h_E3 k_M k_P H.size X_lo X_ro X_rc M_f P_f a1 (-1 : Int64) (-100 : Int32) (0 : Int32) q_47 hC_47) (cwV 4 hts g_X_96_X_put rfl rfl rfl (by decide +kernel) ⟨Nat.le_of_ble_eq_true rfl, Nat.le_of_ble_eq_true rfl⟩) ⟨fun a U g mk q => by obtain ⟨q0, q1, qP, qK, qD⟩ := q; exact ⟨q0, q1, qP, va_K.moved (u := U) (U := U.calling g mk a) (Vm.Alike.refl U.vm) qK, qD⟩, va_recv hKc hPc (ci := 1) (q0 := 0) rfl rfl, fun U hU hW => ⟨rfl, by rw [hU], by rw [hU]; exact hPc, va_K.moved hW.alike hKc, hDc.weaken (fun _ _ _ _ => trivial)⟩⟩ rfl rfl hl.1 rfl (lv_room (Nat.le_of_ble_eq_true rfl)) d_X_step_47 ⟨Nat.zero_le _, Nat.zero_le _⟩) hS (fun q _ h => hFc q h) hFc (fun r u t H1 locs ht hvm hw hB hz1 hk1 hS => ?_)
          obtain ⟨hP1, hK1, hD1⟩ := hB
          replace hw := hw.symm
          subst hw
          rw [ht] at hP1
          obtain ⟨hP, hD⟩ := va_join (wr := []) (w1 := [cX h_X h_M h_P h_E1 h_E2 h_E3 q_47.2.1 q_47.2.2.1 q_47.2.2.2.1, cL h_M k_M 8 q_47.2.2.2.2.1, cI h_P k_P 8 q_47.2.2.2.2.2]) hP hD [0, 1, 2] [] rfl rfl (by decide) (by decide) hk1 hFc hP1 hD1
          generalize H1 = H at hP hS ⊢
          have hP := hP.sub (ws' := [cX h_X h_M h_P h_E1 h_E2 h_E3 q_47.2.1 q_47.2.2.1 q_47.2.2.2.1, cL h_M k_M 8 q_47.2.2.2.2.1, cI h_P k_P 8 q_47.2.2.2.2.2]) [0, 1, 2] rfl
          have hD := hD.sub (ws' := [cX h_X h_M h_P h_E1 h_E2 h_E3 q_47.2.1 q_47.2.2.1 q_47.2.2.2.1, cL h_M k_M 8 q_47.2.2.2.2.1, cI h_P k_P 8 q_47.2.2.2.2.2]) [0, 1, 2] (by decide) rfl
          obtain rfl := Option.some.inj hF
          exact W.iret (v := q_47.1) hx hb hr (fun t ht hW => ⟨⟨q_47.1, (), rfl, rfl, by rw [ht]; exact hP, va_K.moved hW.alike hK, hD⟩, hS.F ht⟩) hS.2.2 d_X_step_50
        · replace hF := hif_f c_34 hF
          refine lv_lconst (v := (1 : Int64)) hx hb d_X_step_37 (by decide) ?_
          refine lv_goto (tgt := 44) hx hb d_X_step_38 (by decide) ?_
          refine lv_bipush (v := (-100 : Int32)) hx hb d_X_step_44 (by decide) ?_
          refine lv_iconst (v := (0 : Int32)) hx hb d_X_step_46 (by decide) ?_
          obtain ⟨q_47, hC_47, hF⟩ := hbd hF
          have hPc := hP.sub (ws' := [cX h_X h_M h_P h_E1 h_E2 h_E3 X_lo X_ro X_rc, cL h_M k_M 8 M_f, cI h_P k_P 8 P_f]) [0, 1, 2] rfl
          have hDc := hD.sub (ws' := [cX h_X h_M h_P h_E1 h_E2 h_E3 X_lo X_ro X_rc, cL h_M k_M 8 M_f, cI h_P k_P 8 P_f]) [0, 1, 2] (by decide) rfl
          have hKc := hK.sub (tys' := [(k_M, .long), (k_P, .int)]) [0, 1] rfl
          have hFc := va_free (wc := [cX h_X h_M h_P h_E1 h_E2 h_E3 X_lo X_ro X_rc, cL h_M k_M 8 M_f, cI h_P k_P 8 P_f]) hD hS hA [0, 1, 2] rfl
          refine va_calli (va_runV (As := [.int a1, .long (1 : Int64), .int (-100 : Int32), .int (0 : Int32)]) (rest := []) ⟨hx, hb, hml, hown, hts⟩ (c_X_put l dC dI h_X h_M h_P h_E1 h_E2 h_E3 k_M k_P H.size X_lo X_ro X_rc M_f P_f a1 (1 : Int64) (-100 : Int32) (0 : Int32) q_47 hC_47) (cwV 4 hts g_X_96_X_put rfl rfl rfl (by decide +kernel) ⟨Nat.le_of_ble_eq_true rfl, Nat.le_of_ble_eq_true rfl⟩) ⟨fun a U g mk q => by obtain ⟨q0, q1, qP, qK, qD⟩ := q; exact ⟨q0, q1, qP, va_K.moved (u := U) (U := U.calling g mk a) (Vm.Alike.refl U.vm) qK, qD⟩, va_recv hKc hPc (ci := 1) (q0 := 0) rfl rfl, fun U hU hW => ⟨rfl, by rw [hU], by rw [hU]; exact hPc, va_K.moved hW.alike hKc, hDc.weaken (fun _ _ _ _ => trivial)⟩⟩ rfl rfl hl.1 rfl (lv_room (Nat.le_of_ble_eq_true rfl)) d_X_step_47 ⟨Nat.zero_le _, Nat.zero_le _⟩) hS (fun q _ h => hFc q h) hFc (fun r u t H1 locs ht hvm hw hB hz1 hk1 hS => ?_)
          obtain ⟨hP1, hK1, hD1⟩ := hB
          replace hw := hw.symm
          subst hw
          rw [ht] at hP1
          obtain ⟨hP, hD⟩ := va_join (wr := []) (w1 := [cX h_X h_M h_P h_E1 h_E2 h_E3 q_47.2.1 q_47.2.2.1 q_47.2.2.2.1, cL h_M k_M 8 q_47.2.2.2.2.1, cI h_P k_P 8 q_47.2.2.2.2.2]) hP hD [0, 1, 2] [] rfl rfl (by decide) (by decide) hk1 hFc hP1 hD1
          generalize H1 = H at hP hS ⊢
          have hP := hP.sub (ws' := [cX h_X h_M h_P h_E1 h_E2 h_E3 q_47.2.1 q_47.2.2.1 q_47.2.2.2.1, cL h_M k_M 8 q_47.2.2.2.2.1, cI h_P k_P 8 q_47.2.2.2.2.2]) [0, 1, 2] rfl
          have hD := hD.sub (ws' := [cX h_X h_M h_P h_E1 h_E2 h_E3 q_47.2.1 q_47.2.2.1 q_47.2.2.2.1, cL h_M k_M 8 q_47.2.2.2.2.1, cI h_P k_P 8 q_47.2.2.2.2.2]) [0, 1, 2] (by decide) rfl
          obtain rfl := Option.some.inj hF
          exact W.iret (v := q_47.1) hx hb hr (fun t ht hW => ⟨⟨q_47.1, (), rfl, rfl, by rw [ht]; exact hP, va_K.moved hW.alike hK, hD⟩, hS.F ht⟩) hS.2.2 d_X_step_50
    · replace hF := hif_t c_11 hF
      refine lv_iconst (v := (-1 : Int32)) hx hb d_X_step_14 (by decide) ?_
      obtain rfl := Option.some.inj hF
      exact W.iret (v := (-1 : Int32)) hx hb hr (fun t ht hW => ⟨⟨(-1 : Int32), (), rfl, rfl, by rw [ht]; exact hP, va_K.moved hW.alike hK, hD⟩, hS.F ht⟩) hS.2.2 d_X_step_15
set_option maxHeartbeats 4000000 in
set_option maxRecDepth 100000 in
theorem c_X_cubeRoot (l : Launch) (dC : Nat → ClassId) (dI : Nat → Nat → Nat) (h_X : Nat) (h_M : Nat) (h_P : Nat) (h_E1 : Nat) (h_E2 : Nat) (h_E3 : Nat) (k_M : ClassId) (k_P : ClassId) (sz : Nat) (X_lo : Int32) (X_ro : Int32) (X_rc : Int32) (M_f : Nat → Int64) (P_f : Nat → Int32) (E1_sg : Int32) (E1_hi : Int64) (E1_lo : Int64) (E1_pl : Int32) (E1_mo : Int32) (E2_sg : Int32) (E2_hi : Int64) (E2_lo : Int64) (E2_pl : Int32) (E2_mo : Int32) (E3_sg : Int32) (E3_hi : Int64) (E3_lo : Int64) (E3_pl : Int32) (E3_mo : Int32) (a1 : Int32) (a2 : Int32) (o : Int32 × Int32 × Int64 × Int64 × Int32 × Int32 × Int32 × Int64 × Int64 × Int32 × Int32 × Int32 × Int64 × Int64 × Int32 × Int32) (hF : f_X_cubeRoot M_f P_f E1_sg E1_hi E1_lo E1_pl E1_mo E2_sg E2_hi E2_lo E2_pl E2_mo E3_sg E3_hi E3_lo E3_pl E3_mo a1 a2 = some o) : Met l y_X_cubeRoot w_X_cubeRoot ({ frames := 7, cells := 0, slots := 0, locals := 154 } : Room) (va_Pc [.ref h_X, .int a1, .int a2] (fun U => U.heap.size = sz ∧ va_P (dC, dI) classes [cX h_X h_M h_P h_E1 h_E2 h_E3 X_lo X_ro X_rc, cL h_M k_M 8 M_f, cI h_P k_P 8 P_f, cE h_E1 E1_sg E1_hi E1_lo E1_pl E1_mo, cE h_E2 E2_sg E2_hi E2_lo E2_pl E2_mo, cE h_E3 E3_sg E3_hi E3_lo E3_pl E3_mo] U.heap ∧ va_K (dC, dI) classes [(k_M, .long), (k_P, .int)] U ∧ va_D (fun _ => True) [cX h_X h_M h_P h_E1 h_E2 h_E3 X_lo X_ro X_rc, cL h_M k_M 8 M_f, cI h_P k_P 8 P_f, cE h_E1 E1_sg E1_hi E1_lo E1_pl E1_mo, cE h_E2 E2_sg E2_hi E2_lo E2_pl E2_mo, cE h_E3 E3_sg E3_hi E3_lo E3_pl E3_mo])) (va_Qi (fun (r : Int32) (_ : Unit) => r = o.1) (fun (_ : Unit) (t : State) => va_P (dC, dI) classes [cX h_X h_M h_P h_E1 h_E2 h_E3 X_lo X_ro X_rc, cL h_M k_M 8 M_f, cI h_P k_P 8 P_f, cE h_E1 o.2.1 o.2.2.1 o.2.2.2.1 o.2.2.2.2.1 o.2.2.2.2.2.1, cE h_E2 o.2.2.2.2.2.2.1 o.2.2.2.2.2.2.2.1 o.2.2.2.2.2.2.2.2.1 o.2.2.2.2.2.2.2.2.2.1 o.2.2.2.2.2.2.2.2.2.2.1, cE h_E3 o.2.2.2.2.2.2.2.2.2.2.2.1 o.2.2.2.2.2.2.2.2.2.2.2.2.1 o.2.2.2.2.2.2.2.2.2.2.2.2.2.1 o.2.2.2.2.2.2.2.2.2.2.2.2.2.2.1 o.2.2.2.2.2.2.2.2.2.2.2.2.2.2.2] t.heap ∧ va_K (dC, dI) classes [(k_M, .long), (k_P, .int)] t ∧ va_D (va_A [cX h_X h_M h_P h_E1 h_E2 h_E3 X_lo X_ro X_rc, cL h_M k_M 8 M_f, cI h_P k_P 8 P_f, cE h_E1 E1_sg E1_hi E1_lo E1_pl E1_mo, cE h_E2 E2_sg E2_hi E2_lo E2_pl E2_mo, cE h_E3 E3_sg E3_hi E3_lo E3_pl E3_mo] sz) [cX h_X h_M h_P h_E1 h_E2 h_E3 X_lo X_ro X_rc, cL h_M k_M 8 M_f, cI h_P k_P 8 P_f, cE h_E1 o.2.1 o.2.2.1 o.2.2.2.1 o.2.2.2.2.1 o.2.2.2.2.2.1, cE h_E2 o.2.2.2.2.2.2.1 o.2.2.2.2.2.2.2.1 o.2.2.2.2.2.2.2.2.1 o.2.2.2.2.2.2.2.2.2.1 o.2.2.2.2.2.2.2.2.2.2.1, cE h_E3 o.2.2.2.2.2.2.2.2.2.2.2.1 o.2.2.2.2.2.2.2.2.2.2.2.2.1 o.2.2.2.2.2.2.2.2.2.2.2.2.2.1 o.2.2.2.2.2.2.2.2.2.2.2.2.2.2.1 o.2.2.2.2.2.2.2.2.2.2.2.2.2.2.2]) (va_A [cX h_X h_M h_P h_E1 h_E2 h_E3 X_lo X_ro X_rc, cL h_M k_M 8 M_f, cI h_P k_P 8 P_f, cE h_E1 E1_sg E1_hi E1_lo E1_pl E1_mo, cE h_E2 E2_sg E2_hi E2_lo E2_pl E2_mo, cE h_E3 E3_sg E3_hi E3_lo E3_pl E3_mo] sz)) 0 0 (va_A [cX h_X h_M h_P h_E1 h_E2 h_E3 X_lo X_ro X_rc, cL h_M k_M 8 M_f, cI h_P k_P 8 P_f, cE h_E1 E1_sg E1_hi E1_lo E1_pl E1_mo, cE h_E2 E2_sg E2_hi E2_lo E2_pl E2_mo, cE h_E3 E3_sg E3_hi E3_lo E3_pl E3_mo] sz) := by
  refine Met.ofW (cc := prog_1_method_14_code) (maxL := 6) (ret := (some .int)) (by decide) rfl ?_
  intro p e s m args below meth c s₁ B hml hv
  obtain ⟨rfl, hsz, hP, hK, hD0⟩ := hv
  have hx := B.exec
  have hb := B.bytes
  have hr := B.returns
  have hts0 := atoms_spec (ws := w_X_cubeRoot) B.pre
  have hts : ∀ w ∈ tb, w.before _ s = true := fun w h => hts0 w (List.mem_cons_of_mem _ h)
  clear hts0
  have hown : s.vm.findClass "RoundedNumbers" = some m.cls := findClass_of_methodNamed B.named
  have hlocks := B.notSynchronized
  subst hsz
  have hD := hD0.self (sz := s.heap.size)
  generalize hAe : va_A [cX h_X h_M h_P h_E1 h_E2 h_E3 X_lo X_ro X_rc, cL h_M k_M 8 M_f, cI h_P k_P 8 P_f, cE h_E1 E1_sg E1_hi E1_lo E1_pl E1_mo, cE h_E2 E2_sg E2_hi E2_lo E2_pl E2_mo, cE h_E3 E3_sg E3_hi E3_lo E3_pl E3_mo] s.heap.size = A at hD ⊢
  have hA : ∀ q : Nat, s.heap.size ≤ q → A q := fun q h => by rw [← hAe]; exact Or.inr h
  clear hAe
  have hS : va_S A s.heap s.heap [] := va_S.rf
  have hP : va_P (dC, dI) classes [cX h_X h_M h_P h_E1 h_E2 h_E3 X_lo X_ro X_rc, cL h_M k_M 8 M_f, cI h_P k_P 8 P_f, cE h_E1 E1_sg E1_hi E1_lo E1_pl E1_mo, cE h_E2 E2_sg E2_hi E2_lo E2_pl E2_mo, cE h_E3 E3_sg E3_hi E3_lo E3_pl E3_mo] s.heap := hP
  have hl := lv_entry ([.ref h_X, .int a1, .int a2]) (n := 6) (Nat.le_of_ble_eq_true rfl)
  rw [lg_entry_eq]
  generalize (lg_sl ([.ref h_X, .int a1, .int a2]) ++ List.replicate (6 - (lg_sl ([.ref h_X, .int a1, .int a2])).length) Slot.unset).toArray = ls at hl ⊢
  have hl : lv_has ls 6 [(0, .ref h_X), (1, .int a1), (2, .int a2)] := hl
  unfold f_X_cubeRoot at hF
  refine lv_iload_n hx hb d_X_cubeRoot_0 rfl (lv_at hl 1 rfl) ?_
  obtain ⟨q_1, hC_1, hF⟩ := hbd hF
  have hPc := hP.sub (ws' := []) [] rfl
  have hDc := hD.sub (ws' := []) [] (by decide) rfl
  have hKc := hK.sub (tys' := []) [] rfl
  have hFc := va_free (wc := []) hD hS hA [] rfl
  refine va_calli (va_runS (As := [.int a1]) (rest := []) ⟨hx, hb, hml, hown, hts⟩ (c_X_isRegister l dC dI s.heap.size a1 q_1 hC_1) (cwS 1 hts g_X_30_X_isRegister rfl rfl rfl (by decide +kernel) ⟨Nat.le_of_ble_eq_true rfl, Nat.le_of_ble_eq_true rfl⟩) ⟨fun a U g mk q => by obtain ⟨q0, q1, qP, qK, qD⟩ := q; exact ⟨q0, q1, qP, va_K.moved (u := U) (U := U.calling g mk a) (Vm.Alike.refl U.vm) qK, qD⟩, fun U hU hW => ⟨rfl, by rw [hU], by rw [hU]; exact hPc, va_K.moved hW.alike hKc, hDc.weaken (fun _ _ _ _ => trivial)⟩⟩ rfl rfl hl.1 rfl (lv_room (Nat.le_of_ble_eq_true rfl)) d_X_cubeRoot_1 ⟨Nat.zero_le _, Nat.zero_le _⟩) hS (fun q _ h => hFc q h) hFc (fun r u t H1 locs ht hvm hw hB hz1 hk1 hS => ?_)
  obtain ⟨hP1, hK1, hD1⟩ := hB
  replace hw := hw.symm
  subst hw
  rw [ht] at hP1
  obtain ⟨hP, hD⟩ := va_join (wr := [cX h_X h_M h_P h_E1 h_E2 h_E3 X_lo X_ro X_rc, cL h_M k_M 8 M_f, cI h_P k_P 8 P_f, cE h_E1 E1_sg E1_hi E1_lo E1_pl E1_mo, cE h_E2 E2_sg E2_hi E2_lo E2_pl E2_mo, cE h_E3 E3_sg E3_hi E3_lo E3_pl E3_mo]) (w1 := []) hP hD [] [0, 1, 2, 3, 4, 5] rfl rfl (by decide) (by decide) hk1 hFc hP1 hD1
  generalize H1 = H at hP hS ⊢
  have hP := hP.sub (ws' := [cX h_X h_M h_P h_E1 h_E2 h_E3 X_lo X_ro X_rc, cL h_M k_M 8 M_f, cI h_P k_P 8 P_f, cE h_E1 E1_sg E1_hi E1_lo E1_pl E1_mo, cE h_E2 E2_sg E2_hi E2_lo E2_pl E2_mo, cE h_E3 E3_sg E3_hi E3_lo E3_pl E3_mo]) [0, 1, 2, 3, 4, 5] rfl
  have hD := hD.sub (ws' := [cX h_X h_M h_P h_E1 h_E2 h_E3 X_lo X_ro X_rc, cL h_M k_M 8 M_f, cI h_P k_P 8 P_f, cE h_E1 E1_sg E1_hi E1_lo E1_pl E1_mo, cE h_E2 E2_sg E2_hi E2_lo E2_pl E2_mo, cE h_E3 E3_sg E3_hi E3_lo E3_pl E3_mo]) [0, 1, 2, 3, 4, 5] (by decide) rfl
  refine lv_if_eq (tgt := 14) hx hb d_X_cubeRoot_4 (by decide) (fun c_4 => ?_) (fun c_4 => ?_)
  · replace hF := hif_t c_4 hF
    refine lv_iconst (v := (-1 : Int32)) hx hb d_X_cubeRoot_14 (by decide) ?_
    obtain rfl := Option.some.inj hF
    exact W.iret (v := (-1 : Int32)) hx hb hr (fun t ht hW => ⟨⟨(-1 : Int32), (), rfl, rfl, by rw [ht]; exact hP, va_K.moved hW.alike hK, hD⟩, hS.F ht⟩) hS.2.2 d_X_cubeRoot_15
  · replace hF := hif_f c_4 hF
    refine lv_iload_n hx hb d_X_cubeRoot_7 rfl (lv_at hl 2 rfl) ?_
    obtain ⟨q_8, hC_8, hF⟩ := hbd hF
    have hPc := hP.sub (ws' := []) [] rfl
    have hDc := hD.sub (ws' := []) [] (by decide) rfl
    have hKc := hK.sub (tys' := []) [] rfl
    have hFc := va_free (wc := []) hD hS hA [] rfl
    refine va_calli (va_runS (As := [.int a2]) (rest := []) ⟨hx, hb, hml, hown, hts⟩ (c_X_isRegister l dC dI H.size a2 q_8 hC_8) (cwS 1 hts g_X_30_X_isRegister rfl rfl rfl (by decide +kernel) ⟨Nat.le_of_ble_eq_true rfl, Nat.le_of_ble_eq_true rfl⟩) ⟨fun a U g mk q => by obtain ⟨q0, q1, qP, qK, qD⟩ := q; exact ⟨q0, q1, qP, va_K.moved (u := U) (U := U.calling g mk a) (Vm.Alike.refl U.vm) qK, qD⟩, fun U hU hW => ⟨rfl, by rw [hU], by rw [hU]; exact hPc, va_K.moved hW.alike hKc, hDc.weaken (fun _ _ _ _ => trivial)⟩⟩ rfl rfl hl.1 rfl (lv_room (Nat.le_of_ble_eq_true rfl)) d_X_cubeRoot_8 ⟨Nat.zero_le _, Nat.zero_le _⟩) hS (fun q _ h => hFc q h) hFc (fun r u t H1 locs ht hvm hw hB hz1 hk1 hS => ?_)
    obtain ⟨hP1, hK1, hD1⟩ := hB
    replace hw := hw.symm
    subst hw
    rw [ht] at hP1
    obtain ⟨hP, hD⟩ := va_join (wr := [cX h_X h_M h_P h_E1 h_E2 h_E3 X_lo X_ro X_rc, cL h_M k_M 8 M_f, cI h_P k_P 8 P_f, cE h_E1 E1_sg E1_hi E1_lo E1_pl E1_mo, cE h_E2 E2_sg E2_hi E2_lo E2_pl E2_mo, cE h_E3 E3_sg E3_hi E3_lo E3_pl E3_mo]) (w1 := []) hP hD [] [0, 1, 2, 3, 4, 5] rfl rfl (by decide) (by decide) hk1 hFc hP1 hD1
    generalize H1 = H at hP hS ⊢
    have hP := hP.sub (ws' := [cX h_X h_M h_P h_E1 h_E2 h_E3 X_lo X_ro X_rc, cL h_M k_M 8 M_f, cI h_P k_P 8 P_f, cE h_E1 E1_sg E1_hi E1_lo E1_pl E1_mo, cE h_E2 E2_sg E2_hi E2_lo E2_pl E2_mo, cE h_E3 E3_sg E3_hi E3_lo E3_pl E3_mo]) [0, 1, 2, 3, 4, 5] rfl
    have hD := hD.sub (ws' := [cX h_X h_M h_P h_E1 h_E2 h_E3 X_lo X_ro X_rc, cL h_M k_M 8 M_f, cI h_P k_P 8 P_f, cE h_E1 E1_sg E1_hi E1_lo E1_pl E1_mo, cE h_E2 E2_sg E2_hi E2_lo E2_pl E2_mo, cE h_E3 E3_sg E3_hi E3_lo E3_pl E3_mo]) [0, 1, 2, 3, 4, 5] (by decide) rfl
    refine lv_if_ne (tgt := 16) hx hb d_X_cubeRoot_11 (by decide) (fun c_11 => ?_) (fun c_11 => ?_)
    · replace hF := hif_f c_11 hF
      refine lv_aload_n hx hb d_X_cubeRoot_16 rfl (lv_at hl 0 rfl) ?_
      refine va_get (D := (dC, dI)) (ci := 1) (v := .ref h_M) (C := "RoundedNumbers") (T := F_X) (N := 8) hx hb hts in_X hown hK hP 0 rfl rfl 0 (by decide) (hts _ tw_43) (fun _ h9 => h9) rfl d_X_cubeRoot_17 ?_
      refine lv_iload_n hx hb d_X_cubeRoot_20 rfl (lv_at hl 1 rfl) ?_
      have c_21 : ¬ (a1 < 0 ∨ 8 ≤ a1.toNatClampNeg) := hif_n hF
      replace hF := hif_f c_21 hF
      refine va_lald hx hb hK hP 1 0 rfl rfl c_21 d_X_cubeRoot_21 ?_
      obtain ⟨q_22, hC_22, hF⟩ := hbd hF
      have hPc := hP.sub (ws' := []) [] rfl
      have hDc := hD.sub (ws' := []) [] (by decide) rfl
      have hKc := hK.sub (tys' := []) [] rfl
      have hFc := va_free (wc := []) hD hS hA [] rfl
      refine va_calli (va_runS (As := [.long (M_f a1.toNatClampNeg)]) (rest := []) ⟨hx, hb, hml, hown, hts⟩ (c_J_signum l dC dI H.size (M_f a1.toNatClampNeg) q_22 hC_22) (va_cwS 1 hts g_X_115_JL_signum rfl rfl rfl (by decide +kernel) ⟨Nat.le_of_ble_eq_true rfl, Nat.le_of_ble_eq_true rfl⟩) ⟨fun a U g mk q => by obtain ⟨q0, q1, qP, qK, qD⟩ := q; exact ⟨q0, q1, qP, va_K.moved (u := U) (U := U.calling g mk a) (Vm.Alike.refl U.vm) qK, qD⟩, fun U hU hW => ⟨rfl, by rw [hU], by rw [hU]; exact hPc, va_K.moved hW.alike hKc, hDc.weaken (fun _ _ _ _ => trivial)⟩⟩ rfl rfl hl.1 rfl (lv_room (Nat.le_of_ble_eq_true rfl)) d_X_cubeRoot_22 ⟨Nat.zero_le _, Nat.zero_le _⟩) hS (fun q _ h => hFc q h) hFc (fun r u t H1 locs ht hvm hw hB hz1 hk1 hS => ?_)
      obtain ⟨hP1, hK1, hD1⟩ := hB
      replace hw := hw.symm
      subst hw
      rw [ht] at hP1
      obtain ⟨hP, hD⟩ := va_join (wr := [cX h_X h_M h_P h_E1 h_E2 h_E3 X_lo X_ro X_rc, cL h_M k_M 8 M_f, cI h_P k_P 8 P_f, cE h_E1 E1_sg E1_hi E1_lo E1_pl E1_mo, cE h_E2 E2_sg E2_hi E2_lo E2_pl E2_mo, cE h_E3 E3_sg E3_hi E3_lo E3_pl E3_mo]) (w1 := []) hP hD [] [0, 1, 2, 3, 4, 5] rfl rfl (by decide) (by decide) hk1 hFc hP1 hD1
      generalize H1 = H at hP hS ⊢
      have hP := hP.sub (ws' := [cX h_X h_M h_P h_E1 h_E2 h_E3 X_lo X_ro X_rc, cL h_M k_M 8 M_f, cI h_P k_P 8 P_f, cE h_E1 E1_sg E1_hi E1_lo E1_pl E1_mo, cE h_E2 E2_sg E2_hi E2_lo E2_pl E2_mo, cE h_E3 E3_sg E3_hi E3_lo E3_pl E3_mo]) [0, 1, 2, 3, 4, 5] rfl
      have hD := hD.sub (ws' := [cX h_X h_M h_P h_E1 h_E2 h_E3 X_lo X_ro X_rc, cL h_M k_M 8 M_f, cI h_P k_P 8 P_f, cE h_E1 E1_sg E1_hi E1_lo E1_pl E1_mo, cE h_E2 E2_sg E2_hi E2_lo E2_pl E2_mo, cE h_E3 E3_sg E3_hi E3_lo E3_pl E3_mo]) [0, 1, 2, 3, 4, 5] (by decide) rfl
      refine lv_aload_n hx hb d_X_cubeRoot_25 rfl (lv_at hl 0 rfl) ?_
      refine va_get (D := (dC, dI)) (ci := 1) (v := .ref h_M) (C := "RoundedNumbers") (T := F_X) (N := 8) hx hb hts in_X hown hK hP 0 rfl rfl 0 (by decide) (hts _ tw_43) (fun _ h9 => h9) rfl d_X_cubeRoot_26 ?_
      refine lv_iload_n hx hb d_X_cubeRoot_29 rfl (lv_at hl 2 rfl) ?_
      have c_30 : ¬ (a2 < 0 ∨ 8 ≤ a2.toNatClampNeg) := hif_n hF
      replace hF := hif_f c_30 hF
      refine va_lald hx hb hK hP 1 0 rfl rfl c_30 d_X_cubeRoot_30 ?_
      obtain ⟨q_31, hC_31, hF⟩ := hbd hF
      have hPc := hP.sub (ws' := []) [] rfl
      have hDc := hD.sub (ws' := []) [] (by decide) rfl
      have hKc := hK.sub (tys' := []) [] rfl
      have hFc := va_free (wc := []) hD hS hA [] rfl
      refine va_calli (va_runS (As := [.long (M_f a2.toNatClampNeg)]) (rest := [.int q_22]) ⟨hx, hb, hml, hown, hts⟩ (c_J_signum l dC dI H.size (M_f a2.toNatClampNeg) q_31 hC_31) (va_cwS 1 hts g_X_115_JL_signum rfl rfl rfl (by decide +kernel) ⟨Nat.le_of_ble_eq_true rfl, Nat.le_of_ble_eq_true rfl⟩) ⟨fun a U g mk q => by obtain ⟨q0, q1, qP, qK, qD⟩ := q; exact ⟨q0, q1, qP, va_K.moved (u := U) (U := U.calling g mk a) (Vm.Alike.refl U.vm) qK, qD⟩, fun U hU hW => ⟨rfl, by rw [hU], by rw [hU]; exact hPc, va_K.moved hW.alike hKc, hDc.weaken (fun _ _ _ _ => trivial)⟩⟩ rfl rfl hl.1 rfl (lv_room (Nat.le_of_ble_eq_true rfl)) d_X_cubeRoot_31 ⟨Nat.zero_le _, Nat.zero_le _⟩) hS (fun q _ h => hFc q h) hFc (fun r u t H1 locs ht hvm hw hB hz1 hk1 hS => ?_)
      obtain ⟨hP1, hK1, hD1⟩ := hB
      replace hw := hw.symm
      subst hw
      rw [ht] at hP1
      obtain ⟨hP, hD⟩ := va_join (wr := [cX h_X h_M h_P h_E1 h_E2 h_E3 X_lo X_ro X_rc, cL h_M k_M 8 M_f, cI h_P k_P 8 P_f, cE h_E1 E1_sg E1_hi E1_lo E1_pl E1_mo, cE h_E2 E2_sg E2_hi E2_lo E2_pl E2_mo, cE h_E3 E3_sg E3_hi E3_lo E3_pl E3_mo]) (w1 := []) hP hD [] [0, 1, 2, 3, 4, 5] rfl rfl (by decide) (by decide) hk1 hFc hP1 hD1
      generalize H1 = H at hP hS ⊢
      have hP := hP.sub (ws' := [cX h_X h_M h_P h_E1 h_E2 h_E3 X_lo X_ro X_rc, cL h_M k_M 8 M_f, cI h_P k_P 8 P_f, cE h_E1 E1_sg E1_hi E1_lo E1_pl E1_mo, cE h_E2 E2_sg E2_hi E2_lo E2_pl E2_mo, cE h_E3 E3_sg E3_hi E3_lo E3_pl E3_mo]) [0, 1, 2, 3, 4, 5] rfl
      have hD := hD.sub (ws' := [cX h_X h_M h_P h_E1 h_E2 h_E3 X_lo X_ro X_rc, cL h_M k_M 8 M_f, cI h_P k_P 8 P_f, cE h_E1 E1_sg E1_hi E1_lo E1_pl E1_mo, cE h_E2 E2_sg E2_hi E2_lo E2_pl E2_mo, cE h_E3 E3_sg E3_hi E3_lo E3_pl E3_mo]) [0, 1, 2, 3, 4, 5] (by decide) rfl
      refine lv_icmp_eq (tgt := 39) hx hb d_X_cubeRoot_34 (by decide) (fun c_34 => ?_) (fun c_34 => ?_)
      · replace hF := hif_t c_34 hF
        refine lv_aload_n hx hb d_X_cubeRoot_39 rfl (lv_at hl 0 rfl) ?_
        refine va_get (D := (dC, dI)) (ci := 1) (v := .ref h_M) (C := "RoundedNumbers") (T := F_X) (N := 8) hx hb hts in_X hown hK hP 0 rfl rfl 0 (by decide) (hts _ tw_43) (fun _ h9 => h9) rfl d_X_cubeRoot_40 ?_
        refine lv_iload_n hx hb d_X_cubeRoot_43 rfl (lv_at hl 2 rfl) ?_
        have c_44 : ¬ (a2 < 0 ∨ 8 ≤ a2.toNatClampNeg) := hif_n hF
        replace hF := hif_f c_44 hF
        refine va_lald hx hb hK hP 1 0 rfl rfl c_44 d_X_cubeRoot_44 ?_
        refine lv_lconst (v := (0 : Int64)) hx hb d_X_cubeRoot_45 (by decide) ?_
        refine W.lcmp hx hb d_X_cubeRoot_46 ?_
        refine lv_if_ne (tgt := 52) hx hb d_X_cubeRoot_47 (by decide) (fun c_47 => ?_) (fun c_47 => ?_)
        · replace hF := hif_f c_47 hF
          refine lv_aload_n hx hb d_X_cubeRoot_52 rfl (lv_at hl 0 rfl) ?_
          refine va_get (D := (dC, dI)) (ci := 1) (v := .ref h_M) (C := "RoundedNumbers") (T := F_X) (N := 8) hx hb hts in_X hown hK hP 0 rfl rfl 0 (by decide) (hts _ tw_43) (fun _ h9 => h9) rfl d_X_cubeRoot_53 ?_
          refine lv_iload_n hx hb d_X_cubeRoot_56 rfl (lv_at hl 2 rfl) ?_
          have c_57 : ¬ (a2 < 0 ∨ 8 ≤ a2.toNatClampNeg) := hif_n hF
          replace hF := hif_f c_57 hF
          refine va_lald hx hb hK hP 1 0 rfl rfl c_57 d_X_cubeRoot_57 ?_
          refine va_mabs_long hx hb (hml.trans hl.1.symm) hown (hts _ tw_80) (hts _ tw_81) (hts _ tw_4) (hts _ tw_82) (Nat.le_of_ble_eq_true rfl) (Nat.le_of_ble_eq_true rfl) (Nat.zero_le _) (Nat.zero_le _) d_X_cubeRoot_58 ?_
          refine W.eq (g2 := F0 m 61 ls [.long (jabs (M_f a2.toNatClampNeg))]) rfl ?_
          refine lv_lstore_n (lv' := [(3, .long (jabs (M_f a2.toNatClampNeg))), (0, .ref h_X), (1, .int a1), (2, .int a2)]) hx hb d_X_cubeRoot_61 rfl hl (by decide) rfl (fun ls hl => ?_)
          refine lv_aload_n hx hb d_X_cubeRoot_62 rfl (lv_at hl 1 rfl) ?_
          refine lv_lload_n hx hb d_X_cubeRoot_63 rfl (lv_at hl 0 rfl) ?_
          refine lv_lconst (v := (1 : Int64)) hx hb d_X_cubeRoot_64 (by decide) ?_
          refine lv_lsub hx hb d_X_cubeRoot_65 ?_
          refine lv_aload_n hx hb d_X_cubeRoot_66 rfl (lv_at hl 1 rfl) ?_
          refine va_get (D := (dC, dI)) (ci := 1) (v := .ref h_P) (C := "RoundedNumbers") (T := F_X) (N := 8) hx hb hts in_X hown hK hP 0 rfl rfl 1 (by decide) (hts _ tw_44) (fun _ h9 => h9) rfl d_X_cubeRoot_67 ?_
          refine lv_iload_n hx hb d_X_cubeRoot_70 rfl (lv_at hl 3 rfl) ?_
          have c_71 : ¬ (a2 < 0 ∨ 8 ≤ a2.toNatClampNeg) := hif_n hF
          replace hF := hif_f c_71 hF
          refine va_iald hx hb hK hP 2 1 rfl rfl c_71 d_X_cubeRoot_71 ?_
          refine lv_iload_n hx hb d_X_cubeRoot_72 rfl (lv_at hl 2 rfl) ?_
          obtain ⟨q_73, hC_73, hF⟩ := hbd hF
          have hPc := hP.sub (ws' := [cX h_X h_M h_P h_E1 h_E2 h_E3 X_lo X_ro X_rc, cL h_M k_M 8 M_f, cI h_P k_P 8 P_f, cE h_E1 E1_sg E1_hi E1_lo E1_pl E1_mo, cE h_E2 E2_sg E2_hi E2_lo E2_pl E2_mo, cE h_E3 E3_sg E3_hi E3_lo E3_pl E3_mo]) [0, 1, 2, 3, 4, 5] rfl
          have hDc := hD.sub (ws' := [cX h_X h_M h_P h_E1 h_E2 h_E3 X_lo X_ro X_rc, cL h_M k_M 8 M_f, cI h_P k_P 8 P_f, cE h_E1 E1_sg E1_hi E1_lo E1_pl E1_mo, cE h_E2 E2_sg E2_hi E2_lo E2_pl E2_mo, cE h_E3 E3_sg E3_hi E3_lo E3_pl E3_mo]) [0, 1, 2, 3, 4, 5] (by decide) rfl
          have hKc := hK.sub (tys' := [(k_M, .long), (k_P, .int)]) [0, 1] rfl
          have hFc := va_free (wc := [cX h_X h_M h_P h_E1 h_E2 h_E3 X_lo X_ro X_rc, cL h_M k_M 8 M_f, cI h_P k_P 8 P_f, cE h_E1 E1_sg E1_hi E1_lo E1_pl E1_mo, cE h_E2 E2_sg E2_hi E2_lo E2_pl E2_mo, cE h_E3 E3_sg E3_hi E3_lo E3_pl E3_mo]) hD hS hA [0, 1, 2, 3, 4, 5] rfl
          refine va_calli (va_runV (As := [.long ((jabs (M_f a2.toNatClampNeg)) - (1 : Int64)), .int (P_f a2.toNatClampNeg), .int a1]) (rest := []) ⟨hx, hb, hml, hown, hts⟩ (c_X_cubeOrder l dC dI h_X h_M h_P h_E1 h_E2 h_E3 k_M k_P H.size X_lo X_ro X_rc M_f P_f E1_sg E1_hi E1_lo E1_pl E1_mo E2_sg E2_hi E2_lo E2_pl E2_mo E3_sg E3_hi E3_lo E3_pl E3_mo ((jabs (M_f a2.toNatClampNeg)) - (1 : Int64)) (P_f a2.toNatClampNeg) a1 q_73 hC_73) (cwV 3 hts g_X_118_X_cubeOrder rfl rfl rfl (by decide +kernel) ⟨Nat.le_of_ble_eq_true rfl, Nat.le_of_ble_eq_true rfl⟩) ⟨fun a U g mk q => by obtain ⟨q0, q1, qP, qK, qD⟩ := q; exact ⟨q0, q1, qP, va_K.moved (u := U) (U := U.calling g mk a) (Vm.Alike.refl U.vm) qK, qD⟩, va_recv hKc hPc (ci := 1) (q0 := 0) rfl rfl, fun U hU hW => ⟨rfl, by rw [hU], by rw [hU]; exact hPc, va_K.moved hW.alike hKc, hDc.weaken (fun _ _ _ _ => trivial)⟩⟩ rfl rfl hl.1 rfl (lv_room (Nat.le_of_ble_eq_true rfl)) d_X_cubeRoot_73 ⟨Nat.zero_le _, Nat.zero_le _⟩) hS (fun q _ h => hFc q h) hFc (fun r u t H1 locs ht hvm hw hB hz1 hk1 hS => ?_)
          obtain ⟨hP1, hK1, hD1⟩ := hB
          replace hw := hw.symm
          subst hw
          rw [ht] at hP1
          obtain ⟨hP, hD⟩ := va_join (wr := []) (w1 := [cX h_X h_M h_P h_E1 h_E2 h_E3 X_lo X_ro X_rc, cL h_M k_M 8 M_f, cI h_P k_P 8 P_f, cE h_E1 q_73.2.1 q_73.2.2.1 q_73.2.2.2.1 q_73.2.2.2.2.1 q_73.2.2.2.2.2.1, cE h_E2 q_73.2.2.2.2.2.2.1 q_73.2.2.2.2.2.2.2.1 q_73.2.2.2.2.2.2.2.2.1 q_73.2.2.2.2.2.2.2.2.2.1 q_73.2.2.2.2.2.2.2.2.2.2.1, cE h_E3 q_73.2.2.2.2.2.2.2.2.2.2.2.1 q_73.2.2.2.2.2.2.2.2.2.2.2.2.1 q_73.2.2.2.2.2.2.2.2.2.2.2.2.2.1 q_73.2.2.2.2.2.2.2.2.2.2.2.2.2.2.1 q_73.2.2.2.2.2.2.2.2.2.2.2.2.2.2.2]) hP hD [0, 1, 2, 3, 4, 5] [] rfl rfl (by decide) (by decide) hk1 hFc hP1 hD1
          generalize H1 = H at hP hS ⊢
          have hP := hP.sub (ws' := [cX h_X h_M h_P h_E1 h_E2 h_E3 X_lo X_ro X_rc, cL h_M k_M 8 M_f, cI h_P k_P 8 P_f, cE h_E1 q_73.2.1 q_73.2.2.1 q_73.2.2.2.1 q_73.2.2.2.2.1 q_73.2.2.2.2.2.1, cE h_E2 q_73.2.2.2.2.2.2.1 q_73.2.2.2.2.2.2.2.1 q_73.2.2.2.2.2.2.2.2.1 q_73.2.2.2.2.2.2.2.2.2.1 q_73.2.2.2.2.2.2.2.2.2.2.1, cE h_E3 q_73.2.2.2.2.2.2.2.2.2.2.2.1 q_73.2.2.2.2.2.2.2.2.2.2.2.2.1 q_73.2.2.2.2.2.2.2.2.2.2.2.2.2.1 q_73.2.2.2.2.2.2.2.2.2.2.2.2.2.2.1 q_73.2.2.2.2.2.2.2.2.2.2.2.2.2.2.2]) [0, 1, 2, 3, 4, 5] rfl
          have hD := hD.sub (ws' := [cX h_X h_M h_P h_E1 h_E2 h_E3 X_lo X_ro X_rc, cL h_M k_M 8 M_f, cI h_P k_P 8 P_f, cE h_E1 q_73.2.1 q_73.2.2.1 q_73.2.2.2.1 q_73.2.2.2.2.1 q_73.2.2.2.2.2.1, cE h_E2 q_73.2.2.2.2.2.2.1 q_73.2.2.2.2.2.2.2.1 q_73.2.2.2.2.2.2.2.2.1 q_73.2.2.2.2.2.2.2.2.2.1 q_73.2.2.2.2.2.2.2.2.2.2.1, cE h_E3 q_73.2.2.2.2.2.2.2.2.2.2.2.1 q_73.2.2.2.2.2.2.2.2.2.2.2.2.1 q_73.2.2.2.2.2.2.2.2.2.2.2.2.2.1 q_73.2.2.2.2.2.2.2.2.2.2.2.2.2.2.1 q_73.2.2.2.2.2.2.2.2.2.2.2.2.2.2.2]) [0, 1, 2, 3, 4, 5] (by decide) rfl
          refine lv_if_ge (tgt := 100) hx hb d_X_cubeRoot_76 (by decide) (fun c_76 => ?_) (fun c_76 => ?_)
          · replace hF := hif_t c_76 hF
            refine lv_iconst (v := (0 : Int32)) hx hb d_X_cubeRoot_100 (by decide) ?_
            refine lv_istore (lv' := [(5, .int (0 : Int32)), (3, .long (jabs (M_f a2.toNatClampNeg))), (0, .ref h_X), (1, .int a1), (2, .int a2)]) hx hb d_X_cubeRoot_101 hl (by decide) rfl (fun ls hl => ?_)
            refine lv_iload hx hb d_X_cubeRoot_103 (lv_at hl 0 rfl) ?_
            refine lv_if_eq (tgt := 112) hx hb d_X_cubeRoot_105 (by decide) (fun c_105 => ?_) (fun c_105 => ?_)
            · refine lv_iconst (v := (0 : Int32)) hx hb d_X_cubeRoot_112 (by decide) ?_
              obtain rfl := Option.some.inj hF
              exact W.iret (v := (0 : Int32)) hx hb hr (fun t ht hW => ⟨⟨(0 : Int32), (), rfl, rfl, by rw [ht]; exact hP, va_K.moved hW.alike hK, hD⟩, hS.F ht⟩) hS.2.2 d_X_cubeRoot_113
            · exact absurd c_105 (by decide)
          · replace hF := hif_f c_76 hF
            refine lv_aload_n hx hb d_X_cubeRoot_79 rfl (lv_at hl 1 rfl) ?_
            refine lv_lload_n hx hb d_X_cubeRoot_80 rfl (lv_at hl 0 rfl) ?_
            refine lv_lconst (v := (1 : Int64)) hx hb d_X_cubeRoot_81 (by decide) ?_
            refine lv_ladd hx hb d_X_cubeRoot_82 ?_
            refine lv_aload_n hx hb d_X_cubeRoot_83 rfl (lv_at hl 1 rfl) ?_
            refine va_get (D := (dC, dI)) (ci := 1) (v := .ref h_P) (C := "RoundedNumbers") (T := F_X) (N := 8) hx hb hts in_X hown hK hP 0 rfl rfl 1 (by decide) (hts _ tw_44) (fun _ h9 => h9) rfl d_X_cubeRoot_84 ?_
            refine lv_iload_n hx hb d_X_cubeRoot_87 rfl (lv_at hl 3 rfl) ?_
            have c_88 : ¬ (a2 < 0 ∨ 8 ≤ a2.toNatClampNeg) := hif_n hF
            replace hF := hif_f c_88 hF
            refine va_iald hx hb hK hP 2 1 rfl rfl c_88 d_X_cubeRoot_88 ?_
            refine lv_iload_n hx hb d_X_cubeRoot_89 rfl (lv_at hl 2 rfl) ?_
            obtain ⟨q_90, hC_90, hF⟩ := hbd hF
            have hPc := hP.sub (ws' := [cX h_X h_M h_P h_E1 h_E2 h_E3 X_lo X_ro X_rc, cL h_M k_M 8 M_f, cI h_P k_P 8 P_f, cE h_E1 q_73.2.1 q_73.2.2.1 q_73.2.2.2.1 q_73.2.2.2.2.1 q_73.2.2.2.2.2.1, cE h_E2 q_73.2.2.2.2.2.2.1 q_73.2.2.2.2.2.2.2.1 q_73.2.2.2.2.2.2.2.2.1 q_73.2.2.2.2.2.2.2.2.2.1 q_73.2.2.2.2.2.2.2.2.2.2.1, cE h_E3 q_73.2.2.2.2.2.2.2.2.2.2.2.1 q_73.2.2.2.2.2.2.2.2.2.2.2.2.1 q_73.2.2.2.2.2.2.2.2.2.2.2.2.2.1 q_73.2.2.2.2.2.2.2.2.2.2.2.2.2.2.1 q_73.2.2.2.2.2.2.2.2.2.2.2.2.2.2.2]) [0, 1, 2, 3, 4, 5] rfl
            have hDc := hD.sub (ws' := [cX h_X h_M h_P h_E1 h_E2 h_E3 X_lo X_ro X_rc, cL h_M k_M 8 M_f, cI h_P k_P 8 P_f, cE h_E1 q_73.2.1 q_73.2.2.1 q_73.2.2.2.1 q_73.2.2.2.2.1 q_73.2.2.2.2.2.1, cE h_E2 q_73.2.2.2.2.2.2.1 q_73.2.2.2.2.2.2.2.1 q_73.2.2.2.2.2.2.2.2.1 q_73.2.2.2.2.2.2.2.2.2.1 q_73.2.2.2.2.2.2.2.2.2.2.1, cE h_E3 q_73.2.2.2.2.2.2.2.2.2.2.2.1 q_73.2.2.2.2.2.2.2.2.2.2.2.2.1 q_73.2.2.2.2.2.2.2.2.2.2.2.2.2.1 q_73.2.2.2.2.2.2.2.2.2.2.2.2.2.2.1 q_73.2.2.2.2.2.2.2.2.2.2.2.2.2.2.2]) [0, 1, 2, 3, 4, 5] (by decide) rfl
            have hKc := hK.sub (tys' := [(k_M, .long), (k_P, .int)]) [0, 1] rfl
            have hFc := va_free (wc := [cX h_X h_M h_P h_E1 h_E2 h_E3 X_lo X_ro X_rc, cL h_M k_M 8 M_f, cI h_P k_P 8 P_f, cE h_E1 q_73.2.1 q_73.2.2.1 q_73.2.2.2.1 q_73.2.2.2.2.1 q_73.2.2.2.2.2.1, cE h_E2 q_73.2.2.2.2.2.2.1 q_73.2.2.2.2.2.2.2.1 q_73.2.2.2.2.2.2.2.2.1 q_73.2.2.2.2.2.2.2.2.2.1 q_73.2.2.2.2.2.2.2.2.2.2.1, cE h_E3 q_73.2.2.2.2.2.2.2.2.2.2.2.1 q_73.2.2.2.2.2.2.2.2.2.2.2.2.1 q_73.2.2.2.2.2.2.2.2.2.2.2.2.2.1 q_73.2.2.2.2.2.2.2.2.2.2.2.2.2.2.1 q_73.2.2.2.2.2.2.2.2.2.2.2.2.2.2.2]) hD hS hA [0, 1, 2, 3, 4, 5] rfl
            refine va_calli (va_runV (As := [.long ((jabs (M_f a2.toNatClampNeg)) + (1 : Int64)), .int (P_f a2.toNatClampNeg), .int a1]) (rest := []) ⟨hx, hb, hml, hown, hts⟩ (c_X_cubeOrder l dC dI h_X h_M h_P h_E1 h_E2 h_E3 k_M k_P H.size X_lo X_ro X_rc M_f P_f q_73.2.1 q_73.2.2.1 q_73.2.2.2.1 q_73.2.2.2.2.1 q_73.2.2.2.2.2.1 q_73.2.2.2.2.2.2.1 q_73.2.2.2.2.2.2.2.1 q_73.2.2.2.2.2.2.2.2.1 q_73.2.2.2.2.2.2.2.2.2.1 q_73.2.2.2.2.2.2.2.2.2.2.1 q_73.2.2.2.2.2.2.2.2.2.2.2.1 q_73.2.2.2.2.2.2.2.2.2.2.2.2.1 q_73.2.2.2.2.2.2.2.2.2.2.2.2.2.1 q_73.2.2.2.2.2.2.2.2.2.2.2.2.2.2.1 q_73.2.2.2.2.2.2.2.2.2.2.2.2.2.2.2 ((jabs (M_f a2.toNatClampNeg)) + (1 : Int64)) (P_f a2.toNatClampNeg) a1 q_90 hC_90) (cwV 3 hts g_X_118_X_cubeOrder rfl rfl rfl (by decide +kernel) ⟨Nat.le_of_ble_eq_true rfl, Nat.le_of_ble_eq_true rfl⟩) ⟨fun a U g mk q => by obtain ⟨q0, q1, qP, qK, qD⟩ := q; exact ⟨q0, q1, qP, va_K.moved (u := U) (U := U.calling g mk a) (Vm.Alike.refl U.vm) qK, qD⟩, va_recv hKc hPc (ci := 1) (q0 := 0) rfl rfl, fun U hU hW => ⟨rfl, by rw [hU], by rw [hU]; exact hPc, va_K.moved hW.alike hKc, hDc.weaken (fun _ _ _ _ => trivial)⟩⟩ rfl rfl hl.1 rfl (lv_room (Nat.le_of_ble_eq_true rfl)) d_X_cubeRoot_90 ⟨Nat.zero_le _, Nat.zero_le _⟩) hS (fun q _ h => hFc q h) hFc (fun r u t H1 locs ht hvm hw hB hz1 hk1 hS => ?_)
            obtain ⟨hP1, hK1, hD1⟩ := hB
            replace hw := hw.symm
            subst hw
            rw [ht] at hP1
            obtain ⟨hP, hD⟩ := va_join (wr := []) (w1 := [cX h_X h_M h_P h_E1 h_E2 h_E3 X_lo X_ro X_rc, cL h_M k_M 8 M_f, cI h_P k_P 8 P_f, cE h_E1 q_90.2.1 q_90.2.2.1 q_90.2.2.2.1 q_90.2.2.2.2.1 q_90.2.2.2.2.2.1, cE h_E2 q_90.2.2.2.2.2.2.1 q_90.2.2.2.2.2.2.2.1 q_90.2.2.2.2.2.2.2.2.1 q_90.2.2.2.2.2.2.2.2.2.1 q_90.2.2.2.2.2.2.2.2.2.2.1, cE h_E3 q_90.2.2.2.2.2.2.2.2.2.2.2.1 q_90.2.2.2.2.2.2.2.2.2.2.2.2.1 q_90.2.2.2.2.2.2.2.2.2.2.2.2.2.1 q_90.2.2.2.2.2.2.2.2.2.2.2.2.2.2.1 q_90.2.2.2.2.2.2.2.2.2.2.2.2.2.2.2]) hP hD [0, 1, 2, 3, 4, 5] [] rfl rfl (by decide) (by decide) hk1 hFc hP1 hD1
            generalize H1 = H at hP hS ⊢
            have hP := hP.sub (ws' := [cX h_X h_M h_P h_E1 h_E2 h_E3 X_lo X_ro X_rc, cL h_M k_M 8 M_f, cI h_P k_P 8 P_f, cE h_E1 q_90.2.1 q_90.2.2.1 q_90.2.2.2.1 q_90.2.2.2.2.1 q_90.2.2.2.2.2.1, cE h_E2 q_90.2.2.2.2.2.2.1 q_90.2.2.2.2.2.2.2.1 q_90.2.2.2.2.2.2.2.2.1 q_90.2.2.2.2.2.2.2.2.2.1 q_90.2.2.2.2.2.2.2.2.2.2.1, cE h_E3 q_90.2.2.2.2.2.2.2.2.2.2.2.1 q_90.2.2.2.2.2.2.2.2.2.2.2.2.1 q_90.2.2.2.2.2.2.2.2.2.2.2.2.2.1 q_90.2.2.2.2.2.2.2.2.2.2.2.2.2.2.1 q_90.2.2.2.2.2.2.2.2.2.2.2.2.2.2.2]) [0, 1, 2, 3, 4, 5] rfl
            have hD := hD.sub (ws' := [cX h_X h_M h_P h_E1 h_E2 h_E3 X_lo X_ro X_rc, cL h_M k_M 8 M_f, cI h_P k_P 8 P_f, cE h_E1 q_90.2.1 q_90.2.2.1 q_90.2.2.2.1 q_90.2.2.2.2.1 q_90.2.2.2.2.2.1, cE h_E2 q_90.2.2.2.2.2.2.1 q_90.2.2.2.2.2.2.2.1 q_90.2.2.2.2.2.2.2.2.1 q_90.2.2.2.2.2.2.2.2.2.1 q_90.2.2.2.2.2.2.2.2.2.2.1, cE h_E3 q_90.2.2.2.2.2.2.2.2.2.2.2.1 q_90.2.2.2.2.2.2.2.2.2.2.2.2.1 q_90.2.2.2.2.2.2.2.2.2.2.2.2.2.1 q_90.2.2.2.2.2.2.2.2.2.2.2.2.2.2.1 q_90.2.2.2.2.2.2.2.2.2.2.2.2.2.2.2]) [0, 1, 2, 3, 4, 5] (by decide) rfl
            refine lv_if_le (tgt := 100) hx hb d_X_cubeRoot_93 (by decide) (fun c_93 => ?_) (fun c_93 => ?_)
            · replace hF := hif_t c_93 hF
              refine lv_iconst (v := (0 : Int32)) hx hb d_X_cubeRoot_100 (by decide) ?_
              refine lv_istore (lv' := [(5, .int (0 : Int32)), (3, .long (jabs (M_f a2.toNatClampNeg))), (0, .ref h_X), (1, .int a1), (2, .int a2)]) hx hb d_X_cubeRoot_101 hl (by decide) rfl (fun ls hl => ?_)
              refine lv_iload hx hb d_X_cubeRoot_103 (lv_at hl 0 rfl) ?_
              refine lv_if_eq (tgt := 112) hx hb d_X_cubeRoot_105 (by decide) (fun c_105 => ?_) (fun c_105 => ?_)
              · refine lv_iconst (v := (0 : Int32)) hx hb d_X_cubeRoot_112 (by decide) ?_
                obtain rfl := Option.some.inj hF
                exact W.iret (v := (0 : Int32)) hx hb hr (fun t ht hW => ⟨⟨(0 : Int32), (), rfl, rfl, by rw [ht]; exact hP, va_K.moved hW.alike hK, hD⟩, hS.F ht⟩) hS.2.2 d_X_cubeRoot_113
              · exact absurd c_105 (by decide)
            · replace hF := hif_f c_93 hF
              refine lv_iconst (v := (1 : Int32)) hx hb d_X_cubeRoot_96 (by decide) ?_
              refine lv_goto (tgt := 101) hx hb d_X_cubeRoot_97 (by decide) ?_
              refine lv_istore (lv' := [(5, .int (1 : Int32)), (3, .long (jabs (M_f a2.toNatClampNeg))), (0, .ref h_X), (1, .int a1), (2, .int a2)]) hx hb d_X_cubeRoot_101 hl (by decide) rfl (fun ls hl => ?_)
              refine lv_iload hx hb d_X_cubeRoot_103 (lv_at hl 0 rfl) ?_
              refine lv_if_eq (tgt := 112) hx hb d_X_cubeRoot_105 (by decide) (fun c_105 => ?_) (fun c_105 => ?_)
              · exact absurd c_105 (by decide)
              · refine lv_iconst (v := (1 : Int32)) hx hb d_X_cubeRoot_108 (by decide) ?_
                refine lv_goto (tgt := 113) hx hb d_X_cubeRoot_109 (by decide) ?_
                obtain rfl := Option.some.inj hF
                exact W.iret (v := (1 : Int32)) hx hb hr (fun t ht hW => ⟨⟨(1 : Int32), (), rfl, rfl, by rw [ht]; exact hP, va_K.moved hW.alike hK, hD⟩, hS.F ht⟩) hS.2.2 d_X_cubeRoot_113
        · replace hF := hif_t c_47 hF
          refine lv_iconst (v := (1 : Int32)) hx hb d_X_cubeRoot_50 (by decide) ?_
          obtain rfl := Option.some.inj hF
          exact W.iret (v := (1 : Int32)) hx hb hr (fun t ht hW => ⟨⟨(1 : Int32), (), rfl, rfl, by rw [ht]; exact hP, va_K.moved hW.alike hK, hD⟩, hS.F ht⟩) hS.2.2 d_X_cubeRoot_51
      · replace hF := hif_f c_34 hF
        refine lv_iconst (v := (0 : Int32)) hx hb d_X_cubeRoot_37 (by decide) ?_
        obtain rfl := Option.some.inj hF
        exact W.iret (v := (0 : Int32)) hx hb hr (fun t ht hW => ⟨⟨(0 : Int32), (), rfl, rfl, by rw [ht]; exact hP, va_K.moved hW.alike hK, hD⟩, hS.F ht⟩) hS.2.2 d_X_cubeRoot_38
    · replace hF := hif_t c_11 hF
      refine lv_iconst (v := (-1 : Int32)) hx hb d_X_cubeRoot_14 (by decide) ?_
      obtain rfl := Option.some.inj hF
      exact W.iret (v := (-1 : Int32)) hx hb hr (fun t ht hW => ⟨⟨(-1 : Int32), (), rfl, rfl, by rw [ht]; exact hP, va_K.moved hW.alike hK, hD⟩, hS.F ht⟩) hS.2.2 d_X_cubeRoot_15
set_option maxHeartbeats 4000000 in
set_option maxRecDepth 100000 in
theorem c_X_compare (l : Launch) (dC : Nat → ClassId) (dI : Nat → Nat → Nat) (h_X : Nat) (h_M : Nat) (h_P : Nat) (h_E1 : Nat) (h_E2 : Nat) (h_E3 : Nat) (k_M : ClassId) (k_P : ClassId) (sz : Nat) (X_lo : Int32) (X_ro : Int32) (X_rc : Int32) (M_f : Nat → Int64) (P_f : Nat → Int32) (a1 : Int32) (a2 : Int32) (o : Int32) (hF : f_X_compare M_f P_f a1 a2 = some o) : Met l y_X_compare w_X_compare ({ frames := 1, cells := 0, slots := 0, locals := 23 } : Room) (va_Pc [.ref h_X, .int a1, .int a2] (fun U => U.heap.size = sz ∧ va_P (dC, dI) classes [cX h_X h_M h_P h_E1 h_E2 h_E3 X_lo X_ro X_rc, cL h_M k_M 8 M_f, cI h_P k_P 8 P_f] U.heap ∧ va_K (dC, dI) classes [(k_M, .long), (k_P, .int)] U ∧ va_D (fun _ => True) [cX h_X h_M h_P h_E1 h_E2 h_E3 X_lo X_ro X_rc, cL h_M k_M 8 M_f, cI h_P k_P 8 P_f])) (va_Qi (fun (r : Int32) (_ : Unit) => r = o) (fun (_ : Unit) (t : State) => va_P (dC, dI) classes [cX h_X h_M h_P h_E1 h_E2 h_E3 X_lo X_ro X_rc, cL h_M k_M 8 M_f, cI h_P k_P 8 P_f] t.heap ∧ va_K (dC, dI) classes [(k_M, .long), (k_P, .int)] t ∧ va_D (va_A [cX h_X h_M h_P h_E1 h_E2 h_E3 X_lo X_ro X_rc, cL h_M k_M 8 M_f, cI h_P k_P 8 P_f] sz) [cX h_X h_M h_P h_E1 h_E2 h_E3 X_lo X_ro X_rc, cL h_M k_M 8 M_f, cI h_P k_P 8 P_f]) (va_A [cX h_X h_M h_P h_E1 h_E2 h_E3 X_lo X_ro X_rc, cL h_M k_M 8 M_f, cI h_P k_P 8 P_f] sz)) 0 0 (va_A [cX h_X h_M h_P h_E1 h_E2 h_E3 X_lo X_ro X_rc, cL h_M k_M 8 M_f, cI h_P k_P 8 P_f] sz) := by
  refine Met.ofW (cc := prog_1_method_15_code) (maxL := 5) (ret := (some .int)) (by decide) rfl ?_
  intro p e s m args below meth c s₁ B hml hv
  obtain ⟨rfl, hsz, hP, hK, hD0⟩ := hv
  have hx := B.exec
  have hb := B.bytes
  have hr := B.returns
  have hts0 := atoms_spec (ws := w_X_compare) B.pre
  have hts : ∀ w ∈ tb, w.before _ s = true := fun w h => hts0 w (List.mem_cons_of_mem _ h)
  clear hts0
  have hown : s.vm.findClass "RoundedNumbers" = some m.cls := findClass_of_methodNamed B.named
  have hlocks := B.notSynchronized
  subst hsz
  have hD := hD0.self (sz := s.heap.size)
  generalize hAe : va_A [cX h_X h_M h_P h_E1 h_E2 h_E3 X_lo X_ro X_rc, cL h_M k_M 8 M_f, cI h_P k_P 8 P_f] s.heap.size = A at hD ⊢
  have hA : ∀ q : Nat, s.heap.size ≤ q → A q := fun q h => by rw [← hAe]; exact Or.inr h
  clear hAe
  have hS : va_S A s.heap s.heap [] := va_S.rf
  have hP : va_P (dC, dI) classes [cX h_X h_M h_P h_E1 h_E2 h_E3 X_lo X_ro X_rc, cL h_M k_M 8 M_f, cI h_P k_P 8 P_f] s.heap := hP
  have hl := lv_entry ([.ref h_X, .int a1, .int a2]) (n := 5) (Nat.le_of_ble_eq_true rfl)
  rw [lg_entry_eq]
  generalize (lg_sl ([.ref h_X, .int a1, .int a2]) ++ List.replicate (5 - (lg_sl ([.ref h_X, .int a1, .int a2])).length) Slot.unset).toArray = ls at hl ⊢
  have hl : lv_has ls 5 [(0, .ref h_X), (1, .int a1), (2, .int a2)] := hl
  have b_97 : ∀ (x1 : Int32) (x2 : Int32) (M_f : Nat → Int64) (P_f : Nat → Int32) (X_lo : Int32) (X_ro : Int32) (X_rc : Int32) (H : Heap) (locs : List Loc) (ls : Array Slot), va_P (dC, dI) classes [cX h_X h_M h_P h_E1 h_E2 h_E3 X_lo X_ro X_rc, cL h_M k_M 8 M_f, cI h_P k_P 8 P_f] H → va_D A [cX h_X h_M h_P h_E1 h_E2 h_E3 X_lo X_ro X_rc, cL h_M k_M 8 M_f, cI h_P k_P 8 P_f] → va_S A s.heap H locs → lv_has ls 5 [(0, .ref h_X), (1, .int x1), (2, .int x2)] → f_X_compare_97  x1 x2 M_f P_f = some o → W p l e (headSpec w_X_compare ({ frames := 1, cells := 0, slots := 0, locals := 23 } : Room)).room s m ([.ref h_X, .int a1, .int a2] : List Value).toArray below meth c H locs 0 0 (MQ below (va_Qi (fun (r : Int32) (_ : Unit) => r = o) (fun (_ : Unit) (t : State) => va_P (dC, dI) classes [cX h_X h_M h_P h_E1 h_E2 h_E3 X_lo X_ro X_rc, cL h_M k_M 8 M_f, cI h_P k_P 8 P_f] t.heap ∧ va_K (dC, dI) classes [(k_M, .long), (k_P, .int)] t ∧ va_D A [cX h_X h_M h_P h_E1 h_E2 h_E3 X_lo X_ro X_rc, cL h_M k_M 8 M_f, cI h_P k_P 8 P_f]) A) ([.ref h_X, .int a1, .int a2] : List Value).toArray s 0 0 A) (F0 m 97 ls []) := by
    intro x1 x2 M_f P_f X_lo X_ro X_rc H locs ls hP hD hS hl hF
    unfold f_X_compare_97 at hF
    refine lv_aload_n hx hb d_X_compare_97 rfl (lv_at hl 0 rfl) ?_
    refine va_get (D := (dC, dI)) (ci := 1) (v := .ref h_M) (C := "RoundedNumbers") (T := F_X) (N := 8) hx hb hts in_X hown hK hP 0 rfl rfl 0 (by decide) (hts _ tw_43) (fun _ h9 => h9) rfl d_X_compare_98 ?_
    refine lv_iload_n hx hb d_X_compare_101 rfl (lv_at hl 1 rfl) ?_
    have c_102 : ¬ (x1 < 0 ∨ 8 ≤ x1.toNatClampNeg) := hif_n hF
    replace hF := hif_f c_102 hF
    refine va_lald hx hb hK hP 1 0 rfl rfl c_102 d_X_compare_102 ?_
    refine lv_aload_n hx hb d_X_compare_103 rfl (lv_at hl 0 rfl) ?_
    refine va_get (D := (dC, dI)) (ci := 1) (v := .ref h_M) (C := "RoundedNumbers") (T := F_X) (N := 8) hx hb hts in_X hown hK hP 0 rfl rfl 0 (by decide) (hts _ tw_43) (fun _ h9 => h9) rfl d_X_compare_104 ?_
    refine lv_iload_n hx hb d_X_compare_107 rfl (lv_at hl 2 rfl) ?_
    have c_108 : ¬ (x2 < 0 ∨ 8 ≤ x2.toNatClampNeg) := hif_n hF
    replace hF := hif_f c_108 hF
    refine va_lald hx hb hK hP 1 0 rfl rfl c_108 d_X_compare_108 ?_
    obtain ⟨q_109, hC_109, hF⟩ := hbd hF
    have hPc := hP.sub (ws' := []) [] rfl
    have hDc := hD.sub (ws' := []) [] (by decide) rfl
    have hKc := hK.sub (tys' := []) [] rfl
    have hFc := va_free (wc := []) hD hS hA [] rfl
    refine va_calli (va_runS (As := [.long (M_f x1.toNatClampNeg), .long (M_f x2.toNatClampNeg)]) (rest := []) ⟨hx, hb, hml, hown, hts⟩ (c_X_order l dC dI H.size (M_f x1.toNatClampNeg) (M_f x2.toNatClampNeg) q_109 hC_109) (cwS 2 hts g_X_122_X_order rfl rfl rfl (by decide +kernel) ⟨Nat.le_of_ble_eq_true rfl, Nat.le_of_ble_eq_true rfl⟩) ⟨fun a U g mk q => by obtain ⟨q0, q1, qP, qK, qD⟩ := q; exact ⟨q0, q1, qP, va_K.moved (u := U) (U := U.calling g mk a) (Vm.Alike.refl U.vm) qK, qD⟩, fun U hU hW => ⟨rfl, by rw [hU], by rw [hU]; exact hPc, va_K.moved hW.alike hKc, hDc.weaken (fun _ _ _ _ => trivial)⟩⟩ rfl rfl hl.1 rfl (lv_room (Nat.le_of_ble_eq_true rfl)) d_X_compare_109 ⟨Nat.zero_le _, Nat.zero_le _⟩) hS (fun q _ h => hFc q h) hFc (fun r u t H1 locs ht hvm hw hB hz1 hk1 hS => ?_)
    obtain ⟨hP1, hK1, hD1⟩ := hB
    replace hw := hw.symm
    subst hw
    rw [ht] at hP1
    obtain ⟨hP, hD⟩ := va_join (wr := [cX h_X h_M h_P h_E1 h_E2 h_E3 X_lo X_ro X_rc, cL h_M k_M 8 M_f, cI h_P k_P 8 P_f]) (w1 := []) hP hD [] [0, 1, 2] rfl rfl (by decide) (by decide) hk1 hFc hP1 hD1
    generalize H1 = H at hP hS ⊢
    have hP := hP.sub (ws' := [cX h_X h_M h_P h_E1 h_E2 h_E3 X_lo X_ro X_rc, cL h_M k_M 8 M_f, cI h_P k_P 8 P_f]) [0, 1, 2] rfl
    have hD := hD.sub (ws' := [cX h_X h_M h_P h_E1 h_E2 h_E3 X_lo X_ro X_rc, cL h_M k_M 8 M_f, cI h_P k_P 8 P_f]) [0, 1, 2] (by decide) rfl
    obtain rfl := Option.some.inj hF
    exact W.iret (v := q_109) hx hb hr (fun t ht hW => ⟨⟨q_109, (), rfl, rfl, by rw [ht]; exact hP, va_K.moved hW.alike hK, hD⟩, hS.F ht⟩) hS.2.2 d_X_compare_112
  unfold f_X_compare at hF
  refine lv_iload_n hx hb d_X_compare_0 rfl (lv_at hl 1 rfl) ?_
  obtain ⟨q_1, hC_1, hF⟩ := hbd hF
  have hPc := hP.sub (ws' := []) [] rfl
  have hDc := hD.sub (ws' := []) [] (by decide) rfl
  have hKc := hK.sub (tys' := []) [] rfl
  have hFc := va_free (wc := []) hD hS hA [] rfl
  refine va_calli (va_runS (As := [.int a1]) (rest := []) ⟨hx, hb, hml, hown, hts⟩ (c_X_isRegister l dC dI s.heap.size a1 q_1 hC_1) (cwS 1 hts g_X_30_X_isRegister rfl rfl rfl (by decide +kernel) ⟨Nat.le_of_ble_eq_true rfl, Nat.le_of_ble_eq_true rfl⟩) ⟨fun a U g mk q => by obtain ⟨q0, q1, qP, qK, qD⟩ := q; exact ⟨q0, q1, qP, va_K.moved (u := U) (U := U.calling g mk a) (Vm.Alike.refl U.vm) qK, qD⟩, fun U hU hW => ⟨rfl, by rw [hU], by rw [hU]; exact hPc, va_K.moved hW.alike hKc, hDc.weaken (fun _ _ _ _ => trivial)⟩⟩ rfl rfl hl.1 rfl (lv_room (Nat.le_of_ble_eq_true rfl)) d_X_compare_1 ⟨Nat.zero_le _, Nat.zero_le _⟩) hS (fun q _ h => hFc q h) hFc (fun r u t H1 locs ht hvm hw hB hz1 hk1 hS => ?_)
  obtain ⟨hP1, hK1, hD1⟩ := hB
  replace hw := hw.symm
  subst hw
  rw [ht] at hP1
  obtain ⟨hP, hD⟩ := va_join (wr := [cX h_X h_M h_P h_E1 h_E2 h_E3 X_lo X_ro X_rc, cL h_M k_M 8 M_f, cI h_P k_P 8 P_f]) (w1 := []) hP hD [] [0, 1, 2] rfl rfl (by decide) (by decide) hk1 hFc hP1 hD1
  generalize H1 = H at hP hS ⊢
  have hP := hP.sub (ws' := [cX h_X h_M h_P h_E1 h_E2 h_E3 X_lo X_ro X_rc, cL h_M k_M 8 M_f, cI h_P k_P 8 P_f]) [0, 1, 2] rfl
  have hD := hD.sub (ws' := [cX h_X h_M h_P h_E1 h_E2 h_E3 X_lo X_ro X_rc, cL h_M k_M 8 M_f, cI h_P k_P 8 P_f]) [0, 1, 2] (by decide) rfl
  refine lv_if_eq (tgt := 14) hx hb d_X_compare_4 (by decide) (fun c_4 => ?_) (fun c_4 => ?_)
  · replace hF := hif_t c_4 hF
    refine lv_bipush (v := (-2 : Int32)) hx hb d_X_compare_14 (by decide) ?_
    obtain rfl := Option.some.inj hF
    exact W.iret (v := (-2 : Int32)) hx hb hr (fun t ht hW => ⟨⟨(-2 : Int32), (), rfl, rfl, by rw [ht]; exact hP, va_K.moved hW.alike hK, hD⟩, hS.F ht⟩) hS.2.2 d_X_compare_16
  · replace hF := hif_f c_4 hF
    refine lv_iload_n hx hb d_X_compare_7 rfl (lv_at hl 2 rfl) ?_
    obtain ⟨q_8, hC_8, hF⟩ := hbd hF
    have hPc := hP.sub (ws' := []) [] rfl
    have hDc := hD.sub (ws' := []) [] (by decide) rfl
    have hKc := hK.sub (tys' := []) [] rfl
    have hFc := va_free (wc := []) hD hS hA [] rfl
    refine va_calli (va_runS (As := [.int a2]) (rest := []) ⟨hx, hb, hml, hown, hts⟩ (c_X_isRegister l dC dI H.size a2 q_8 hC_8) (cwS 1 hts g_X_30_X_isRegister rfl rfl rfl (by decide +kernel) ⟨Nat.le_of_ble_eq_true rfl, Nat.le_of_ble_eq_true rfl⟩) ⟨fun a U g mk q => by obtain ⟨q0, q1, qP, qK, qD⟩ := q; exact ⟨q0, q1, qP, va_K.moved (u := U) (U := U.calling g mk a) (Vm.Alike.refl U.vm) qK, qD⟩, fun U hU hW => ⟨rfl, by rw [hU], by rw [hU]; exact hPc, va_K.moved hW.alike hKc, hDc.weaken (fun _ _ _ _ => trivial)⟩⟩ rfl rfl hl.1 rfl (lv_room (Nat.le_of_ble_eq_true rfl)) d_X_compare_8 ⟨Nat.zero_le _, Nat.zero_le _⟩) hS (fun q _ h => hFc q h) hFc (fun r u t H1 locs ht hvm hw hB hz1 hk1 hS => ?_)
    obtain ⟨hP1, hK1, hD1⟩ := hB
    replace hw := hw.symm
    subst hw
    rw [ht] at hP1
    obtain ⟨hP, hD⟩ := va_join (wr := [cX h_X h_M h_P h_E1 h_E2 h_E3 X_lo X_ro X_rc, cL h_M k_M 8 M_f, cI h_P k_P 8 P_f]) (w1 := []) hP hD [] [0, 1, 2] rfl rfl (by decide) (by decide) hk1 hFc hP1 hD1
    generalize H1 = H at hP hS ⊢
    have hP := hP.sub (ws' := [cX h_X h_M h_P h_E1 h_E2 h_E3 X_lo X_ro X_rc, cL h_M k_M 8 M_f, cI h_P k_P 8 P_f]) [0, 1, 2] rfl
    have hD := hD.sub (ws' := [cX h_X h_M h_P h_E1 h_E2 h_E3 X_lo X_ro X_rc, cL h_M k_M 8 M_f, cI h_P k_P 8 P_f]) [0, 1, 2] (by decide) rfl
    refine lv_if_ne (tgt := 17) hx hb d_X_compare_11 (by decide) (fun c_11 => ?_) (fun c_11 => ?_)
    · replace hF := hif_f c_11 hF
      refine lv_aload_n hx hb d_X_compare_17 rfl (lv_at hl 0 rfl) ?_
      refine va_get (D := (dC, dI)) (ci := 1) (v := .ref h_M) (C := "RoundedNumbers") (T := F_X) (N := 8) hx hb hts in_X hown hK hP 0 rfl rfl 0 (by decide) (hts _ tw_43) (fun _ h9 => h9) rfl d_X_compare_18 ?_
      refine lv_iload_n hx hb d_X_compare_21 rfl (lv_at hl 1 rfl) ?_
      have c_22 : ¬ (a1 < 0 ∨ 8 ≤ a1.toNatClampNeg) := hif_n hF
      replace hF := hif_f c_22 hF
      refine va_lald hx hb hK hP 1 0 rfl rfl c_22 d_X_compare_22 ?_
      obtain ⟨q_23, hC_23, hF⟩ := hbd hF
      have hPc := hP.sub (ws' := []) [] rfl
      have hDc := hD.sub (ws' := []) [] (by decide) rfl
      have hKc := hK.sub (tys' := []) [] rfl
      have hFc := va_free (wc := []) hD hS hA [] rfl
      refine va_calli (va_runS (As := [.long (M_f a1.toNatClampNeg)]) (rest := []) ⟨hx, hb, hml, hown, hts⟩ (c_J_signum l dC dI H.size (M_f a1.toNatClampNeg) q_23 hC_23) (va_cwS 1 hts g_X_115_JL_signum rfl rfl rfl (by decide +kernel) ⟨Nat.le_of_ble_eq_true rfl, Nat.le_of_ble_eq_true rfl⟩) ⟨fun a U g mk q => by obtain ⟨q0, q1, qP, qK, qD⟩ := q; exact ⟨q0, q1, qP, va_K.moved (u := U) (U := U.calling g mk a) (Vm.Alike.refl U.vm) qK, qD⟩, fun U hU hW => ⟨rfl, by rw [hU], by rw [hU]; exact hPc, va_K.moved hW.alike hKc, hDc.weaken (fun _ _ _ _ => trivial)⟩⟩ rfl rfl hl.1 rfl (lv_room (Nat.le_of_ble_eq_true rfl)) d_X_compare_23 ⟨Nat.zero_le _, Nat.zero_le _⟩) hS (fun q _ h => hFc q h) hFc (fun r u t H1 locs ht hvm hw hB hz1 hk1 hS => ?_)
      obtain ⟨hP1, hK1, hD1⟩ := hB
      replace hw := hw.symm
      subst hw
      rw [ht] at hP1
      obtain ⟨hP, hD⟩ := va_join (wr := [cX h_X h_M h_P h_E1 h_E2 h_E3 X_lo X_ro X_rc, cL h_M k_M 8 M_f, cI h_P k_P 8 P_f]) (w1 := []) hP hD [] [0, 1, 2] rfl rfl (by decide) (by decide) hk1 hFc hP1 hD1
      generalize H1 = H at hP hS ⊢
      have hP := hP.sub (ws' := [cX h_X h_M h_P h_E1 h_E2 h_E3 X_lo X_ro X_rc, cL h_M k_M 8 M_f, cI h_P k_P 8 P_f]) [0, 1, 2] rfl
      have hD := hD.sub (ws' := [cX h_X h_M h_P h_E1 h_E2 h_E3 X_lo X_ro X_rc, cL h_M k_M 8 M_f, cI h_P k_P 8 P_f]) [0, 1, 2] (by decide) rfl
      refine lv_istore_n (lv' := [(3, .int q_23), (0, .ref h_X), (1, .int a1), (2, .int a2)]) hx hb d_X_compare_26 rfl hl (by decide) rfl (fun ls hl => ?_)
      refine lv_aload_n hx hb d_X_compare_27 rfl (lv_at hl 1 rfl) ?_
      refine va_get (D := (dC, dI)) (ci := 1) (v := .ref h_M) (C := "RoundedNumbers") (T := F_X) (N := 8) hx hb hts in_X hown hK hP 0 rfl rfl 0 (by decide) (hts _ tw_43) (fun _ h9 => h9) rfl d_X_compare_28 ?_
      refine lv_iload_n hx hb d_X_compare_31 rfl (lv_at hl 3 rfl) ?_
      have c_32 : ¬ (a2 < 0 ∨ 8 ≤ a2.toNatClampNeg) := hif_n hF
      replace hF := hif_f c_32 hF
      refine va_lald hx hb hK hP 1 0 rfl rfl c_32 d_X_compare_32 ?_
      obtain ⟨q_33, hC_33, hF⟩ := hbd hF
      have hPc := hP.sub (ws' := []) [] rfl
      have hDc := hD.sub (ws' := []) [] (by decide) rfl
      have hKc := hK.sub (tys' := []) [] rfl
      have hFc := va_free (wc := []) hD hS hA [] rfl
      refine va_calli (va_runS (As := [.long (M_f a2.toNatClampNeg)]) (rest := []) ⟨hx, hb, hml, hown, hts⟩ (c_J_signum l dC dI H.size (M_f a2.toNatClampNeg) q_33 hC_33) (va_cwS 1 hts g_X_115_JL_signum rfl rfl rfl (by decide +kernel) ⟨Nat.le_of_ble_eq_true rfl, Nat.le_of_ble_eq_true rfl⟩) ⟨fun a U g mk q => by obtain ⟨q0, q1, qP, qK, qD⟩ := q; exact ⟨q0, q1, qP, va_K.moved (u := U) (U := U.calling g mk a) (Vm.Alike.refl U.vm) qK, qD⟩, fun U hU hW => ⟨rfl, by rw [hU], by rw [hU]; exact hPc, va_K.moved hW.alike hKc, hDc.weaken (fun _ _ _ _ => trivial)⟩⟩ rfl rfl hl.1 rfl (lv_room (Nat.le_of_ble_eq_true rfl)) d_X_compare_33 ⟨Nat.zero_le _, Nat.zero_le _⟩) hS (fun q _ h => hFc q h) hFc (fun r u t H1 locs ht hvm hw hB hz1 hk1 hS => ?_)
      obtain ⟨hP1, hK1, hD1⟩ := hB
      replace hw := hw.symm
      subst hw
      rw [ht] at hP1
      obtain ⟨hP, hD⟩ := va_join (wr := [cX h_X h_M h_P h_E1 h_E2 h_E3 X_lo X_ro X_rc, cL h_M k_M 8 M_f, cI h_P k_P 8 P_f]) (w1 := []) hP hD [] [0, 1, 2] rfl rfl (by decide) (by decide) hk1 hFc hP1 hD1
      generalize H1 = H at hP hS ⊢
      have hP := hP.sub (ws' := [cX h_X h_M h_P h_E1 h_E2 h_E3 X_lo X_ro X_rc, cL h_M k_M 8 M_f, cI h_P k_P 8 P_f]) [0, 1, 2] rfl
      have hD := hD.sub (ws' := [cX h_X h_M h_P h_E1 h_E2 h_E3 X_lo X_ro X_rc, cL h_M k_M 8 M_f, cI h_P k_P 8 P_f]) [0, 1, 2] (by decide) rfl
      refine lv_istore (lv' := [(4, .int q_33), (3, .int q_23), (0, .ref h_X), (1, .int a1), (2, .int a2)]) hx hb d_X_compare_36 hl (by decide) rfl (fun ls hl => ?_)
      refine lv_iload_n hx hb d_X_compare_38 rfl (lv_at hl 1 rfl) ?_
      refine lv_iload hx hb d_X_compare_39 (lv_at hl 0 rfl) ?_
      refine lv_icmp_eq (tgt := 56) hx hb d_X_compare_41 (by decide) (fun c_41 => ?_) (fun c_41 => ?_)
      · replace hF := hif_t c_41 hF
        refine lv_iload_n hx hb d_X_compare_56 rfl (lv_at hl 1 rfl) ?_
        refine lv_if_eq (tgt := 97) hx hb d_X_compare_57 (by decide) (fun c_57 => ?_) (fun c_57 => ?_)
        · replace hF := hif_t c_57 hF
          exact b_97 a1 a2 M_f P_f X_lo X_ro X_rc _ _ _ hP hD hS (lv_sub hl [2, 3, 4] rfl) hF
        · replace hF := hif_f c_57 hF
          refine lv_aload_n hx hb d_X_compare_60 rfl (lv_at hl 2 rfl) ?_
          refine va_get (D := (dC, dI)) (ci := 1) (v := .ref h_P) (C := "RoundedNumbers") (T := F_X) (N := 8) hx hb hts in_X hown hK hP 0 rfl rfl 1 (by decide) (hts _ tw_44) (fun _ h9 => h9) rfl d_X_compare_61 ?_
          refine lv_iload_n hx hb d_X_compare_64 rfl (lv_at hl 3 rfl) ?_
          have c_65 : ¬ (a1 < 0 ∨ 8 ≤ a1.toNatClampNeg) := hif_n hF
          replace hF := hif_f c_65 hF
          refine va_iald hx hb hK hP 2 1 rfl rfl c_65 d_X_compare_65 ?_
          refine lv_aload_n hx hb d_X_compare_66 rfl (lv_at hl 2 rfl) ?_
          refine va_get (D := (dC, dI)) (ci := 1) (v := .ref h_P) (C := "RoundedNumbers") (T := F_X) (N := 8) hx hb hts in_X hown hK hP 0 rfl rfl 1 (by decide) (hts _ tw_44) (fun _ h9 => h9) rfl d_X_compare_67 ?_
          refine lv_iload_n hx hb d_X_compare_70 rfl (lv_at hl 4 rfl) ?_
          have c_71 : ¬ (a2 < 0 ∨ 8 ≤ a2.toNatClampNeg) := hif_n hF
          replace hF := hif_f c_71 hF
          refine va_iald hx hb hK hP 2 1 rfl rfl c_71 d_X_compare_71 ?_
          refine lv_icmp_eq (tgt := 97) hx hb d_X_compare_72 (by decide) (fun c_72 => ?_) (fun c_72 => ?_)
          · replace hF := hif_t c_72 hF
            exact b_97 a1 a2 M_f P_f X_lo X_ro X_rc _ _ _ hP hD hS (lv_sub hl [2, 3, 4] rfl) hF
          · replace hF := hif_f c_72 hF
            refine lv_aload_n hx hb d_X_compare_75 rfl (lv_at hl 2 rfl) ?_
            refine va_get (D := (dC, dI)) (ci := 1) (v := .ref h_P) (C := "RoundedNumbers") (T := F_X) (N := 8) hx hb hts in_X hown hK hP 0 rfl rfl 1 (by decide) (hts _ tw_44) (fun _ h9 => h9) rfl d_X_compare_76 ?_
            refine lv_iload_n hx hb d_X_compare_79 rfl (lv_at hl 3 rfl) ?_
            have c_80 : ¬ (a1 < 0 ∨ 8 ≤ a1.toNatClampNeg) := hif_n hF
            replace hF := hif_f c_80 hF
            refine va_iald hx hb hK hP 2 1 rfl rfl c_80 d_X_compare_80 ?_
            refine lv_aload_n hx hb d_X_compare_81 rfl (lv_at hl 2 rfl) ?_
            refine va_get (D := (dC, dI)) (ci := 1) (v := .ref h_P) (C := "RoundedNumbers") (T := F_X) (N := 8) hx hb hts in_X hown hK hP 0 rfl rfl 1 (by decide) (hts _ tw_44) (fun _ h9 => h9) rfl d_X_compare_82 ?_
            refine lv_iload_n hx hb d_X_compare_85 rfl (lv_at hl 4 rfl) ?_
            have c_86 : ¬ (a2 < 0 ∨ 8 ≤ a2.toNatClampNeg) := hif_n hF
            replace hF := hif_f c_86 hF
            refine va_iald hx hb hK hP 2 1 rfl rfl c_86 d_X_compare_86 ?_
            refine lv_icmp_ge (tgt := 95) hx hb d_X_compare_87 (by decide) (fun c_87 => ?_) (fun c_87 => ?_)
            · replace hF := hif_t c_87 hF
              refine lv_iload_n hx hb d_X_compare_95 rfl (lv_at hl 1 rfl) ?_
              obtain rfl := Option.some.inj hF
              exact W.iret (v := q_23) hx hb hr (fun t ht hW => ⟨⟨q_23, (), rfl, rfl, by rw [ht]; exact hP, va_K.moved hW.alike hK, hD⟩, hS.F ht⟩) hS.2.2 d_X_compare_96
            · replace hF := hif_f c_87 hF
              refine lv_iload_n hx hb d_X_compare_90 rfl (lv_at hl 1 rfl) ?_
              refine lv_ineg hx hb d_X_compare_91 ?_
              refine lv_goto (tgt := 96) hx hb d_X_compare_92 (by decide) ?_
              obtain rfl := Option.some.inj hF
              exact W.iret (v := (-q_23)) hx hb hr (fun t ht hW => ⟨⟨(-q_23), (), rfl, rfl, by rw [ht]; exact hP, va_K.moved hW.alike hK, hD⟩, hS.F ht⟩) hS.2.2 d_X_compare_96
      · replace hF := hif_f c_41 hF
        refine lv_iload_n hx hb d_X_compare_44 rfl (lv_at hl 1 rfl) ?_
        refine lv_iload hx hb d_X_compare_45 (lv_at hl 0 rfl) ?_
        refine lv_icmp_ge (tgt := 54) hx hb d_X_compare_47 (by decide) (fun c_47 => ?_) (fun c_47 => ?_)
        · replace hF := hif_t c_47 hF
          refine lv_iconst (v := (1 : Int32)) hx hb d_X_compare_54 (by decide) ?_
          obtain rfl := Option.some.inj hF
          exact W.iret (v := (1 : Int32)) hx hb hr (fun t ht hW => ⟨⟨(1 : Int32), (), rfl, rfl, by rw [ht]; exact hP, va_K.moved hW.alike hK, hD⟩, hS.F ht⟩) hS.2.2 d_X_compare_55
        · replace hF := hif_f c_47 hF
          refine lv_iconst (v := (-1 : Int32)) hx hb d_X_compare_50 (by decide) ?_
          refine lv_goto (tgt := 55) hx hb d_X_compare_51 (by decide) ?_
          obtain rfl := Option.some.inj hF
          exact W.iret (v := (-1 : Int32)) hx hb hr (fun t ht hW => ⟨⟨(-1 : Int32), (), rfl, rfl, by rw [ht]; exact hP, va_K.moved hW.alike hK, hD⟩, hS.F ht⟩) hS.2.2 d_X_compare_55
    · replace hF := hif_t c_11 hF
      refine lv_bipush (v := (-2 : Int32)) hx hb d_X_compare_14 (by decide) ?_
      obtain rfl := Option.some.inj hF
      exact W.iret (v := (-2 : Int32)) hx hb hr (fun t ht hW => ⟨⟨(-2 : Int32), (), rfl, rfl, by rw [ht]; exact hP, va_K.moved hW.alike hK, hD⟩, hS.F ht⟩) hS.2.2 d_X_compare_16
set_option maxHeartbeats 4000000 in
set_option maxRecDepth 100000 in
theorem c_X_odd (l : Launch) (dC : Nat → ClassId) (dI : Nat → Nat → Nat) (h_X : Nat) (h_M : Nat) (h_P : Nat) (h_E1 : Nat) (h_E2 : Nat) (h_E3 : Nat) (k_M : ClassId) (sz : Nat) (X_lo : Int32) (X_ro : Int32) (X_rc : Int32) (M_f : Nat → Int64) (a1 : Int32) (o : Int64) (hF : f_X_odd M_f a1 = some o) : Met l y_X_odd w_X_odd ({ frames := 2, cells := 0, slots := 0, locals := 43 } : Room) (va_Pc [.ref h_X, .int a1] (fun U => U.heap.size = sz ∧ va_P (dC, dI) classes [cX h_X h_M h_P h_E1 h_E2 h_E3 X_lo X_ro X_rc, cL h_M k_M 8 M_f] U.heap ∧ va_K (dC, dI) classes [(k_M, .long)] U ∧ va_D (fun _ => True) [cX h_X h_M h_P h_E1 h_E2 h_E3 X_lo X_ro X_rc, cL h_M k_M 8 M_f])) (va_Ql (fun (r : Int64) (_ : Unit) => r = o) (fun (_ : Unit) (t : State) => va_P (dC, dI) classes [cX h_X h_M h_P h_E1 h_E2 h_E3 X_lo X_ro X_rc, cL h_M k_M 8 M_f] t.heap ∧ va_K (dC, dI) classes [(k_M, .long)] t ∧ va_D (va_A [cX h_X h_M h_P h_E1 h_E2 h_E3 X_lo X_ro X_rc, cL h_M k_M 8 M_f] sz) [cX h_X h_M h_P h_E1 h_E2 h_E3 X_lo X_ro X_rc, cL h_M k_M 8 M_f]) (va_A [cX h_X h_M h_P h_E1 h_E2 h_E3 X_lo X_ro X_rc, cL h_M k_M 8 M_f] sz)) 0 0 (va_A [cX h_X h_M h_P h_E1 h_E2 h_E3 X_lo X_ro X_rc, cL h_M k_M 8 M_f] sz) := by
  refine Met.ofW (cc := prog_1_method_16_code) (maxL := 2) (ret := (some .long)) (by decide) rfl ?_
  intro p e s m args below meth c s₁ B hml hv
  obtain ⟨rfl, hsz, hP, hK, hD0⟩ := hv
  have hx := B.exec
  have hb := B.bytes
  have hr := B.returns
  have hts0 := atoms_spec (ws := w_X_odd) B.pre
  have hts : ∀ w ∈ tb, w.before _ s = true := fun w h => hts0 w (List.mem_cons_of_mem _ h)
  clear hts0
  have hown : s.vm.findClass "RoundedNumbers" = some m.cls := findClass_of_methodNamed B.named
  have hlocks := B.notSynchronized
  subst hsz
  have hD := hD0.self (sz := s.heap.size)
  generalize hAe : va_A [cX h_X h_M h_P h_E1 h_E2 h_E3 X_lo X_ro X_rc, cL h_M k_M 8 M_f] s.heap.size = A at hD ⊢
  have hA : ∀ q : Nat, s.heap.size ≤ q → A q := fun q h => by rw [← hAe]; exact Or.inr h
  clear hAe
  have hS : va_S A s.heap s.heap [] := va_S.rf
  have hP : va_P (dC, dI) classes [cX h_X h_M h_P h_E1 h_E2 h_E3 X_lo X_ro X_rc, cL h_M k_M 8 M_f] s.heap := hP
  have hl := lv_entry ([.ref h_X, .int a1]) (n := 2) (Nat.le_of_ble_eq_true rfl)
  rw [lg_entry_eq]
  generalize (lg_sl ([.ref h_X, .int a1]) ++ List.replicate (2 - (lg_sl ([.ref h_X, .int a1])).length) Slot.unset).toArray = ls at hl ⊢
  have hl : lv_has ls 2 [(0, .ref h_X), (1, .int a1)] := hl
  unfold f_X_odd at hF
  refine lv_iload_n hx hb d_X_odd_0 rfl (lv_at hl 1 rfl) ?_
  obtain ⟨q_1, hC_1, hF⟩ := hbd hF
  have hPc := hP.sub (ws' := []) [] rfl
  have hDc := hD.sub (ws' := []) [] (by decide) rfl
  have hKc := hK.sub (tys' := []) [] rfl
  have hFc := va_free (wc := []) hD hS hA [] rfl
  refine va_calli (va_runS (As := [.int a1]) (rest := []) ⟨hx, hb, hml, hown, hts⟩ (c_X_isRegister l dC dI s.heap.size a1 q_1 hC_1) (cwS 1 hts g_X_30_X_isRegister rfl rfl rfl (by decide +kernel) ⟨Nat.le_of_ble_eq_true rfl, Nat.le_of_ble_eq_true rfl⟩) ⟨fun a U g mk q => by obtain ⟨q0, q1, qP, qK, qD⟩ := q; exact ⟨q0, q1, qP, va_K.moved (u := U) (U := U.calling g mk a) (Vm.Alike.refl U.vm) qK, qD⟩, fun U hU hW => ⟨rfl, by rw [hU], by rw [hU]; exact hPc, va_K.moved hW.alike hKc, hDc.weaken (fun _ _ _ _ => trivial)⟩⟩ rfl rfl hl.1 rfl (lv_room (Nat.le_of_ble_eq_true rfl)) d_X_odd_1 ⟨Nat.zero_le _, Nat.zero_le _⟩) hS (fun q _ h => hFc q h) hFc (fun r u t H1 locs ht hvm hw hB hz1 hk1 hS => ?_)
  obtain ⟨hP1, hK1, hD1⟩ := hB
  replace hw := hw.symm
  subst hw
  rw [ht] at hP1
  obtain ⟨hP, hD⟩ := va_join (wr := [cX h_X h_M h_P h_E1 h_E2 h_E3 X_lo X_ro X_rc, cL h_M k_M 8 M_f]) (w1 := []) hP hD [] [0, 1] rfl rfl (by decide) (by decide) hk1 hFc hP1 hD1
  generalize H1 = H at hP hS ⊢
  have hP := hP.sub (ws' := [cX h_X h_M h_P h_E1 h_E2 h_E3 X_lo X_ro X_rc, cL h_M k_M 8 M_f]) [0, 1] rfl
  have hD := hD.sub (ws' := [cX h_X h_M h_P h_E1 h_E2 h_E3 X_lo X_ro X_rc, cL h_M k_M 8 M_f]) [0, 1] (by decide) rfl
  refine lv_if_ne (tgt := 11) hx hb d_X_odd_4 (by decide) (fun c_4 => ?_) (fun c_4 => ?_)
  · replace hF := hif_f c_4 hF
    refine lv_aload_n hx hb d_X_odd_11 rfl (lv_at hl 0 rfl) ?_
    refine va_get (D := (dC, dI)) (ci := 1) (v := .ref h_M) (C := "RoundedNumbers") (T := F_X) (N := 8) hx hb hts in_X hown hK hP 0 rfl rfl 0 (by decide) (hts _ tw_43) (fun _ h9 => h9) rfl d_X_odd_12 ?_
    refine lv_iload_n hx hb d_X_odd_15 rfl (lv_at hl 1 rfl) ?_
    have c_16 : ¬ (a1 < 0 ∨ 8 ≤ a1.toNatClampNeg) := hif_n hF
    replace hF := hif_f c_16 hF
    refine va_lald hx hb hK hP 1 0 rfl rfl c_16 d_X_odd_16 ?_
    refine lv_lconst (v := (0 : Int64)) hx hb d_X_odd_17 (by decide) ?_
    refine W.lcmp hx hb d_X_odd_18 ?_
    refine lv_if_ne (tgt := 26) hx hb d_X_odd_19 (by decide) (fun c_19 => ?_) (fun c_19 => ?_)
    · replace hF := hif_f c_19 hF
      refine lv_aload_n hx hb d_X_odd_26 rfl (lv_at hl 0 rfl) ?_
      refine va_get (D := (dC, dI)) (ci := 1) (v := .ref h_M) (C := "RoundedNumbers") (T := F_X) (N := 8) hx hb hts in_X hown hK hP 0 rfl rfl 0 (by decide) (hts _ tw_43) (fun _ h9 => h9) rfl d_X_odd_27 ?_
      refine lv_iload_n hx hb d_X_odd_30 rfl (lv_at hl 1 rfl) ?_
      have c_31 : ¬ (a1 < 0 ∨ 8 ≤ a1.toNatClampNeg) := hif_n hF
      replace hF := hif_f c_31 hF
      refine va_lald hx hb hK hP 1 0 rfl rfl c_31 d_X_odd_31 ?_
      refine lv_aload_n hx hb d_X_odd_32 rfl (lv_at hl 0 rfl) ?_
      refine va_get (D := (dC, dI)) (ci := 1) (v := .ref h_M) (C := "RoundedNumbers") (T := F_X) (N := 8) hx hb hts in_X hown hK hP 0 rfl rfl 0 (by decide) (hts _ tw_43) (fun _ h9 => h9) rfl d_X_odd_33 ?_
      refine lv_iload_n hx hb d_X_odd_36 rfl (lv_at hl 1 rfl) ?_
      have c_37 : ¬ (a1 < 0 ∨ 8 ≤ a1.toNatClampNeg) := hif_n hF
      replace hF := hif_f c_37 hF
      refine va_lald hx hb hK hP 1 0 rfl rfl c_37 d_X_odd_37 ?_
      obtain ⟨q_38, hC_38, hF⟩ := hbd hF
      have hPc := hP.sub (ws' := []) [] rfl
      have hDc := hD.sub (ws' := []) [] (by decide) rfl
      have hKc := hK.sub (tys' := []) [] rfl
      have hFc := va_free (wc := []) hD hS hA [] rfl
      refine va_calli (va_runS (As := [.long (M_f a1.toNatClampNeg)]) (rest := [.long (M_f a1.toNatClampNeg)]) ⟨hx, hb, hml, hown, hts⟩ (c_J_ntz l dC dI H.size (M_f a1.toNatClampNeg) q_38 hC_38) (va_cwS 1 hts g_X_128_JL_numberOfTrailingZeros rfl rfl rfl (by decide +kernel) ⟨Nat.le_of_ble_eq_true rfl, Nat.le_of_ble_eq_true rfl⟩) ⟨fun a U g mk q => by obtain ⟨q0, q1, qP, qK, qD⟩ := q; exact ⟨q0, q1, qP, va_K.moved (u := U) (U := U.calling g mk a) (Vm.Alike.refl U.vm) qK, qD⟩, fun U hU hW => ⟨rfl, by rw [hU], by rw [hU]; exact hPc, va_K.moved hW.alike hKc, hDc.weaken (fun _ _ _ _ => trivial)⟩⟩ rfl rfl hl.1 rfl (lv_room (Nat.le_of_ble_eq_true rfl)) d_X_odd_38 ⟨Nat.zero_le _, Nat.zero_le _⟩) hS (fun q _ h => hFc q h) hFc (fun r u t H1 locs ht hvm hw hB hz1 hk1 hS => ?_)
      obtain ⟨hP1, hK1, hD1⟩ := hB
      replace hw := hw.symm
      subst hw
      rw [ht] at hP1
      obtain ⟨hP, hD⟩ := va_join (wr := [cX h_X h_M h_P h_E1 h_E2 h_E3 X_lo X_ro X_rc, cL h_M k_M 8 M_f]) (w1 := []) hP hD [] [0, 1] rfl rfl (by decide) (by decide) hk1 hFc hP1 hD1
      generalize H1 = H at hP hS ⊢
      have hP := hP.sub (ws' := [cX h_X h_M h_P h_E1 h_E2 h_E3 X_lo X_ro X_rc, cL h_M k_M 8 M_f]) [0, 1] rfl
      have hD := hD.sub (ws' := [cX h_X h_M h_P h_E1 h_E2 h_E3 X_lo X_ro X_rc, cL h_M k_M 8 M_f]) [0, 1] (by decide) rfl
      refine lv_lshr (v := (jshr (M_f a1.toNatClampNeg) q_38)) hx hb d_X_odd_41 rfl ?_
      obtain rfl := Option.some.inj hF
      exact W.lret (v := (jshr (M_f a1.toNatClampNeg) q_38)) hx hb hr (fun t ht hW => ⟨⟨(jshr (M_f a1.toNatClampNeg) q_38), (), rfl, rfl, by rw [ht]; exact hP, va_K.moved hW.alike hK, hD⟩, hS.F ht⟩) hS.2.2 d_X_odd_42
    · replace hF := hif_t c_19 hF
      refine lv_lconst (v := (0 : Int64)) hx hb d_X_odd_22 (by decide) ?_
      refine lv_goto (tgt := 42) hx hb d_X_odd_23 (by decide) ?_
      obtain rfl := Option.some.inj hF
      exact W.lret (v := (0 : Int64)) hx hb hr (fun t ht hW => ⟨⟨(0 : Int64), (), rfl, rfl, by rw [ht]; exact hP, va_K.moved hW.alike hK, hD⟩, hS.F ht⟩) hS.2.2 d_X_odd_42
  · replace hF := hif_t c_4 hF
    refine lv_ldc2 (v := (-4611686018427387904 : Int64)) hx hb hown (hts _ tw_272) d_X_odd_7 ?_
    obtain rfl := Option.some.inj hF
    exact W.lret (v := (-4611686018427387904 : Int64)) hx hb hr (fun t ht hW => ⟨⟨(-4611686018427387904 : Int64), (), rfl, rfl, by rw [ht]; exact hP, va_K.moved hW.alike hK, hD⟩, hS.F ht⟩) hS.2.2 d_X_odd_10
set_option maxHeartbeats 4000000 in
set_option maxRecDepth 100000 in
theorem c_X_exponent (l : Launch) (dC : Nat → ClassId) (dI : Nat → Nat → Nat) (h_X : Nat) (h_M : Nat) (h_P : Nat) (h_E1 : Nat) (h_E2 : Nat) (h_E3 : Nat) (k_M : ClassId) (k_P : ClassId) (sz : Nat) (X_lo : Int32) (X_ro : Int32) (X_rc : Int32) (M_f : Nat → Int64) (P_f : Nat → Int32) (a1 : Int32) (o : Int64) (hF : f_X_exponent M_f P_f a1 = some o) : Met l y_X_exponent w_X_exponent ({ frames := 2, cells := 0, slots := 0, locals := 43 } : Room) (va_Pc [.ref h_X, .int a1] (fun U => U.heap.size = sz ∧ va_P (dC, dI) classes [cX h_X h_M h_P h_E1 h_E2 h_E3 X_lo X_ro X_rc, cL h_M k_M 8 M_f, cI h_P k_P 8 P_f] U.heap ∧ va_K (dC, dI) classes [(k_M, .long), (k_P, .int)] U ∧ va_D (fun _ => True) [cX h_X h_M h_P h_E1 h_E2 h_E3 X_lo X_ro X_rc, cL h_M k_M 8 M_f, cI h_P k_P 8 P_f])) (va_Ql (fun (r : Int64) (_ : Unit) => r = o) (fun (_ : Unit) (t : State) => va_P (dC, dI) classes [cX h_X h_M h_P h_E1 h_E2 h_E3 X_lo X_ro X_rc, cL h_M k_M 8 M_f, cI h_P k_P 8 P_f] t.heap ∧ va_K (dC, dI) classes [(k_M, .long), (k_P, .int)] t ∧ va_D (va_A [cX h_X h_M h_P h_E1 h_E2 h_E3 X_lo X_ro X_rc, cL h_M k_M 8 M_f, cI h_P k_P 8 P_f] sz) [cX h_X h_M h_P h_E1 h_E2 h_E3 X_lo X_ro X_rc, cL h_M k_M 8 M_f, cI h_P k_P 8 P_f]) (va_A [cX h_X h_M h_P h_E1 h_E2 h_E3 X_lo X_ro X_rc, cL h_M k_M 8 M_f, cI h_P k_P 8 P_f] sz)) 0 0 (va_A [cX h_X h_M h_P h_E1 h_E2 h_E3 X_lo X_ro X_rc, cL h_M k_M 8 M_f, cI h_P k_P 8 P_f] sz) := by
  refine Met.ofW (cc := prog_1_method_17_code) (maxL := 2) (ret := (some .long)) (by decide) rfl ?_
  intro p e s m args below meth c s₁ B hml hv
  obtain ⟨rfl, hsz, hP, hK, hD0⟩ := hv
  have hx := B.exec
  have hb := B.bytes
  have hr := B.returns
  have hts0 := atoms_spec (ws := w_X_exponent) B.pre
  have hts : ∀ w ∈ tb, w.before _ s = true := fun w h => hts0 w (List.mem_cons_of_mem _ h)
  clear hts0
  have hown : s.vm.findClass "RoundedNumbers" = some m.cls := findClass_of_methodNamed B.named
  have hlocks := B.notSynchronized
  subst hsz
  have hD := hD0.self (sz := s.heap.size)
  generalize hAe : va_A [cX h_X h_M h_P h_E1 h_E2 h_E3 X_lo X_ro X_rc, cL h_M k_M 8 M_f, cI h_P k_P 8 P_f] s.heap.size = A at hD ⊢
  have hA : ∀ q : Nat, s.heap.size ≤ q → A q := fun q h => by rw [← hAe]; exact Or.inr h
  clear hAe
  have hS : va_S A s.heap s.heap [] := va_S.rf
  have hP : va_P (dC, dI) classes [cX h_X h_M h_P h_E1 h_E2 h_E3 X_lo X_ro X_rc, cL h_M k_M 8 M_f, cI h_P k_P 8 P_f] s.heap := hP
  have hl := lv_entry ([.ref h_X, .int a1]) (n := 2) (Nat.le_of_ble_eq_true rfl)
  rw [lg_entry_eq]
  generalize (lg_sl ([.ref h_X, .int a1]) ++ List.replicate (2 - (lg_sl ([.ref h_X, .int a1])).length) Slot.unset).toArray = ls at hl ⊢
  have hl : lv_has ls 2 [(0, .ref h_X), (1, .int a1)] := hl
  unfold f_X_exponent at hF
  refine lv_iload_n hx hb d_X_exponent_0 rfl (lv_at hl 1 rfl) ?_
  obtain ⟨q_1, hC_1, hF⟩ := hbd hF
  have hPc := hP.sub (ws' := []) [] rfl
  have hDc := hD.sub (ws' := []) [] (by decide) rfl
  have hKc := hK.sub (tys' := []) [] rfl
  have hFc := va_free (wc := []) hD hS hA [] rfl
  refine va_calli (va_runS (As := [.int a1]) (rest := []) ⟨hx, hb, hml, hown, hts⟩ (c_X_isRegister l dC dI s.heap.size a1 q_1 hC_1) (cwS 1 hts g_X_30_X_isRegister rfl rfl rfl (by decide +kernel) ⟨Nat.le_of_ble_eq_true rfl, Nat.le_of_ble_eq_true rfl⟩) ⟨fun a U g mk q => by obtain ⟨q0, q1, qP, qK, qD⟩ := q; exact ⟨q0, q1, qP, va_K.moved (u := U) (U := U.calling g mk a) (Vm.Alike.refl U.vm) qK, qD⟩, fun U hU hW => ⟨rfl, by rw [hU], by rw [hU]; exact hPc, va_K.moved hW.alike hKc, hDc.weaken (fun _ _ _ _ => trivial)⟩⟩ rfl rfl hl.1 rfl (lv_room (Nat.le_of_ble_eq_true rfl)) d_X_exponent_1 ⟨Nat.zero_le _, Nat.zero_le _⟩) hS (fun q _ h => hFc q h) hFc (fun r u t H1 locs ht hvm hw hB hz1 hk1 hS => ?_)
  obtain ⟨hP1, hK1, hD1⟩ := hB
  replace hw := hw.symm
  subst hw
  rw [ht] at hP1
  obtain ⟨hP, hD⟩ := va_join (wr := [cX h_X h_M h_P h_E1 h_E2 h_E3 X_lo X_ro X_rc, cL h_M k_M 8 M_f, cI h_P k_P 8 P_f]) (w1 := []) hP hD [] [0, 1, 2] rfl rfl (by decide) (by decide) hk1 hFc hP1 hD1
  generalize H1 = H at hP hS ⊢
  have hP := hP.sub (ws' := [cX h_X h_M h_P h_E1 h_E2 h_E3 X_lo X_ro X_rc, cL h_M k_M 8 M_f, cI h_P k_P 8 P_f]) [0, 1, 2] rfl
  have hD := hD.sub (ws' := [cX h_X h_M h_P h_E1 h_E2 h_E3 X_lo X_ro X_rc, cL h_M k_M 8 M_f, cI h_P k_P 8 P_f]) [0, 1, 2] (by decide) rfl
  refine lv_if_ne (tgt := 11) hx hb d_X_exponent_4 (by decide) (fun c_4 => ?_) (fun c_4 => ?_)
  · replace hF := hif_f c_4 hF
    refine lv_aload_n hx hb d_X_exponent_11 rfl (lv_at hl 0 rfl) ?_
    refine va_get (D := (dC, dI)) (ci := 1) (v := .ref h_M) (C := "RoundedNumbers") (T := F_X) (N := 8) hx hb hts in_X hown hK hP 0 rfl rfl 0 (by decide) (hts _ tw_43) (fun _ h9 => h9) rfl d_X_exponent_12 ?_
    refine lv_iload_n hx hb d_X_exponent_15 rfl (lv_at hl 1 rfl) ?_
    have c_16 : ¬ (a1 < 0 ∨ 8 ≤ a1.toNatClampNeg) := hif_n hF
    replace hF := hif_f c_16 hF
    refine va_lald hx hb hK hP 1 0 rfl rfl c_16 d_X_exponent_16 ?_
    refine lv_lconst (v := (0 : Int64)) hx hb d_X_exponent_17 (by decide) ?_
    refine W.lcmp hx hb d_X_exponent_18 ?_
    refine lv_if_ne (tgt := 26) hx hb d_X_exponent_19 (by decide) (fun c_19 => ?_) (fun c_19 => ?_)
    · replace hF := hif_f c_19 hF
      refine lv_aload_n hx hb d_X_exponent_26 rfl (lv_at hl 0 rfl) ?_
      refine va_get (D := (dC, dI)) (ci := 1) (v := .ref h_P) (C := "RoundedNumbers") (T := F_X) (N := 8) hx hb hts in_X hown hK hP 0 rfl rfl 1 (by decide) (hts _ tw_44) (fun _ h9 => h9) rfl d_X_exponent_27 ?_
      refine lv_iload_n hx hb d_X_exponent_30 rfl (lv_at hl 1 rfl) ?_
      have c_31 : ¬ (a1 < 0 ∨ 8 ≤ a1.toNatClampNeg) := hif_n hF
      replace hF := hif_f c_31 hF
      refine va_iald hx hb hK hP 2 1 rfl rfl c_31 d_X_exponent_31 ?_
      refine lv_aload_n hx hb d_X_exponent_32 rfl (lv_at hl 0 rfl) ?_
      refine va_get (D := (dC, dI)) (ci := 1) (v := .ref h_M) (C := "RoundedNumbers") (T := F_X) (N := 8) hx hb hts in_X hown hK hP 0 rfl rfl 0 (by decide) (hts _ tw_43) (fun _ h9 => h9) rfl d_X_exponent_33 ?_
      refine lv_iload_n hx hb d_X_exponent_36 rfl (lv_at hl 1 rfl) ?_
      have c_37 : ¬ (a1 < 0 ∨ 8 ≤ a1.toNatClampNeg) := hif_n hF
      replace hF := hif_f c_37 hF
      refine va_lald hx hb hK hP 1 0 rfl rfl c_37 d_X_exponent_37 ?_
      obtain ⟨q_38, hC_38, hF⟩ := hbd hF
      have hPc := hP.sub (ws' := []) [] rfl
      have hDc := hD.sub (ws' := []) [] (by decide) rfl
      have hKc := hK.sub (tys' := []) [] rfl
      have hFc := va_free (wc := []) hD hS hA [] rfl
      refine va_calli (va_runS (As := [.long (M_f a1.toNatClampNeg)]) (rest := [.int (P_f a1.toNatClampNeg)]) ⟨hx, hb, hml, hown, hts⟩ (c_J_ntz l dC dI H.size (M_f a1.toNatClampNeg) q_38 hC_38) (va_cwS 1 hts g_X_128_JL_numberOfTrailingZeros rfl rfl rfl (by decide +kernel) ⟨Nat.le_of_ble_eq_true rfl, Nat.le_of_ble_eq_true rfl⟩) ⟨fun a U g mk q => by obtain ⟨q0, q1, qP, qK, qD⟩ := q; exact ⟨q0, q1, qP, va_K.moved (u := U) (U := U.calling g mk a) (Vm.Alike.refl U.vm) qK, qD⟩, fun U hU hW => ⟨rfl, by rw [hU], by rw [hU]; exact hPc, va_K.moved hW.alike hKc, hDc.weaken (fun _ _ _ _ => trivial)⟩⟩ rfl rfl hl.1 rfl (lv_room (Nat.le_of_ble_eq_true rfl)) d_X_exponent_38 ⟨Nat.zero_le _, Nat.zero_le _⟩) hS (fun q _ h => hFc q h) hFc (fun r u t H1 locs ht hvm hw hB hz1 hk1 hS => ?_)
      obtain ⟨hP1, hK1, hD1⟩ := hB
      replace hw := hw.symm
      subst hw
      rw [ht] at hP1
      obtain ⟨hP, hD⟩ := va_join (wr := [cX h_X h_M h_P h_E1 h_E2 h_E3 X_lo X_ro X_rc, cL h_M k_M 8 M_f, cI h_P k_P 8 P_f]) (w1 := []) hP hD [] [0, 1, 2] rfl rfl (by decide) (by decide) hk1 hFc hP1 hD1
      generalize H1 = H at hP hS ⊢
      have hP := hP.sub (ws' := [cX h_X h_M h_P h_E1 h_E2 h_E3 X_lo X_ro X_rc, cL h_M k_M 8 M_f, cI h_P k_P 8 P_f]) [0, 1, 2] rfl
      have hD := hD.sub (ws' := [cX h_X h_M h_P h_E1 h_E2 h_E3 X_lo X_ro X_rc, cL h_M k_M 8 M_f, cI h_P k_P 8 P_f]) [0, 1, 2] (by decide) rfl
      refine lv_iadd hx hb d_X_exponent_41 ?_
      refine lv_i2l (v := ((P_f a1.toNatClampNeg) + q_38).toInt64) hx hb d_X_exponent_42 rfl ?_
      obtain rfl := Option.some.inj hF
      exact W.lret (v := ((P_f a1.toNatClampNeg) + q_38).toInt64) hx hb hr (fun t ht hW => ⟨⟨((P_f a1.toNatClampNeg) + q_38).toInt64, (), rfl, rfl, by rw [ht]; exact hP, va_K.moved hW.alike hK, hD⟩, hS.F ht⟩) hS.2.2 d_X_exponent_43
    · replace hF := hif_t c_19 hF
      refine lv_lconst (v := (0 : Int64)) hx hb d_X_exponent_22 (by decide) ?_
      refine lv_goto (tgt := 43) hx hb d_X_exponent_23 (by decide) ?_
      obtain rfl := Option.some.inj hF
      exact W.lret (v := (0 : Int64)) hx hb hr (fun t ht hW => ⟨⟨(0 : Int64), (), rfl, rfl, by rw [ht]; exact hP, va_K.moved hW.alike hK, hD⟩, hS.F ht⟩) hS.2.2 d_X_exponent_43
  · replace hF := hif_t c_4 hF
    refine lv_ldc2 (v := (-4611686018427387904 : Int64)) hx hb hown (hts _ tw_272) d_X_exponent_7 ?_
    obtain rfl := Option.some.inj hF
    exact W.lret (v := (-4611686018427387904 : Int64)) hx hb hr (fun t ht hW => ⟨⟨(-4611686018427387904 : Int64), (), rfl, rfl, by rw [ht]; exact hP, va_K.moved hW.alike hK, hD⟩, hS.F ht⟩) hS.2.2 d_X_exponent_10
set_option maxHeartbeats 4000000 in
set_option maxRecDepth 100000 in
theorem c_X_whole (l : Launch) (dC : Nat → ClassId) (dI : Nat → Nat → Nat) (h_X : Nat) (h_M : Nat) (h_P : Nat) (h_E1 : Nat) (h_E2 : Nat) (h_E3 : Nat) (k_M : ClassId) (k_P : ClassId) (sz : Nat) (X_lo : Int32) (X_ro : Int32) (X_rc : Int32) (M_f : Nat → Int64) (P_f : Nat → Int32) (a1 : Int32) (a2 : Int32) (o : Int64) (hF : f_X_whole M_f P_f a1 a2 = some o) : Met l y_X_whole w_X_whole ({ frames := 1, cells := 0, slots := 0, locals := 23 } : Room) (va_Pc [.ref h_X, .int a1, .int a2] (fun U => U.heap.size = sz ∧ va_P (dC, dI) classes [cX h_X h_M h_P h_E1 h_E2 h_E3 X_lo X_ro X_rc, cL h_M k_M 8 M_f, cI h_P k_P 8 P_f] U.heap ∧ va_K (dC, dI) classes [(k_M, .long), (k_P, .int)] U ∧ va_D (fun _ => True) [cX h_X h_M h_P h_E1 h_E2 h_E3 X_lo X_ro X_rc, cL h_M k_M 8 M_f, cI h_P k_P 8 P_f])) (va_Ql (fun (r : Int64) (_ : Unit) => r = o) (fun (_ : Unit) (t : State) => va_P (dC, dI) classes [cX h_X h_M h_P h_E1 h_E2 h_E3 X_lo X_ro X_rc, cL h_M k_M 8 M_f, cI h_P k_P 8 P_f] t.heap ∧ va_K (dC, dI) classes [(k_M, .long), (k_P, .int)] t ∧ va_D (va_A [cX h_X h_M h_P h_E1 h_E2 h_E3 X_lo X_ro X_rc, cL h_M k_M 8 M_f, cI h_P k_P 8 P_f] sz) [cX h_X h_M h_P h_E1 h_E2 h_E3 X_lo X_ro X_rc, cL h_M k_M 8 M_f, cI h_P k_P 8 P_f]) (va_A [cX h_X h_M h_P h_E1 h_E2 h_E3 X_lo X_ro X_rc, cL h_M k_M 8 M_f, cI h_P k_P 8 P_f] sz)) 0 0 (va_A [cX h_X h_M h_P h_E1 h_E2 h_E3 X_lo X_ro X_rc, cL h_M k_M 8 M_f, cI h_P k_P 8 P_f] sz) := by
  refine Met.ofW (cc := prog_1_method_18_code) (maxL := 11) (ret := (some .long)) (by decide) rfl ?_
  intro p e s m args below meth c s₁ B hml hv
  obtain ⟨rfl, hsz, hP, hK, hD0⟩ := hv
  have hx := B.exec
  have hb := B.bytes
  have hr := B.returns
  have hts0 := atoms_spec (ws := w_X_whole) B.pre
  have hts : ∀ w ∈ tb, w.before _ s = true := fun w h => hts0 w (List.mem_cons_of_mem _ h)
  clear hts0
  have hown : s.vm.findClass "RoundedNumbers" = some m.cls := findClass_of_methodNamed B.named
  have hlocks := B.notSynchronized
  subst hsz
  have hD := hD0.self (sz := s.heap.size)
  generalize hAe : va_A [cX h_X h_M h_P h_E1 h_E2 h_E3 X_lo X_ro X_rc, cL h_M k_M 8 M_f, cI h_P k_P 8 P_f] s.heap.size = A at hD ⊢
  have hA : ∀ q : Nat, s.heap.size ≤ q → A q := fun q h => by rw [← hAe]; exact Or.inr h
  clear hAe
  have hS : va_S A s.heap s.heap [] := va_S.rf
  have hP : va_P (dC, dI) classes [cX h_X h_M h_P h_E1 h_E2 h_E3 X_lo X_ro X_rc, cL h_M k_M 8 M_f, cI h_P k_P 8 P_f] s.heap := hP
  have hl := lv_entry ([.ref h_X, .int a1, .int a2]) (n := 11) (Nat.le_of_ble_eq_true rfl)
  rw [lg_entry_eq]
  generalize (lg_sl ([.ref h_X, .int a1, .int a2]) ++ List.replicate (11 - (lg_sl ([.ref h_X, .int a1, .int a2])).length) Slot.unset).toArray = ls at hl ⊢
  have hl : lv_has ls 11 [(0, .ref h_X), (1, .int a1), (2, .int a2)] := hl
  have b_107 : ∀ (x3 : Int64) (x5 : Int64) (y0 : Int64) (M_f : Nat → Int64) (P_f : Nat → Int32) (X_lo : Int32) (X_ro : Int32) (X_rc : Int32) (H : Heap) (locs : List Loc) (ls : Array Slot), va_P (dC, dI) classes [cX h_X h_M h_P h_E1 h_E2 h_E3 X_lo X_ro X_rc, cL h_M k_M 8 M_f, cI h_P k_P 8 P_f] H → va_D A [cX h_X h_M h_P h_E1 h_E2 h_E3 X_lo X_ro X_rc, cL h_M k_M 8 M_f, cI h_P k_P 8 P_f] → va_S A s.heap H locs → lv_has ls 11 [(3, .long x3), (5, .long x5)] → f_X_whole_107  x3 x5 y0 M_f P_f = some o → W p l e (headSpec w_X_whole ({ frames := 1, cells := 0, slots := 0, locals := 23 } : Room)).room s m ([.ref h_X, .int a1, .int a2] : List Value).toArray below meth c H locs 0 0 (MQ below (va_Ql (fun (r : Int64) (_ : Unit) => r = o) (fun (_ : Unit) (t : State) => va_P (dC, dI) classes [cX h_X h_M h_P h_E1 h_E2 h_E3 X_lo X_ro X_rc, cL h_M k_M 8 M_f, cI h_P k_P 8 P_f] t.heap ∧ va_K (dC, dI) classes [(k_M, .long), (k_P, .int)] t ∧ va_D A [cX h_X h_M h_P h_E1 h_E2 h_E3 X_lo X_ro X_rc, cL h_M k_M 8 M_f, cI h_P k_P 8 P_f]) A) ([.ref h_X, .int a1, .int a2] : List Value).toArray s 0 0 A) (F0 m 107 ls [.long y0]) := by
    intro x3 x5 y0 M_f P_f X_lo X_ro X_rc H locs ls hP hD hS hl hF
    unfold f_X_whole_107 at hF
    refine lv_lstore (lv' := [(9, .long y0), (3, .long x3), (5, .long x5)]) hx hb d_X_whole_107 hl (by decide) rfl (fun ls hl => ?_)
    refine lv_lload_n hx hb d_X_whole_109 rfl (lv_at hl 1 rfl) ?_
    refine lv_lload hx hb d_X_whole_110 (lv_at hl 2 rfl) ?_
    refine lv_lload hx hb d_X_whole_112 (lv_at hl 0 rfl) ?_
    refine va_mmin_long hx hb (hml.trans hl.1.symm) hown (hts _ tw_294) (hts _ tw_295) (hts _ tw_4) (hts _ tw_296) (Nat.le_of_ble_eq_true rfl) (Nat.le_of_ble_eq_true rfl) (Nat.zero_le _) (Nat.zero_le _) d_X_whole_114 ?_
    refine W.eq (g2 := F0 m 117 ls [.long (jminl x5 y0), .long x3]) rfl ?_
    refine va_mmax_long hx hb (hml.trans hl.1.symm) hown (hts _ tw_297) (hts _ tw_298) (hts _ tw_4) (hts _ tw_299) (Nat.le_of_ble_eq_true rfl) (Nat.le_of_ble_eq_true rfl) (Nat.zero_le _) (Nat.zero_le _) d_X_whole_117 ?_
    refine W.eq (g2 := F0 m 120 ls [.long (jmaxl x3 (jminl x5 y0))]) rfl ?_
    obtain rfl := Option.some.inj hF
    exact W.lret (v := (jmaxl x3 (jminl x5 y0))) hx hb hr (fun t ht hW => ⟨⟨(jmaxl x3 (jminl x5 y0)), (), rfl, rfl, by rw [ht]; exact hP, va_K.moved hW.alike hK, hD⟩, hS.F ht⟩) hS.2.2 d_X_whole_120
  have b_38 : ∀ (x1 : Int32) (x3 : Int64) (y0 : Int64) (M_f : Nat → Int64) (P_f : Nat → Int32) (X_lo : Int32) (X_ro : Int32) (X_rc : Int32) (H : Heap) (locs : List Loc) (ls : Array Slot), va_P (dC, dI) classes [cX h_X h_M h_P h_E1 h_E2 h_E3 X_lo X_ro X_rc, cL h_M k_M 8 M_f, cI h_P k_P 8 P_f] H → va_D A [cX h_X h_M h_P h_E1 h_E2 h_E3 X_lo X_ro X_rc, cL h_M k_M 8 M_f, cI h_P k_P 8 P_f] → va_S A s.heap H locs → lv_has ls 11 [(0, .ref h_X), (1, .int x1), (3, .long x3)] → f_X_whole_38  x1 x3 y0 M_f P_f = some o → W p l e (headSpec w_X_whole ({ frames := 1, cells := 0, slots := 0, locals := 23 } : Room)).room s m ([.ref h_X, .int a1, .int a2] : List Value).toArray below meth c H locs 0 0 (MQ below (va_Ql (fun (r : Int64) (_ : Unit) => r = o) (fun (_ : Unit) (t : State) => va_P (dC, dI) classes [cX h_X h_M h_P h_E1 h_E2 h_E3 X_lo X_ro X_rc, cL h_M k_M 8 M_f, cI h_P k_P 8 P_f] t.heap ∧ va_K (dC, dI) classes [(k_M, .long), (k_P, .int)] t ∧ va_D A [cX h_X h_M h_P h_E1 h_E2 h_E3 X_lo X_ro X_rc, cL h_M k_M 8 M_f, cI h_P k_P 8 P_f]) A) ([.ref h_X, .int a1, .int a2] : List Value).toArray s 0 0 A) (F0 m 38 ls [.long y0]) := by
    intro x1 x3 y0 M_f P_f X_lo X_ro X_rc H locs ls hP hD hS hl hF
    unfold f_X_whole_38 at hF
    refine lv_lstore (lv' := [(5, .long y0), (0, .ref h_X), (1, .int x1), (3, .long x3)]) hx hb d_X_whole_38 hl (by decide) rfl (fun ls hl => ?_)
    refine lv_aload_n hx hb d_X_whole_40 rfl (lv_at hl 1 rfl) ?_
    refine lv_iload_n hx hb d_X_whole_41 rfl (lv_at hl 2 rfl) ?_
    obtain ⟨q_42, hC_42, hF⟩ := hbd hF
    have hPc := hP.sub (ws' := [cX h_X h_M h_P h_E1 h_E2 h_E3 X_lo X_ro X_rc, cI h_P k_P 8 P_f]) [0, 2] rfl
    have hDc := hD.sub (ws' := [cX h_X h_M h_P h_E1 h_E2 h_E3 X_lo X_ro X_rc, cI h_P k_P 8 P_f]) [0, 2] (by decide) rfl
    have hKc := hK.sub (tys' := [(k_P, .int)]) [1] rfl
    have hFc := va_free (wc := [cX h_X h_M h_P h_E1 h_E2 h_E3 X_lo X_ro X_rc, cI h_P k_P 8 P_f]) hD hS hA [0, 2] rfl
    refine va_calli (va_runV (As := [.int x1]) (rest := []) ⟨hx, hb, hml, hown, hts⟩ (c_X_topOf l dC dI h_X h_M h_P h_E1 h_E2 h_E3 k_P H.size X_lo X_ro X_rc P_f x1 q_42 hC_42) (cwV 1 hts g_X_109_X_topOf rfl rfl rfl (by decide +kernel) ⟨Nat.le_of_ble_eq_true rfl, Nat.le_of_ble_eq_true rfl⟩) ⟨fun a U g mk q => by obtain ⟨q0, q1, qP, qK, qD⟩ := q; exact ⟨q0, q1, qP, va_K.moved (u := U) (U := U.calling g mk a) (Vm.Alike.refl U.vm) qK, qD⟩, va_recv hKc hPc (ci := 1) (q0 := 0) rfl rfl, fun U hU hW => ⟨rfl, by rw [hU], by rw [hU]; exact hPc, va_K.moved hW.alike hKc, hDc.weaken (fun _ _ _ _ => trivial)⟩⟩ rfl rfl hl.1 rfl (lv_room (Nat.le_of_ble_eq_true rfl)) d_X_whole_42 ⟨Nat.zero_le _, Nat.zero_le _⟩) hS (fun q _ h => hFc q h) hFc (fun r u t H1 locs ht hvm hw hB hz1 hk1 hS => ?_)
    obtain ⟨hP1, hK1, hD1⟩ := hB
    replace hw := hw.symm
    subst hw
    rw [ht] at hP1
    obtain ⟨hP, hD⟩ := va_join (wr := [cL h_M k_M 8 M_f]) (w1 := [cX h_X h_M h_P h_E1 h_E2 h_E3 X_lo X_ro X_rc, cI h_P k_P 8 P_f]) hP hD [0, 2] [1] rfl rfl (by decide) (by decide) hk1 hFc hP1 hD1
    generalize H1 = H at hP hS ⊢
    have hP := hP.sub (ws' := [cX h_X h_M h_P h_E1 h_E2 h_E3 X_lo X_ro X_rc, cL h_M k_M 8 M_f, cI h_P k_P 8 P_f]) [1, 0, 2] rfl
    have hD := hD.sub (ws' := [cX h_X h_M h_P h_E1 h_E2 h_E3 X_lo X_ro X_rc, cL h_M k_M 8 M_f, cI h_P k_P 8 P_f]) [1, 0, 2] (by decide) rfl
    refine lv_bipush (v := (63 : Int32)) hx hb d_X_whole_45 (by decide) ?_
    refine lv_icmp_lt (tgt := 68) hx hb d_X_whole_47 (by decide) (fun c_47 => ?_) (fun c_47 => ?_)
    · replace hF := hif_t c_47 hF
      refine lv_aload_n hx hb d_X_whole_68 rfl (lv_at hl 1 rfl) ?_
      refine va_get (D := (dC, dI)) (ci := 1) (v := .ref h_M) (C := "RoundedNumbers") (T := F_X) (N := 8) hx hb hts in_X hown hK hP 0 rfl rfl 0 (by decide) (hts _ tw_43) (fun _ h9 => h9) rfl d_X_whole_69 ?_
      refine lv_iload_n hx hb d_X_whole_72 rfl (lv_at hl 2 rfl) ?_
      have c_73 : ¬ (x1 < 0 ∨ 8 ≤ x1.toNatClampNeg) := hif_n hF
      replace hF := hif_f c_73 hF
      refine va_lald hx hb hK hP 1 0 rfl rfl c_73 d_X_whole_73 ?_
      refine va_mabs_long hx hb (hml.trans hl.1.symm) hown (hts _ tw_80) (hts _ tw_81) (hts _ tw_4) (hts _ tw_82) (Nat.le_of_ble_eq_true rfl) (Nat.le_of_ble_eq_true rfl) (Nat.zero_le _) (Nat.zero_le _) d_X_whole_74 ?_
      refine W.eq (g2 := F0 m 77 ls [.long (jabs (M_f x1.toNatClampNeg))]) rfl ?_
      refine lv_aload_n hx hb d_X_whole_77 rfl (lv_at hl 1 rfl) ?_
      refine va_get (D := (dC, dI)) (ci := 1) (v := .ref h_P) (C := "RoundedNumbers") (T := F_X) (N := 8) hx hb hts in_X hown hK hP 0 rfl rfl 1 (by decide) (hts _ tw_44) (fun _ h9 => h9) rfl d_X_whole_78 ?_
      refine lv_iload_n hx hb d_X_whole_81 rfl (lv_at hl 2 rfl) ?_
      have c_82 : ¬ (x1 < 0 ∨ 8 ≤ x1.toNatClampNeg) := hif_n hF
      replace hF := hif_f c_82 hF
      refine va_iald hx hb hK hP 2 1 rfl rfl c_82 d_X_whole_82 ?_
      obtain ⟨q_83, hC_83, hF⟩ := hbd hF
      have hPc := hP.sub (ws' := []) [] rfl
      have hDc := hD.sub (ws' := []) [] (by decide) rfl
      have hKc := hK.sub (tys' := []) [] rfl
      have hFc := va_free (wc := []) hD hS hA [] rfl
      refine va_calll (va_runS (As := [.long (jabs (M_f x1.toNatClampNeg)), .int (P_f x1.toNatClampNeg)]) (rest := []) ⟨hx, hb, hml, hown, hts⟩ (c_X_shifted l dC dI H.size (jabs (M_f x1.toNatClampNeg)) (P_f x1.toNatClampNeg) q_83 hC_83) (cwS 2 hts g_X_139_X_shifted rfl rfl rfl (by decide +kernel) ⟨Nat.le_of_ble_eq_true rfl, Nat.le_of_ble_eq_true rfl⟩) ⟨fun a U g mk q => by obtain ⟨q0, q1, qP, qK, qD⟩ := q; exact ⟨q0, q1, qP, va_K.moved (u := U) (U := U.calling g mk a) (Vm.Alike.refl U.vm) qK, qD⟩, fun U hU hW => ⟨rfl, by rw [hU], by rw [hU]; exact hPc, va_K.moved hW.alike hKc, hDc.weaken (fun _ _ _ _ => trivial)⟩⟩ rfl rfl hl.1 rfl (lv_room (Nat.le_of_ble_eq_true rfl)) d_X_whole_83 ⟨Nat.zero_le _, Nat.zero_le _⟩) hS (fun q _ h => hFc q h) hFc (fun r u t H1 locs ht hvm hw hB hz1 hk1 hS => ?_)
      obtain ⟨hP1, hK1, hD1⟩ := hB
      replace hw := hw.symm
      subst hw
      rw [ht] at hP1
      obtain ⟨hP, hD⟩ := va_join (wr := [cX h_X h_M h_P h_E1 h_E2 h_E3 X_lo X_ro X_rc, cL h_M k_M 8 M_f, cI h_P k_P 8 P_f]) (w1 := []) hP hD [] [0, 1, 2] rfl rfl (by decide) (by decide) hk1 hFc hP1 hD1
      generalize H1 = H at hP hS ⊢
      have hP := hP.sub (ws' := [cX h_X h_M h_P h_E1 h_E2 h_E3 X_lo X_ro X_rc, cL h_M k_M 8 M_f, cI h_P k_P 8 P_f]) [0, 1, 2] rfl
      have hD := hD.sub (ws' := [cX h_X h_M h_P h_E1 h_E2 h_E3 X_lo X_ro X_rc, cL h_M k_M 8 M_f, cI h_P k_P 8 P_f]) [0, 1, 2] (by decide) rfl
      refine lv_lstore (lv' := [(7, .long q_83), (5, .long y0), (0, .ref h_X), (1, .int x1), (3, .long x3)]) hx hb d_X_whole_86 hl (by decide) rfl (fun ls hl => ?_)
      refine lv_aload_n hx hb d_X_whole_88 rfl (lv_at hl 2 rfl) ?_
      refine va_get (D := (dC, dI)) (ci := 1) (v := .ref h_M) (C := "RoundedNumbers") (T := F_X) (N := 8) hx hb hts in_X hown hK hP 0 rfl rfl 0 (by decide) (hts _ tw_43) (fun _ h9 => h9) rfl d_X_whole_89 ?_
      refine lv_iload_n hx hb d_X_whole_92 rfl (lv_at hl 3 rfl) ?_
      have c_93 : ¬ (x1 < 0 ∨ 8 ≤ x1.toNatClampNeg) := hif_n hF
      replace hF := hif_f c_93 hF
      refine va_lald hx hb hK hP 1 0 rfl rfl c_93 d_X_whole_93 ?_
      refine lv_lconst (v := (0 : Int64)) hx hb d_X_whole_94 (by decide) ?_
      refine W.lcmp hx hb d_X_whole_95 ?_
      refine lv_if_ge (tgt := 105) hx hb d_X_whole_96 (by decide) (fun c_96 => ?_) (fun c_96 => ?_)
      · replace hF := hif_t c_96 hF
        refine lv_lload hx hb d_X_whole_105 (lv_at hl 0 rfl) ?_
        exact b_107 x3 y0 q_83 M_f P_f X_lo X_ro X_rc _ _ _ hP hD hS (lv_sub hl [4, 1] rfl) hF
      · replace hF := hif_f c_96 hF
        refine lv_lload hx hb d_X_whole_99 (lv_at hl 0 rfl) ?_
        refine lv_lneg hx hb d_X_whole_101 ?_
        refine lv_goto (tgt := 107) hx hb d_X_whole_102 (by decide) ?_
        exact b_107 x3 y0 (-q_83) M_f P_f X_lo X_ro X_rc _ _ _ hP hD hS (lv_sub hl [4, 1] rfl) hF
    · replace hF := hif_f c_47 hF
      refine lv_aload_n hx hb d_X_whole_50 rfl (lv_at hl 1 rfl) ?_
      refine va_get (D := (dC, dI)) (ci := 1) (v := .ref h_M) (C := "RoundedNumbers") (T := F_X) (N := 8) hx hb hts in_X hown hK hP 0 rfl rfl 0 (by decide) (hts _ tw_43) (fun _ h9 => h9) rfl d_X_whole_51 ?_
      refine lv_iload_n hx hb d_X_whole_54 rfl (lv_at hl 2 rfl) ?_
      have c_55 : ¬ (x1 < 0 ∨ 8 ≤ x1.toNatClampNeg) := hif_n hF
      replace hF := hif_f c_55 hF
      refine va_lald hx hb hK hP 1 0 rfl rfl c_55 d_X_whole_55 ?_
      refine lv_lconst (v := (0 : Int64)) hx hb d_X_whole_56 (by decide) ?_
      refine W.lcmp hx hb d_X_whole_57 ?_
      refine lv_if_ge (tgt := 65) hx hb d_X_whole_58 (by decide) (fun c_58 => ?_) (fun c_58 => ?_)
      · replace hF := hif_t c_58 hF
        refine lv_lload hx hb d_X_whole_65 (lv_at hl 0 rfl) ?_
        obtain rfl := Option.some.inj hF
        exact W.lret (v := y0) hx hb hr (fun t ht hW => ⟨⟨y0, (), rfl, rfl, by rw [ht]; exact hP, va_K.moved hW.alike hK, hD⟩, hS.F ht⟩) hS.2.2 d_X_whole_67
      · replace hF := hif_f c_58 hF
        refine lv_lload_n hx hb d_X_whole_61 rfl (lv_at hl 3 rfl) ?_
        refine lv_goto (tgt := 67) hx hb d_X_whole_62 (by decide) ?_
        obtain rfl := Option.some.inj hF
        exact W.lret (v := x3) hx hb hr (fun t ht hW => ⟨⟨x3, (), rfl, rfl, by rw [ht]; exact hP, va_K.moved hW.alike hK, hD⟩, hS.F ht⟩) hS.2.2 d_X_whole_67
  have b_24 : ∀ (x1 : Int32) (x2 : Int32) (y0 : Int64) (M_f : Nat → Int64) (P_f : Nat → Int32) (X_lo : Int32) (X_ro : Int32) (X_rc : Int32) (H : Heap) (locs : List Loc) (ls : Array Slot), va_P (dC, dI) classes [cX h_X h_M h_P h_E1 h_E2 h_E3 X_lo X_ro X_rc, cL h_M k_M 8 M_f, cI h_P k_P 8 P_f] H → va_D A [cX h_X h_M h_P h_E1 h_E2 h_E3 X_lo X_ro X_rc, cL h_M k_M 8 M_f, cI h_P k_P 8 P_f] → va_S A s.heap H locs → lv_has ls 11 [(0, .ref h_X), (1, .int x1), (2, .int x2)] → f_X_whole_24  x1 x2 y0 M_f P_f = some o → W p l e (headSpec w_X_whole ({ frames := 1, cells := 0, slots := 0, locals := 23 } : Room)).room s m ([.ref h_X, .int a1, .int a2] : List Value).toArray below meth c H locs 0 0 (MQ below (va_Ql (fun (r : Int64) (_ : Unit) => r = o) (fun (_ : Unit) (t : State) => va_P (dC, dI) classes [cX h_X h_M h_P h_E1 h_E2 h_E3 X_lo X_ro X_rc, cL h_M k_M 8 M_f, cI h_P k_P 8 P_f] t.heap ∧ va_K (dC, dI) classes [(k_M, .long), (k_P, .int)] t ∧ va_D A [cX h_X h_M h_P h_E1 h_E2 h_E3 X_lo X_ro X_rc, cL h_M k_M 8 M_f, cI h_P k_P 8 P_f]) A) ([.ref h_X, .int a1, .int a2] : List Value).toArray s 0 0 A) (F0 m 24 ls [.long y0]) := by
    intro x1 x2 y0 M_f P_f X_lo X_ro X_rc H locs ls hP hD hS hl hF
    unfold f_X_whole_24 at hF
    refine lv_lstore_n (lv' := [(3, .long y0), (0, .ref h_X), (1, .int x1), (2, .int x2)]) hx hb d_X_whole_24 rfl hl (by decide) rfl (fun ls hl => ?_)
    refine lv_iload_n hx hb d_X_whole_25 rfl (lv_at hl 3 rfl) ?_
    refine lv_if_eq (tgt := 35) hx hb d_X_whole_26 (by decide) (fun c_26 => ?_) (fun c_26 => ?_)
    · replace hF := hif_t c_26 hF
      refine lv_ldc2 (v := (2147483647 : Int64)) hx hb hown (hts _ tw_290) d_X_whole_35 ?_
      exact b_38 x1 y0 (2147483647 : Int64) M_f P_f X_lo X_ro X_rc _ _ _ hP hD hS (lv_sub hl [1, 2, 0] rfl) hF
    · replace hF := hif_f c_26 hF
      refine lv_ldc2 (v := (9223372036854775807 : Int64)) hx hb hown (hts _ tw_289) d_X_whole_29 ?_
      refine lv_goto (tgt := 38) hx hb d_X_whole_32 (by decide) ?_
      exact b_38 x1 y0 (9223372036854775807 : Int64) M_f P_f X_lo X_ro X_rc _ _ _ hP hD hS (lv_sub hl [1, 2, 0] rfl) hF
  unfold f_X_whole at hF
  refine lv_iload_n hx hb d_X_whole_0 rfl (lv_at hl 1 rfl) ?_
  obtain ⟨q_1, hC_1, hF⟩ := hbd hF
  have hPc := hP.sub (ws' := []) [] rfl
  have hDc := hD.sub (ws' := []) [] (by decide) rfl
  have hKc := hK.sub (tys' := []) [] rfl
  have hFc := va_free (wc := []) hD hS hA [] rfl
  refine va_calli (va_runS (As := [.int a1]) (rest := []) ⟨hx, hb, hml, hown, hts⟩ (c_X_isRegister l dC dI s.heap.size a1 q_1 hC_1) (cwS 1 hts g_X_30_X_isRegister rfl rfl rfl (by decide +kernel) ⟨Nat.le_of_ble_eq_true rfl, Nat.le_of_ble_eq_true rfl⟩) ⟨fun a U g mk q => by obtain ⟨q0, q1, qP, qK, qD⟩ := q; exact ⟨q0, q1, qP, va_K.moved (u := U) (U := U.calling g mk a) (Vm.Alike.refl U.vm) qK, qD⟩, fun U hU hW => ⟨rfl, by rw [hU], by rw [hU]; exact hPc, va_K.moved hW.alike hKc, hDc.weaken (fun _ _ _ _ => trivial)⟩⟩ rfl rfl hl.1 rfl (lv_room (Nat.le_of_ble_eq_true rfl)) d_X_whole_1 ⟨Nat.zero_le _, Nat.zero_le _⟩) hS (fun q _ h => hFc q h) hFc (fun r u t H1 locs ht hvm hw hB hz1 hk1 hS => ?_)
  obtain ⟨hP1, hK1, hD1⟩ := hB
  replace hw := hw.symm
  subst hw
  rw [ht] at hP1
  obtain ⟨hP, hD⟩ := va_join (wr := [cX h_X h_M h_P h_E1 h_E2 h_E3 X_lo X_ro X_rc, cL h_M k_M 8 M_f, cI h_P k_P 8 P_f]) (w1 := []) hP hD [] [0, 1, 2] rfl rfl (by decide) (by decide) hk1 hFc hP1 hD1
  generalize H1 = H at hP hS ⊢
  have hP := hP.sub (ws' := [cX h_X h_M h_P h_E1 h_E2 h_E3 X_lo X_ro X_rc, cL h_M k_M 8 M_f, cI h_P k_P 8 P_f]) [0, 1, 2] rfl
  have hD := hD.sub (ws' := [cX h_X h_M h_P h_E1 h_E2 h_E3 X_lo X_ro X_rc, cL h_M k_M 8 M_f, cI h_P k_P 8 P_f]) [0, 1, 2] (by decide) rfl
  refine lv_if_ne (tgt := 11) hx hb d_X_whole_4 (by decide) (fun c_4 => ?_) (fun c_4 => ?_)
  · replace hF := hif_f c_4 hF
    refine lv_iload_n hx hb d_X_whole_11 rfl (lv_at hl 2 rfl) ?_
    refine lv_if_eq (tgt := 21) hx hb d_X_whole_12 (by decide) (fun c_12 => ?_) (fun c_12 => ?_)
    · replace hF := hif_t c_12 hF
      refine lv_ldc2 (v := (-2147483648 : Int64)) hx hb hown (hts _ tw_288) d_X_whole_21 ?_
      exact b_24 a1 a2 (-2147483648 : Int64) M_f P_f X_lo X_ro X_rc _ _ _ hP hD hS (lv_sub hl [0, 1, 2] rfl) hF
    · replace hF := hif_f c_12 hF
      refine lv_ldc2 (v := (-9223372036854775808 : Int64)) hx hb hown (hts _ tw_287) d_X_whole_15 ?_
      refine lv_goto (tgt := 24) hx hb d_X_whole_18 (by decide) ?_
      exact b_24 a1 a2 (-9223372036854775808 : Int64) M_f P_f X_lo X_ro X_rc _ _ _ hP hD hS (lv_sub hl [0, 1, 2] rfl) hF
  · replace hF := hif_t c_4 hF
    refine lv_ldc2 (v := (-4611686018427387904 : Int64)) hx hb hown (hts _ tw_272) d_X_whole_7 ?_
    obtain rfl := Option.some.inj hF
    exact W.lret (v := (-4611686018427387904 : Int64)) hx hb hr (fun t ht hW => ⟨⟨(-4611686018427387904 : Int64), (), rfl, rfl, by rw [ht]; exact hP, va_K.moved hW.alike hK, hD⟩, hS.F ht⟩) hS.2.2 d_X_whole_10
set_option maxHeartbeats 4000000 in
set_option maxRecDepth 100000 in
theorem c_X_count (l : Launch) (dC : Nat → ClassId) (dI : Nat → Nat → Nat) (h_X : Nat) (h_M : Nat) (h_P : Nat) (h_E1 : Nat) (h_E2 : Nat) (h_E3 : Nat) (k_M : ClassId) (sz : Nat) (X_lo : Int32) (X_ro : Int32) (X_rc : Int32) (M_f : Nat → Int64) (a1 : Int32) (o : Int32) (hF : f_X_count X_lo X_ro X_rc M_f a1 = some o) : Met l y_X_count w_X_count ({ frames := 2, cells := 0, slots := 0, locals := 43 } : Room) (va_Pc [.ref h_X, .int a1] (fun U => U.heap.size = sz ∧ va_P (dC, dI) classes [cX h_X h_M h_P h_E1 h_E2 h_E3 X_lo X_ro X_rc, cL h_M k_M 8 M_f] U.heap ∧ va_K (dC, dI) classes [(k_M, .long)] U ∧ va_D (fun _ => True) [cX h_X h_M h_P h_E1 h_E2 h_E3 X_lo X_ro X_rc, cL h_M k_M 8 M_f])) (va_Qi (fun (r : Int32) (_ : Unit) => r = o) (fun (_ : Unit) (t : State) => va_P (dC, dI) classes [cX h_X h_M h_P h_E1 h_E2 h_E3 X_lo X_ro X_rc, cL h_M k_M 8 M_f] t.heap ∧ va_K (dC, dI) classes [(k_M, .long)] t ∧ va_D (va_A [cX h_X h_M h_P h_E1 h_E2 h_E3 X_lo X_ro X_rc, cL h_M k_M 8 M_f] sz) [cX h_X h_M h_P h_E1 h_E2 h_E3 X_lo X_ro X_rc, cL h_M k_M 8 M_f]) (va_A [cX h_X h_M h_P h_E1 h_E2 h_E3 X_lo X_ro X_rc, cL h_M k_M 8 M_f] sz)) 0 0 (va_A [cX h_X h_M h_P h_E1 h_E2 h_E3 X_lo X_ro X_rc, cL h_M k_M 8 M_f] sz) := by
  refine Met.ofW (cc := prog_1_method_19_code) (maxL := 2) (ret := (some .int)) (by decide) rfl ?_
  intro p e s m args below meth c s₁ B hml hv
  obtain ⟨rfl, hsz, hP, hK, hD0⟩ := hv
  have hx := B.exec
  have hb := B.bytes
  have hr := B.returns
  have hts0 := atoms_spec (ws := w_X_count) B.pre
  have hts : ∀ w ∈ tb, w.before _ s = true := fun w h => hts0 w (List.mem_cons_of_mem _ h)
  clear hts0
  have hown : s.vm.findClass "RoundedNumbers" = some m.cls := findClass_of_methodNamed B.named
  have hlocks := B.notSynchronized
  subst hsz
  have hD := hD0.self (sz := s.heap.size)
  generalize hAe : va_A [cX h_X h_M h_P h_E1 h_E2 h_E3 X_lo X_ro X_rc, cL h_M k_M 8 M_f] s.heap.size = A at hD ⊢
  have hA : ∀ q : Nat, s.heap.size ≤ q → A q := fun q h => by rw [← hAe]; exact Or.inr h
  clear hAe
  have hS : va_S A s.heap s.heap [] := va_S.rf
  have hP : va_P (dC, dI) classes [cX h_X h_M h_P h_E1 h_E2 h_E3 X_lo X_ro X_rc, cL h_M k_M 8 M_f] s.heap := hP
  have hl := lv_entry ([.ref h_X, .int a1]) (n := 2) (Nat.le_of_ble_eq_true rfl)
  rw [lg_entry_eq]
  generalize (lg_sl ([.ref h_X, .int a1]) ++ List.replicate (2 - (lg_sl ([.ref h_X, .int a1])).length) Slot.unset).toArray = ls at hl ⊢
  have hl : lv_has ls 2 [(0, .ref h_X), (1, .int a1)] := hl
  unfold f_X_count at hF
  refine lv_iload_n hx hb d_X_count_0 rfl (lv_at hl 1 rfl) ?_
  rcases Decidable.em (a1 = (0 : Int32)) with c_1_0 | c_1_0
  · replace hF := hif_t c_1_0 hF
    refine lv_tableIn (tgt := 32) hx hb d_X_count_1 (by rw [c_1_0]; decide) (by rw [c_1_0]; decide) (by rw [c_1_0]; rfl) (by decide) ?_
    refine lv_aload_n hx hb d_X_count_32 rfl (lv_at hl 0 rfl) ?_
    refine va_get (D := (dC, dI)) (ci := 1) (v := .int X_lo) (C := "RoundedNumbers") (T := F_X) (N := 8) hx hb hts in_X hown hK hP 0 rfl rfl 2 (by decide) (hts _ tw_45) (fun _ h9 => h9) rfl d_X_count_33 ?_
    obtain rfl := Option.some.inj hF
    exact W.iret (v := X_lo) hx hb hr (fun t ht hW => ⟨⟨X_lo, (), rfl, rfl, by rw [ht]; exact hP, va_K.moved hW.alike hK, hD⟩, hS.F ht⟩) hS.2.2 d_X_count_36
  · replace hF := hif_f c_1_0 hF
    rcases Decidable.em (a1 = (1 : Int32)) with c_1_1 | c_1_1
    · replace hF := hif_t c_1_1 hF
      refine lv_tableIn (tgt := 37) hx hb d_X_count_1 (by rw [c_1_1]; decide) (by rw [c_1_1]; decide) (by rw [c_1_1]; rfl) (by decide) ?_
      refine lv_aload_n hx hb d_X_count_37 rfl (lv_at hl 0 rfl) ?_
      obtain ⟨q_38, hC_38, hF⟩ := hbd hF
      have hPc := hP.sub (ws' := [cX h_X h_M h_P h_E1 h_E2 h_E3 X_lo X_ro X_rc, cL h_M k_M 8 M_f]) [0, 1] rfl
      have hDc := hD.sub (ws' := [cX h_X h_M h_P h_E1 h_E2 h_E3 X_lo X_ro X_rc, cL h_M k_M 8 M_f]) [0, 1] (by decide) rfl
      have hKc := hK.sub (tys' := [(k_M, .long)]) [0] rfl
      have hFc := va_free (wc := [cX h_X h_M h_P h_E1 h_E2 h_E3 X_lo X_ro X_rc, cL h_M k_M 8 M_f]) hD hS hA [0, 1] rfl
      refine va_calli (va_runV (As := []) (rest := []) ⟨hx, hb, hml, hown, hts⟩ (c_X_narrowRegisters l dC dI h_X h_M h_P h_E1 h_E2 h_E3 k_M s.heap.size X_lo X_ro X_rc M_f q_38 hC_38) (cwV 0 hts g_X_154_X_narrowRegisters rfl rfl rfl (by decide +kernel) ⟨Nat.le_of_ble_eq_true rfl, Nat.le_of_ble_eq_true rfl⟩) ⟨fun a U g mk q => by obtain ⟨q0, q1, qP, qK, qD⟩ := q; exact ⟨q0, q1, qP, va_K.moved (u := U) (U := U.calling g mk a) (Vm.Alike.refl U.vm) qK, qD⟩, va_recv hKc hPc (ci := 1) (q0 := 0) rfl rfl, fun U hU hW => ⟨rfl, by rw [hU], by rw [hU]; exact hPc, va_K.moved hW.alike hKc, hDc.weaken (fun _ _ _ _ => trivial)⟩⟩ rfl rfl hl.1 rfl (lv_room (Nat.le_of_ble_eq_true rfl)) d_X_count_38 ⟨Nat.zero_le _, Nat.zero_le _⟩) hS (fun q _ h => hFc q h) hFc (fun r u t H1 locs ht hvm hw hB hz1 hk1 hS => ?_)
      obtain ⟨hP1, hK1, hD1⟩ := hB
      replace hw := hw.symm
      subst hw
      rw [ht] at hP1
      obtain ⟨hP, hD⟩ := va_join (wr := []) (w1 := [cX h_X h_M h_P h_E1 h_E2 h_E3 X_lo X_ro X_rc, cL h_M k_M 8 M_f]) hP hD [0, 1] [] rfl rfl (by decide) (by decide) hk1 hFc hP1 hD1
      generalize H1 = H at hP hS ⊢
      have hP := hP.sub (ws' := [cX h_X h_M h_P h_E1 h_E2 h_E3 X_lo X_ro X_rc, cL h_M k_M 8 M_f]) [0, 1] rfl
      have hD := hD.sub (ws' := [cX h_X h_M h_P h_E1 h_E2 h_E3 X_lo X_ro X_rc, cL h_M k_M 8 M_f]) [0, 1] (by decide) rfl
      obtain rfl := Option.some.inj hF
      exact W.iret (v := q_38) hx hb hr (fun t ht hW => ⟨⟨q_38, (), rfl, rfl, by rw [ht]; exact hP, va_K.moved hW.alike hK, hD⟩, hS.F ht⟩) hS.2.2 d_X_count_41
    · replace hF := hif_f c_1_1 hF
      rcases Decidable.em (a1 = (2 : Int32)) with c_1_2 | c_1_2
      · replace hF := hif_t c_1_2 hF
        refine lv_tableIn (tgt := 42) hx hb d_X_count_1 (by rw [c_1_2]; decide) (by rw [c_1_2]; decide) (by rw [c_1_2]; rfl) (by decide) ?_
        refine lv_aload_n hx hb d_X_count_42 rfl (lv_at hl 0 rfl) ?_
        refine va_get (D := (dC, dI)) (ci := 1) (v := .int X_ro) (C := "RoundedNumbers") (T := F_X) (N := 8) hx hb hts in_X hown hK hP 0 rfl rfl 3 (by decide) (hts _ tw_46) (fun _ h9 => h9) rfl d_X_count_43 ?_
        obtain rfl := Option.some.inj hF
        exact W.iret (v := X_ro) hx hb hr (fun t ht hW => ⟨⟨X_ro, (), rfl, rfl, by rw [ht]; exact hP, va_K.moved hW.alike hK, hD⟩, hS.F ht⟩) hS.2.2 d_X_count_46
      · replace hF := hif_f c_1_2 hF
        rcases Decidable.em (a1 = (3 : Int32)) with c_1_3 | c_1_3
        · replace hF := hif_t c_1_3 hF
          refine lv_tableIn (tgt := 47) hx hb d_X_count_1 (by rw [c_1_3]; decide) (by rw [c_1_3]; decide) (by rw [c_1_3]; rfl) (by decide) ?_
          refine lv_aload_n hx hb d_X_count_47 rfl (lv_at hl 0 rfl) ?_
          refine va_get (D := (dC, dI)) (ci := 1) (v := .int X_rc) (C := "RoundedNumbers") (T := F_X) (N := 8) hx hb hts in_X hown hK hP 0 rfl rfl 4 (by decide) (hts _ tw_47) (fun _ h9 => h9) rfl d_X_count_48 ?_
          obtain rfl := Option.some.inj hF
          exact W.iret (v := X_rc) hx hb hr (fun t ht hW => ⟨⟨X_rc, (), rfl, rfl, by rw [ht]; exact hP, va_K.moved hW.alike hK, hD⟩, hS.F ht⟩) hS.2.2 d_X_count_51
        · replace hF := hif_f c_1_3 hF
          have z_0 := lv_neT c_1_0 (a := 0) (by decide)
          have z_1 := lv_neT c_1_1 (a := 1) (by decide)
          have z_2 := lv_neT c_1_2 (a := 2) (by decide)
          have z_3 := lv_neT c_1_3 (a := 3) (by decide)
          refine lv_tableOut (tgt := 52) hx hb d_X_count_1 (by omega) (by decide) ?_
          refine lv_bipush (v := (-100 : Int32)) hx hb d_X_count_52 (by decide) ?_
          obtain rfl := Option.some.inj hF
          exact W.iret (v := (-100 : Int32)) hx hb hr (fun t ht hW => ⟨⟨(-100 : Int32), (), rfl, rfl, by rw [ht]; exact hP, va_K.moved hW.alike hK, hD⟩, hS.F ht⟩) hS.2.2 d_X_count_54
