set_option maxHeartbeats 4000000 in
set_option maxRecDepth 100000 in
theorem lb_1028 {p : Program} {l : Launch} {e : Env} {s : State} {m : MethodId} {below : List Frame} {meth : Method} {c : Code} {h_S L : Nat} {xs : Nat → Int32} (C0 : lw_At p s m meth c h_S L xs) {A : Nat → Prop} (hA : ∀ q : Nat, s.heap.size ≤ q → A q) (hA2 : ∀ q : Nat, A q → s.heap.size ≤ q) {dC : Nat → ClassId} {dI : Nat → Nat → Nat} {h_X : Nat} {h_M : Nat} {h_P : Nat} {h_E1 : Nat} {h_E2 : Nat} {h_E3 : Nat} {h_Y : Nat} {h_O : Nat} {h_N : Nat} {h_B : Nat} {h_G : Nat} {h_K : Nat} {k_M : ClassId} {k_P : ClassId} {k_O : ClassId} {k_N : ClassId} {k_B : ClassId} {k_G : ClassId} {k_K : ClassId} (hK : va_K (dC, dI) classes [(k_M, .long), (k_P, .int), (k_O, .long), (k_N, .int), (k_B, .boolean), (k_G, .int), (k_K, .int)] s) : ∀ (k_18 : (Int32) → (Int32) → (Int32) → (Int32) → (Nat → Int64) → (Nat → Int32) → (Int32) → (Int64) → (Int64) → (Int32) → (Int32) → (Int32) → (Int64) → (Int64) → (Int32) → (Int32) → (Int32) → (Int64) → (Int64) → (Int32) → (Int32) → (Int32) → (Int32) → (Int32) → (Int64) → (Int32) → (Int32) → (Nat → Int64) → (Nat → Int32) → (Nat → Int32) → (Nat → Int32) → (Nat → Int32) → Option (Int32)), (∀ (x3 : Int32) (X_lo : Int32) (X_ro : Int32) (X_rc : Int32) (M_f : Nat → Int64) (P_f : Nat → Int32) (E1_sg : Int32) (E1_hi : Int64) (E1_lo : Int64) (E1_pl : Int32) (E1_mo : Int32) (E2_sg : Int32) (E2_hi : Int64) (E2_lo : Int64) (E2_pl : Int32) (E2_mo : Int32) (E3_sg : Int32) (E3_hi : Int64) (E3_lo : Int64) (E3_pl : Int32) (E3_mo : Int32) (Y_lo : Int32) (Y_ie : Int32) (Y_ra : Int32) (Y_to : Int64) (Y_te : Int32) (Y_re : Int32) (O_f : Nat → Int64) (N_f : Nat → Int32) (B_f : Nat → Int32) (G_f : Nat → Int32) (K_f : Nat → Int32) (H : Heap) (locs : List Loc) (ls : Array Slot), va_P (dC, dI) classes [cX h_X h_M h_P h_E1 h_E2 h_E3 X_lo X_ro X_rc, cL h_M k_M 8 M_f, cI h_P k_P 8 P_f, cE h_E1 E1_sg E1_hi E1_lo E1_pl E1_mo, cE h_E2 E2_sg E2_hi E2_lo E2_pl E2_mo, cE h_E3 E3_sg E3_hi E3_lo E3_pl E3_mo, cY h_Y h_O h_N h_B h_G h_K Y_lo Y_ie Y_ra Y_to Y_te Y_re, cL h_O k_O 8 O_f, cI h_N k_N 8 N_f, cI h_B k_B 8 B_f, cI h_G k_G 30 G_f, cI h_K k_K 30 K_f] H → va_D A [cX h_X h_M h_P h_E1 h_E2 h_E3 X_lo X_ro X_rc, cL h_M k_M 8 M_f, cI h_P k_P 8 P_f, cE h_E1 E1_sg E1_hi E1_lo E1_pl E1_mo, cE h_E2 E2_sg E2_hi E2_lo E2_pl E2_mo, cE h_E3 E3_sg E3_hi E3_lo E3_pl E3_mo, cY h_Y h_O h_N h_B h_G h_K Y_lo Y_ie Y_ra Y_to Y_te Y_re, cL h_O k_O 8 O_f, cI h_N k_N 8 N_f, cI h_B k_B 8 B_f, cI h_G k_G 30 G_f, cI h_K k_K 30 K_f] → va_S A s.heap H locs → lv_has ls 4 [(0, .ref h_S), (1, .ref h_X), (2, .ref h_Y), (3, .int x3)] → k_18 x3 X_lo X_ro X_rc M_f P_f E1_sg E1_hi E1_lo E1_pl E1_mo E2_sg E2_hi E2_lo E2_pl E2_mo E3_sg E3_hi E3_lo E3_pl E3_mo Y_lo Y_ie Y_ra Y_to Y_te Y_re O_f N_f B_f G_f K_f = some 1 → W p l e room_1 s m #[Value.ref h_S] below meth c H locs 12 134 (lw_Z below #[Value.ref h_S] s) (F0 m 18 ls [])) → ∀ (x3 : Int32) (X_lo : Int32) (X_ro : Int32) (X_rc : Int32) (M_f : Nat → Int64) (P_f : Nat → Int32) (E1_sg : Int32) (E1_hi : Int64) (E1_lo : Int64) (E1_pl : Int32) (E1_mo : Int32) (E2_sg : Int32) (E2_hi : Int64) (E2_lo : Int64) (E2_pl : Int32) (E2_mo : Int32) (E3_sg : Int32) (E3_hi : Int64) (E3_lo : Int64) (E3_pl : Int32) (E3_mo : Int32) (Y_lo : Int32) (Y_ie : Int32) (Y_ra : Int32) (Y_to : Int64) (Y_te : Int32) (Y_re : Int32) (O_f : Nat → Int64) (N_f : Nat → Int32) (B_f : Nat → Int32) (G_f : Nat → Int32) (K_f : Nat → Int32) (H : Heap) (locs : List Loc) (ls : Array Slot), va_P (dC, dI) classes [cX h_X h_M h_P h_E1 h_E2 h_E3 X_lo X_ro X_rc, cL h_M k_M 8 M_f, cI h_P k_P 8 P_f, cE h_E1 E1_sg E1_hi E1_lo E1_pl E1_mo, cE h_E2 E2_sg E2_hi E2_lo E2_pl E2_mo, cE h_E3 E3_sg E3_hi E3_lo E3_pl E3_mo, cY h_Y h_O h_N h_B h_G h_K Y_lo Y_ie Y_ra Y_to Y_te Y_re, cL h_O k_O 8 O_f, cI h_N k_N 8 N_f, cI h_B k_B 8 B_f, cI h_G k_G 30 G_f, cI h_K k_K 30 K_f] H → va_D A [cX h_X h_M h_P h_E1 h_E2 h_E3 X_lo X_ro X_rc, cL h_M k_M 8 M_f, cI h_P k_P 8 P_f, cE h_E1 E1_sg E1_hi E1_lo E1_pl E1_mo, cE h_E2 E2_sg E2_hi E2_lo E2_pl E2_mo, cE h_E3 E3_sg E3_hi E3_lo E3_pl E3_mo, cY h_Y h_O h_N h_B h_G h_K Y_lo Y_ie Y_ra Y_to Y_te Y_re, cL h_O k_O 8 O_f, cI h_N k_N 8 N_f, cI h_B k_B 8 B_f, cI h_G k_G 30 G_f, cI h_K k_K 30 K_f] → va_S A s.heap H locs → lv_has ls 4 [(0, .ref h_S), (1, .ref h_X), (2, .ref h_Y), (3, .int x3)] → f_law_1028 L xs k_18 x3 X_lo X_ro X_rc M_f P_f E1_sg E1_hi E1_lo E1_pl E1_mo E2_sg E2_hi E2_lo E2_pl E2_mo E3_sg E3_hi E3_lo E3_pl E3_mo Y_lo Y_ie Y_ra Y_to Y_te Y_re O_f N_f B_f G_f K_f = some 1 → W p l e room_1 s m #[Value.ref h_S] below meth c H locs 12 134 (lw_Z below #[Value.ref h_S] s) (F0 m 1028 ls []) := by
  obtain ⟨hx, hb, hr, hml, hown, hts1, hX, hbl, hlocks, hgv⟩ := id C0
  have hts : ∀ w ∈ tb, w.before _ s = true := fun w h => hts1 w (List.mem_filter.mp h).1
  clear hts1
  have hbA : ¬ A h_S := fun q => Nat.not_le.mpr hbl (hA2 _ q)
  intro k_18 hk_18 x3 X_lo X_ro X_rc M_f P_f E1_sg E1_hi E1_lo E1_pl E1_mo E2_sg E2_hi E2_lo E2_pl E2_mo E3_sg E3_hi E3_lo E3_pl E3_mo Y_lo Y_ie Y_ra Y_to Y_te Y_re O_f N_f B_f G_f K_f H locs ls hP hD hS hl hF
  unfold f_law_1028 at hF
  refine lv_aload_n hx hb d_L_law_1028 rfl (lv_at hl 1 rfl) ?_
  refine lv_aload_n hx hb d_L_law_1029 rfl (lv_at hl 0 rfl) ?_
  refine lv_iload_n hx hb d_L_law_1030 rfl (lv_at hl 3 rfl) ?_
  refine lv_iconst (v := (1 : Int32)) hx hb d_L_law_1031 (by decide) ?_
  refine lv_iadd hx hb d_L_law_1032 ?_
  have c_1033 : ¬ ((x3 + (1 : Int32)) < 0 ∨ L ≤ (x3 + (1 : Int32)).toNatClampNeg) := hif_n hF
  replace hF := hif_f c_1033 hF
  refine va_sld hx hb hX hbl hbA hS c_1033 d_L_law_1033 ?_
  obtain ⟨q_1034, hC_1034, hF⟩ := hbd hF
  have hPc := hP.sub (ws' := [cX h_X h_M h_P h_E1 h_E2 h_E3 X_lo X_ro X_rc, cL h_M k_M 8 M_f]) [0, 1] rfl
  have hDc := hD.sub (ws' := [cX h_X h_M h_P h_E1 h_E2 h_E3 X_lo X_ro X_rc, cL h_M k_M 8 M_f]) [0, 1] (by decide) rfl
  have hKc := hK.sub (tys' := [(k_M, .long)]) [0] rfl
  have hFc := va_free (wc := [cX h_X h_M h_P h_E1 h_E2 h_E3 X_lo X_ro X_rc, cL h_M k_M 8 M_f]) hD hS hA [0, 1] rfl
  refine va_calli (va_runV (As := [.int (xs (x3 + (1 : Int32)).toNatClampNeg)]) (rest := []) ⟨hx, hb, hml, hown, hts⟩ (c_X_count l dC dI h_X h_M h_P h_E1 h_E2 h_E3 k_M H.size X_lo X_ro X_rc M_f (xs (x3 + (1 : Int32)).toNatClampNeg) q_1034 hC_1034) (cwV 1 hts g_L_92_X_count rfl rfl rfl (by decide +kernel) ⟨Nat.le_of_ble_eq_true rfl, Nat.le_of_ble_eq_true rfl⟩) ⟨fun a U g mk q => by obtain ⟨q0, q1, qP, qK, qD⟩ := q; exact ⟨q0, q1, qP, va_K.moved (u := U) (U := U.calling g mk a) (Vm.Alike.refl U.vm) qK, qD⟩, va_recv hKc hPc (ci := 1) (q0 := 0) rfl rfl, fun U hU hW => ⟨rfl, by rw [hU], by rw [hU]; exact hPc, va_K.moved hW.alike hKc, hDc.weaken (fun _ _ _ _ => trivial)⟩⟩ rfl rfl hl.1 rfl (lv_room (Nat.le_of_ble_eq_true rfl)) d_L_law_1034 ⟨Nat.le_of_ble_eq_true rfl, Nat.le_of_ble_eq_true rfl⟩) hS (fun q _ h => hFc q h) hFc (fun r u t H1 locs ht hvm hw hB hz1 hk1 hS => ?_)
  obtain ⟨hP1, hK1, hD1⟩ := hB
  replace hw := hw.symm
  subst hw
  rw [ht] at hP1
  obtain ⟨hP, hD⟩ := va_join (wr := [cI h_P k_P 8 P_f, cE h_E1 E1_sg E1_hi E1_lo E1_pl E1_mo, cE h_E2 E2_sg E2_hi E2_lo E2_pl E2_mo, cE h_E3 E3_sg E3_hi E3_lo E3_pl E3_mo, cY h_Y h_O h_N h_B h_G h_K Y_lo Y_ie Y_ra Y_to Y_te Y_re, cL h_O k_O 8 O_f, cI h_N k_N 8 N_f, cI h_B k_B 8 B_f, cI h_G k_G 30 G_f, cI h_K k_K 30 K_f]) (w1 := [cX h_X h_M h_P h_E1 h_E2 h_E3 X_lo X_ro X_rc, cL h_M k_M 8 M_f]) hP hD [0, 1] [2, 3, 4, 5, 6, 7, 8, 9, 10, 11] rfl rfl (by decide) (by decide) hk1 hFc hP1 hD1
  generalize H1 = H at hP hS ⊢
  have hP := hP.sub (ws' := [cX h_X h_M h_P h_E1 h_E2 h_E3 X_lo X_ro X_rc, cL h_M k_M 8 M_f, cI h_P k_P 8 P_f, cE h_E1 E1_sg E1_hi E1_lo E1_pl E1_mo, cE h_E2 E2_sg E2_hi E2_lo E2_pl E2_mo, cE h_E3 E3_sg E3_hi E3_lo E3_pl E3_mo, cY h_Y h_O h_N h_B h_G h_K Y_lo Y_ie Y_ra Y_to Y_te Y_re, cL h_O k_O 8 O_f, cI h_N k_N 8 N_f, cI h_B k_B 8 B_f, cI h_G k_G 30 G_f, cI h_K k_K 30 K_f]) [10, 11, 0, 1, 2, 3, 4, 5, 6, 7, 8, 9] rfl
  have hD := hD.sub (ws' := [cX h_X h_M h_P h_E1 h_E2 h_E3 X_lo X_ro X_rc, cL h_M k_M 8 M_f, cI h_P k_P 8 P_f, cE h_E1 E1_sg E1_hi E1_lo E1_pl E1_mo, cE h_E2 E2_sg E2_hi E2_lo E2_pl E2_mo, cE h_E3 E3_sg E3_hi E3_lo E3_pl E3_mo, cY h_Y h_O h_N h_B h_G h_K Y_lo Y_ie Y_ra Y_to Y_te Y_re, cL h_O k_O 8 O_f, cI h_N k_N 8 N_f, cI h_B k_B 8 B_f, cI h_G k_G 30 G_f, cI h_K k_K 30 K_f]) [10, 11, 0, 1, 2, 3, 4, 5, 6, 7, 8, 9] (by decide) rfl
  refine lv_aload_n hx hb d_L_law_1037 rfl (lv_at hl 2 rfl) ?_
  refine lv_aload_n hx hb d_L_law_1038 rfl (lv_at hl 0 rfl) ?_
  refine lv_iload_n hx hb d_L_law_1039 rfl (lv_at hl 3 rfl) ?_
  refine lv_iconst (v := (1 : Int32)) hx hb d_L_law_1040 (by decide) ?_
  refine lv_iadd hx hb d_L_law_1041 ?_
  have c_1042 : ¬ ((x3 + (1 : Int32)) < 0 ∨ L ≤ (x3 + (1 : Int32)).toNatClampNeg) := hif_n hF
  replace hF := hif_f c_1042 hF
  refine va_sld hx hb hX hbl hbA hS c_1042 d_L_law_1042 ?_
  obtain ⟨q_1043, hC_1043, hF⟩ := hbd hF
  have hPc := hP.sub (ws' := [cY h_Y h_O h_N h_B h_G h_K Y_lo Y_ie Y_ra Y_to Y_te Y_re, cL h_O k_O 8 O_f]) [6, 7] rfl
  have hDc := hD.sub (ws' := [cY h_Y h_O h_N h_B h_G h_K Y_lo Y_ie Y_ra Y_to Y_te Y_re, cL h_O k_O 8 O_f]) [6, 7] (by decide) rfl
  have hKc := hK.sub (tys' := [(k_O, .long)]) [2] rfl
  have hFc := va_free (wc := [cY h_Y h_O h_N h_B h_G h_K Y_lo Y_ie Y_ra Y_to Y_te Y_re, cL h_O k_O 8 O_f]) hD hS hA [6, 7] rfl
  refine va_calli (va_runV (As := [.int (xs (x3 + (1 : Int32)).toNatClampNeg)]) (rest := [.int q_1034]) ⟨hx, hb, hml, hown, hts⟩ (c_Y_count l dC dI h_Y h_O h_N h_B h_G h_K k_O H.size Y_lo Y_ie Y_ra Y_to Y_te Y_re O_f (xs (x3 + (1 : Int32)).toNatClampNeg) q_1043 hC_1043) (cwV 1 hts g_L_96_Y_count rfl rfl rfl (by decide +kernel) ⟨Nat.le_of_ble_eq_true rfl, Nat.le_of_ble_eq_true rfl⟩) ⟨fun a U g mk q => by obtain ⟨q0, q1, qP, qK, qD⟩ := q; exact ⟨q0, q1, qP, va_K.moved (u := U) (U := U.calling g mk a) (Vm.Alike.refl U.vm) qK, qD⟩, va_recv hKc hPc (ci := 2) (q0 := 0) rfl rfl, fun U hU hW => ⟨rfl, by rw [hU], by rw [hU]; exact hPc, va_K.moved hW.alike hKc, hDc.weaken (fun _ _ _ _ => trivial)⟩⟩ rfl rfl hl.1 rfl (lv_room (Nat.le_of_ble_eq_true rfl)) d_L_law_1043 ⟨Nat.le_of_ble_eq_true rfl, Nat.le_of_ble_eq_true rfl⟩) hS (fun q _ h => hFc q h) hFc (fun r u t H1 locs ht hvm hw hB hz1 hk1 hS => ?_)
  obtain ⟨hP1, hK1, hD1⟩ := hB
  replace hw := hw.symm
  subst hw
  rw [ht] at hP1
  obtain ⟨hP, hD⟩ := va_join (wr := [cX h_X h_M h_P h_E1 h_E2 h_E3 X_lo X_ro X_rc, cL h_M k_M 8 M_f, cI h_P k_P 8 P_f, cE h_E1 E1_sg E1_hi E1_lo E1_pl E1_mo, cE h_E2 E2_sg E2_hi E2_lo E2_pl E2_mo, cE h_E3 E3_sg E3_hi E3_lo E3_pl E3_mo, cI h_N k_N 8 N_f, cI h_B k_B 8 B_f, cI h_G k_G 30 G_f, cI h_K k_K 30 K_f]) (w1 := [cY h_Y h_O h_N h_B h_G h_K Y_lo Y_ie Y_ra Y_to Y_te Y_re, cL h_O k_O 8 O_f]) hP hD [6, 7] [0, 1, 2, 3, 4, 5, 8, 9, 10, 11] rfl rfl (by decide) (by decide) hk1 hFc hP1 hD1
  generalize H1 = H at hP hS ⊢
  have hP := hP.sub (ws' := [cX h_X h_M h_P h_E1 h_E2 h_E3 X_lo X_ro X_rc, cL h_M k_M 8 M_f, cI h_P k_P 8 P_f, cE h_E1 E1_sg E1_hi E1_lo E1_pl E1_mo, cE h_E2 E2_sg E2_hi E2_lo E2_pl E2_mo, cE h_E3 E3_sg E3_hi E3_lo E3_pl E3_mo, cY h_Y h_O h_N h_B h_G h_K Y_lo Y_ie Y_ra Y_to Y_te Y_re, cL h_O k_O 8 O_f, cI h_N k_N 8 N_f, cI h_B k_B 8 B_f, cI h_G k_G 30 G_f, cI h_K k_K 30 K_f]) [0, 1, 2, 3, 4, 5, 10, 11, 6, 7, 8, 9] rfl
  have hD := hD.sub (ws' := [cX h_X h_M h_P h_E1 h_E2 h_E3 X_lo X_ro X_rc, cL h_M k_M 8 M_f, cI h_P k_P 8 P_f, cE h_E1 E1_sg E1_hi E1_lo E1_pl E1_mo, cE h_E2 E2_sg E2_hi E2_lo E2_pl E2_mo, cE h_E3 E3_sg E3_hi E3_lo E3_pl E3_mo, cY h_Y h_O h_N h_B h_G h_K Y_lo Y_ie Y_ra Y_to Y_te Y_re, cL h_O k_O 8 O_f, cI h_N k_N 8 N_f, cI h_B k_B 8 B_f, cI h_G k_G 30 G_f, cI h_K k_K 30 K_f]) [0, 1, 2, 3, 4, 5, 10, 11, 6, 7, 8, 9] (by decide) rfl
  refine lv_icmp_eq (tgt := 1051) hx hb d_L_law_1046 (by decide) (fun c_1046 => ?_) (fun c_1046 => ?_)
  · replace hF := hif_t c_1046 hF
    refine lv_iinc (v := (x3 + (5 : Int32))) (lv' := [(3, .int (x3 + (5 : Int32))), (0, .ref h_S), (1, .ref h_X), (2, .ref h_Y)]) hx hb d_L_law_1051 hl (k := 3) rfl rfl (by decide) rfl (fun ls hl => ?_)
    refine lv_goto (tgt := 18) hx hb d_L_law_1054 (by decide) ?_
    exact hk_18 (x3 + (5 : Int32)) X_lo X_ro X_rc M_f P_f E1_sg E1_hi E1_lo E1_pl E1_mo E2_sg E2_hi E2_lo E2_pl E2_mo E3_sg E3_hi E3_lo E3_pl E3_mo Y_lo Y_ie Y_ra Y_to Y_te Y_re O_f N_f B_f G_f K_f _ _ _ hP hD hS (lv_sub hl [1, 2, 3, 0] rfl) hF
  · replace hF := hif_f c_1046 hF
    refine lv_iconst (v := (0 : Int32)) hx hb d_L_law_1049 (by decide) ?_
    exact absurd (Option.some.inj hF) (by decide)
set_option maxHeartbeats 4000000 in
set_option maxRecDepth 100000 in
theorem lb_18 {p : Program} {l : Launch} {e : Env} {s : State} {m : MethodId} {below : List Frame} {meth : Method} {c : Code} {h_S L : Nat} {xs : Nat → Int32} (C0 : lw_At p s m meth c h_S L xs) {A : Nat → Prop} (hA : ∀ q : Nat, s.heap.size ≤ q → A q) (hA2 : ∀ q : Nat, A q → s.heap.size ≤ q) {dC : Nat → ClassId} {dI : Nat → Nat → Nat} {h_X : Nat} {h_M : Nat} {h_P : Nat} {h_E1 : Nat} {h_E2 : Nat} {h_E3 : Nat} {h_Y : Nat} {h_O : Nat} {h_N : Nat} {h_B : Nat} {h_G : Nat} {h_K : Nat} {k_M : ClassId} {k_P : ClassId} {k_O : ClassId} {k_N : ClassId} {k_B : ClassId} {k_G : ClassId} {k_K : ClassId} (hK : va_K (dC, dI) classes [(k_M, .long), (k_P, .int), (k_O, .long), (k_N, .int), (k_B, .boolean), (k_G, .int), (k_K, .int)] s) : ∀ n_ : Nat, ∀ (x3 : Int32) (X_lo : Int32) (X_ro : Int32) (X_rc : Int32) (M_f : Nat → Int64) (P_f : Nat → Int32) (E1_sg : Int32) (E1_hi : Int64) (E1_lo : Int64) (E1_pl : Int32) (E1_mo : Int32) (E2_sg : Int32) (E2_hi : Int64) (E2_lo : Int64) (E2_pl : Int32) (E2_mo : Int32) (E3_sg : Int32) (E3_hi : Int64) (E3_lo : Int64) (E3_pl : Int32) (E3_mo : Int32) (Y_lo : Int32) (Y_ie : Int32) (Y_ra : Int32) (Y_to : Int64) (Y_te : Int32) (Y_re : Int32) (O_f : Nat → Int64) (N_f : Nat → Int32) (B_f : Nat → Int32) (G_f : Nat → Int32) (K_f : Nat → Int32) (H : Heap) (locs : List Loc) (ls : Array Slot), va_P (dC, dI) classes [cX h_X h_M h_P h_E1 h_E2 h_E3 X_lo X_ro X_rc, cL h_M k_M 8 M_f, cI h_P k_P 8 P_f, cE h_E1 E1_sg E1_hi E1_lo E1_pl E1_mo, cE h_E2 E2_sg E2_hi E2_lo E2_pl E2_mo, cE h_E3 E3_sg E3_hi E3_lo E3_pl E3_mo, cY h_Y h_O h_N h_B h_G h_K Y_lo Y_ie Y_ra Y_to Y_te Y_re, cL h_O k_O 8 O_f, cI h_N k_N 8 N_f, cI h_B k_B 8 B_f, cI h_G k_G 30 G_f, cI h_K k_K 30 K_f] H → va_D A [cX h_X h_M h_P h_E1 h_E2 h_E3 X_lo X_ro X_rc, cL h_M k_M 8 M_f, cI h_P k_P 8 P_f, cE h_E1 E1_sg E1_hi E1_lo E1_pl E1_mo, cE h_E2 E2_sg E2_hi E2_lo E2_pl E2_mo, cE h_E3 E3_sg E3_hi E3_lo E3_pl E3_mo, cY h_Y h_O h_N h_B h_G h_K Y_lo Y_ie Y_ra Y_to Y_te Y_re, cL h_O k_O 8 O_f, cI h_N k_N 8 N_f, cI h_B k_B 8 B_f, cI h_G k_G 30 G_f, cI h_K k_K 30 K_f] → va_S A s.heap H locs → lv_has ls 4 [(0, .ref h_S), (1, .ref h_X), (2, .ref h_Y), (3, .int x3)] → f_law_18 L xs n_ x3 X_lo X_ro X_rc M_f P_f E1_sg E1_hi E1_lo E1_pl E1_mo E2_sg E2_hi E2_lo E2_pl E2_mo E3_sg E3_hi E3_lo E3_pl E3_mo Y_lo Y_ie Y_ra Y_to Y_te Y_re O_f N_f B_f G_f K_f = some 1 → W p l e room_1 s m #[Value.ref h_S] below meth c H locs 12 134 (lw_Z below #[Value.ref h_S] s) (F0 m 18 ls []) := by
  obtain ⟨hx, hb, hr, hml, hown, hts1, hX, hbl, hlocks, hgv⟩ := id C0
  have hts : ∀ w ∈ tb, w.before _ s = true := fun w h => hts1 w (List.mem_filter.mp h).1
  clear hts1
  have hbA : ¬ A h_S := fun q => Nat.not_le.mpr hbl (hA2 _ q)
  intro n_
  induction n_ with
  | zero =>
    intro x3 X_lo X_ro X_rc M_f P_f E1_sg E1_hi E1_lo E1_pl E1_mo E2_sg E2_hi E2_lo E2_pl E2_mo E3_sg E3_hi E3_lo E3_pl E3_mo Y_lo Y_ie Y_ra Y_to Y_te Y_re O_f N_f B_f G_f K_f H locs ls hP hD hS hl hF
    rw [f_law_18] at hF
    exact absurd hF (by simp)
  | succ n_ ih =>
    obtain ⟨k_18, ek_18⟩ : ∃ k, k = f_law_18 L xs n_ := ⟨_, rfl⟩
    rw [← ek_18] at ih
    have hk_18 := ih
    intro x3 X_lo X_ro X_rc M_f P_f E1_sg E1_hi E1_lo E1_pl E1_mo E2_sg E2_hi E2_lo E2_pl E2_mo E3_sg E3_hi E3_lo E3_pl E3_mo Y_lo Y_ie Y_ra Y_to Y_te Y_re O_f N_f B_f G_f K_f H locs ls hP hD hS hl hF
    rw [f_law_18, ← ek_18] at hF
    refine lv_iload_n hx hb d_L_law_18 rfl (lv_at hl 3 rfl) ?_
    refine lv_aload_n hx hb d_L_law_19 rfl (lv_at hl 0 rfl) ?_
    refine va_slen hx hb hX hbl hbA hS d_L_law_20 ?_
    refine lv_iconst (v := (5 : Int32)) hx hb d_L_law_21 (by decide) ?_
    refine lv_isub hx hb d_L_law_22 ?_
    refine lv_icmp_gt (tgt := 1057) hx hb d_L_law_23 (by decide) (fun c_23 => ?_) (fun c_23 => ?_)
    · replace hF := hif_t c_23 hF
      refine lv_iconst (v := (1 : Int32)) hx hb d_L_law_1057 (by decide) ?_
      refine va_forget (fun q hq => hA2 _ (hS.2.2 q hq)) ?_
      exact lw_ret hx hb hr hlocks d_L_law_1058
    · replace hF := hif_f c_23 hF
      refine lv_aload_n hx hb d_L_law_26 rfl (lv_at hl 0 rfl) ?_
      refine lv_iload_n hx hb d_L_law_27 rfl (lv_at hl 3 rfl) ?_
      have c_28 : ¬ (x3 < 0 ∨ L ≤ x3.toNatClampNeg) := hif_n hF
      replace hF := hif_f c_28 hF
      refine va_sld hx hb hX hbl hbA hS c_28 d_L_law_28 ?_
      refine lv_bipush (v := (31 : Int32)) hx hb d_L_law_29 (by decide) ?_
      refine lv_iand hx hb d_L_law_31 ?_
      rcases Decidable.em (((xs x3.toNatClampNeg) &&& (31 : Int32)) = (0 : Int32)) with c_32_0 | c_32_0
      · replace hF := hif_t c_32_0 hF
        refine lv_tableIn (tgt := 120) hx hb d_L_law_32 (by rw [c_32_0]; decide) (by rw [c_32_0]; decide) (by rw [c_32_0]; rfl) (by decide) ?_
        exact lb_120 C0 hA hA2 hK k_18 hk_18 x3 X_lo X_ro X_rc M_f P_f E1_sg E1_hi E1_lo E1_pl E1_mo E2_sg E2_hi E2_lo E2_pl E2_mo E3_sg E3_hi E3_lo E3_pl E3_mo Y_lo Y_ie Y_ra Y_to Y_te Y_re O_f N_f B_f G_f K_f _ _ _ hP hD hS (lv_sub hl [0, 1, 2, 3] rfl) hF
      · replace hF := hif_f c_32_0 hF
        rcases Decidable.em (((xs x3.toNatClampNeg) &&& (31 : Int32)) = (1 : Int32)) with c_32_1 | c_32_1
        · replace hF := hif_t c_32_1 hF
          refine lv_tableIn (tgt := 193) hx hb d_L_law_32 (by rw [c_32_1]; decide) (by rw [c_32_1]; decide) (by rw [c_32_1]; rfl) (by decide) ?_
          exact lb_193 C0 hA hA2 hK k_18 hk_18 x3 X_lo X_ro X_rc M_f P_f E1_sg E1_hi E1_lo E1_pl E1_mo E2_sg E2_hi E2_lo E2_pl E2_mo E3_sg E3_hi E3_lo E3_pl E3_mo Y_lo Y_ie Y_ra Y_to Y_te Y_re O_f N_f B_f G_f K_f _ _ _ hP hD hS (lv_sub hl [0, 1, 2, 3] rfl) hF
        · replace hF := hif_f c_32_1 hF
          rcases Decidable.em (((xs x3.toNatClampNeg) &&& (31 : Int32)) = (2 : Int32)) with c_32_2 | c_32_2
          · replace hF := hif_t c_32_2 hF
            refine lv_tableIn (tgt := 262) hx hb d_L_law_32 (by rw [c_32_2]; decide) (by rw [c_32_2]; decide) (by rw [c_32_2]; rfl) (by decide) ?_
            exact lb_262 C0 hA hA2 hK k_18 hk_18 x3 X_lo X_ro X_rc M_f P_f E1_sg E1_hi E1_lo E1_pl E1_mo E2_sg E2_hi E2_lo E2_pl E2_mo E3_sg E3_hi E3_lo E3_pl E3_mo Y_lo Y_ie Y_ra Y_to Y_te Y_re O_f N_f B_f G_f K_f _ _ _ hP hD hS (lv_sub hl [0, 1, 2, 3] rfl) hF
          · replace hF := hif_f c_32_2 hF
            rcases Decidable.em (((xs x3.toNatClampNeg) &&& (31 : Int32)) = (3 : Int32)) with c_32_3 | c_32_3
            · replace hF := hif_t c_32_3 hF
              refine lv_tableIn (tgt := 331) hx hb d_L_law_32 (by rw [c_32_3]; decide) (by rw [c_32_3]; decide) (by rw [c_32_3]; rfl) (by decide) ?_
              exact lb_331 C0 hA hA2 hK k_18 hk_18 x3 X_lo X_ro X_rc M_f P_f E1_sg E1_hi E1_lo E1_pl E1_mo E2_sg E2_hi E2_lo E2_pl E2_mo E3_sg E3_hi E3_lo E3_pl E3_mo Y_lo Y_ie Y_ra Y_to Y_te Y_re O_f N_f B_f G_f K_f _ _ _ hP hD hS (lv_sub hl [0, 1, 2, 3] rfl) hF
            · replace hF := hif_f c_32_3 hF
              rcases Decidable.em (((xs x3.toNatClampNeg) &&& (31 : Int32)) = (4 : Int32)) with c_32_4 | c_32_4
              · replace hF := hif_t c_32_4 hF
                refine lv_tableIn (tgt := 400) hx hb d_L_law_32 (by rw [c_32_4]; decide) (by rw [c_32_4]; decide) (by rw [c_32_4]; rfl) (by decide) ?_
                exact lb_400 C0 hA hA2 hK k_18 hk_18 x3 X_lo X_ro X_rc M_f P_f E1_sg E1_hi E1_lo E1_pl E1_mo E2_sg E2_hi E2_lo E2_pl E2_mo E3_sg E3_hi E3_lo E3_pl E3_mo Y_lo Y_ie Y_ra Y_to Y_te Y_re O_f N_f B_f G_f K_f _ _ _ hP hD hS (lv_sub hl [0, 1, 2, 3] rfl) hF
              · replace hF := hif_f c_32_4 hF
                rcases Decidable.em (((xs x3.toNatClampNeg) &&& (31 : Int32)) = (5 : Int32)) with c_32_5 | c_32_5
                · replace hF := hif_t c_32_5 hF
                  refine lv_tableIn (tgt := 469) hx hb d_L_law_32 (by rw [c_32_5]; decide) (by rw [c_32_5]; decide) (by rw [c_32_5]; rfl) (by decide) ?_
                  exact lb_469 C0 hA hA2 hK k_18 hk_18 x3 X_lo X_ro X_rc M_f P_f E1_sg E1_hi E1_lo E1_pl E1_mo E2_sg E2_hi E2_lo E2_pl E2_mo E3_sg E3_hi E3_lo E3_pl E3_mo Y_lo Y_ie Y_ra Y_to Y_te Y_re O_f N_f B_f G_f K_f _ _ _ hP hD hS (lv_sub hl [0, 1, 2, 3] rfl) hF
                · replace hF := hif_f c_32_5 hF
                  rcases Decidable.em (((xs x3.toNatClampNeg) &&& (31 : Int32)) = (6 : Int32)) with c_32_6 | c_32_6
                  · replace hF := hif_t c_32_6 hF
                    refine lv_tableIn (tgt := 522) hx hb d_L_law_32 (by rw [c_32_6]; decide) (by rw [c_32_6]; decide) (by rw [c_32_6]; rfl) (by decide) ?_
                    exact lb_522 C0 hA hA2 hK k_18 hk_18 x3 X_lo X_ro X_rc M_f P_f E1_sg E1_hi E1_lo E1_pl E1_mo E2_sg E2_hi E2_lo E2_pl E2_mo E3_sg E3_hi E3_lo E3_pl E3_mo Y_lo Y_ie Y_ra Y_to Y_te Y_re O_f N_f B_f G_f K_f _ _ _ hP hD hS (lv_sub hl [0, 1, 2, 3] rfl) hF
                  · replace hF := hif_f c_32_6 hF
                    rcases Decidable.em (((xs x3.toNatClampNeg) &&& (31 : Int32)) = (7 : Int32)) with c_32_7 | c_32_7
                    · replace hF := hif_t c_32_7 hF
                      refine lv_tableIn (tgt := 575) hx hb d_L_law_32 (by rw [c_32_7]; decide) (by rw [c_32_7]; decide) (by rw [c_32_7]; rfl) (by decide) ?_
                      exact lb_575 C0 hA hA2 hK k_18 hk_18 x3 X_lo X_ro X_rc M_f P_f E1_sg E1_hi E1_lo E1_pl E1_mo E2_sg E2_hi E2_lo E2_pl E2_mo E3_sg E3_hi E3_lo E3_pl E3_mo Y_lo Y_ie Y_ra Y_to Y_te Y_re O_f N_f B_f G_f K_f _ _ _ hP hD hS (lv_sub hl [0, 1, 2, 3] rfl) hF
                    · replace hF := hif_f c_32_7 hF
                      rcases Decidable.em (((xs x3.toNatClampNeg) &&& (31 : Int32)) = (8 : Int32)) with c_32_8 | c_32_8
                      · replace hF := hif_t c_32_8 hF
                        refine lv_tableIn (tgt := 634) hx hb d_L_law_32 (by rw [c_32_8]; decide) (by rw [c_32_8]; decide) (by rw [c_32_8]; rfl) (by decide) ?_
                        exact lb_634 C0 hA hA2 hK k_18 hk_18 x3 X_lo X_ro X_rc M_f P_f E1_sg E1_hi E1_lo E1_pl E1_mo E2_sg E2_hi E2_lo E2_pl E2_mo E3_sg E3_hi E3_lo E3_pl E3_mo Y_lo Y_ie Y_ra Y_to Y_te Y_re O_f N_f B_f G_f K_f _ _ _ hP hD hS (lv_sub hl [0, 1, 2, 3] rfl) hF
                      · replace hF := hif_f c_32_8 hF
                        rcases Decidable.em (((xs x3.toNatClampNeg) &&& (31 : Int32)) = (9 : Int32)) with c_32_9 | c_32_9
                        · replace hF := hif_t c_32_9 hF
                          refine lv_tableIn (tgt := 677) hx hb d_L_law_32 (by rw [c_32_9]; decide) (by rw [c_32_9]; decide) (by rw [c_32_9]; rfl) (by decide) ?_
                          exact lb_677 C0 hA hA2 hK k_18 hk_18 x3 X_lo X_ro X_rc M_f P_f E1_sg E1_hi E1_lo E1_pl E1_mo E2_sg E2_hi E2_lo E2_pl E2_mo E3_sg E3_hi E3_lo E3_pl E3_mo Y_lo Y_ie Y_ra Y_to Y_te Y_re O_f N_f B_f G_f K_f _ _ _ hP hD hS (lv_sub hl [0, 1, 2, 3] rfl) hF
                        · replace hF := hif_f c_32_9 hF
                          rcases Decidable.em (((xs x3.toNatClampNeg) &&& (31 : Int32)) = (10 : Int32)) with c_32_10 | c_32_10
                          · replace hF := hif_t c_32_10 hF
                            refine lv_tableIn (tgt := 736) hx hb d_L_law_32 (by rw [c_32_10]; decide) (by rw [c_32_10]; decide) (by rw [c_32_10]; rfl) (by decide) ?_
                            exact lb_736 C0 hA hA2 hK k_18 hk_18 x3 X_lo X_ro X_rc M_f P_f E1_sg E1_hi E1_lo E1_pl E1_mo E2_sg E2_hi E2_lo E2_pl E2_mo E3_sg E3_hi E3_lo E3_pl E3_mo Y_lo Y_ie Y_ra Y_to Y_te Y_re O_f N_f B_f G_f K_f _ _ _ hP hD hS (lv_sub hl [0, 1, 2, 3] rfl) hF
                          · replace hF := hif_f c_32_10 hF
                            rcases Decidable.em (((xs x3.toNatClampNeg) &&& (31 : Int32)) = (11 : Int32)) with c_32_11 | c_32_11
                            · replace hF := hif_t c_32_11 hF
                              refine lv_tableIn (tgt := 779) hx hb d_L_law_32 (by rw [c_32_11]; decide) (by rw [c_32_11]; decide) (by rw [c_32_11]; rfl) (by decide) ?_
                              exact lb_779 C0 hA hA2 hK k_18 hk_18 x3 X_lo X_ro X_rc M_f P_f E1_sg E1_hi E1_lo E1_pl E1_mo E2_sg E2_hi E2_lo E2_pl E2_mo E3_sg E3_hi E3_lo E3_pl E3_mo Y_lo Y_ie Y_ra Y_to Y_te Y_re O_f N_f B_f G_f K_f _ _ _ hP hD hS (lv_sub hl [0, 1, 2, 3] rfl) hF
                            · replace hF := hif_f c_32_11 hF
                              rcases Decidable.em (((xs x3.toNatClampNeg) &&& (31 : Int32)) = (12 : Int32)) with c_32_12 | c_32_12
                              · replace hF := hif_t c_32_12 hF
                                refine lv_tableIn (tgt := 864) hx hb d_L_law_32 (by rw [c_32_12]; decide) (by rw [c_32_12]; decide) (by rw [c_32_12]; rfl) (by decide) ?_
                                exact lb_864 C0 hA hA2 hK k_18 hk_18 x3 X_lo X_ro X_rc M_f P_f E1_sg E1_hi E1_lo E1_pl E1_mo E2_sg E2_hi E2_lo E2_pl E2_mo E3_sg E3_hi E3_lo E3_pl E3_mo Y_lo Y_ie Y_ra Y_to Y_te Y_re O_f N_f B_f G_f K_f _ _ _ hP hD hS (lv_sub hl [0, 1, 2, 3] rfl) hF
                              · replace hF := hif_f c_32_12 hF
                                rcases Decidable.em (((xs x3.toNatClampNeg) &&& (31 : Int32)) = (13 : Int32)) with c_32_13 | c_32_13
                                · replace hF := hif_t c_32_13 hF
                                  refine lv_tableIn (tgt := 897) hx hb d_L_law_32 (by rw [c_32_13]; decide) (by rw [c_32_13]; decide) (by rw [c_32_13]; rfl) (by decide) ?_
                                  exact lb_897 C0 hA hA2 hK k_18 hk_18 x3 X_lo X_ro X_rc M_f P_f E1_sg E1_hi E1_lo E1_pl E1_mo E2_sg E2_hi E2_lo E2_pl E2_mo E3_sg E3_hi E3_lo E3_pl E3_mo Y_lo Y_ie Y_ra Y_to Y_te Y_re O_f N_f B_f G_f K_f _ _ _ hP hD hS (lv_sub hl [0, 1, 2, 3] rfl) hF
                                · replace hF := hif_f c_32_13 hF
                                  rcases Decidable.em (((xs x3.toNatClampNeg) &&& (31 : Int32)) = (14 : Int32)) with c_32_14 | c_32_14
                                  · replace hF := hif_t c_32_14 hF
                                    refine lv_tableIn (tgt := 930) hx hb d_L_law_32 (by rw [c_32_14]; decide) (by rw [c_32_14]; decide) (by rw [c_32_14]; rfl) (by decide) ?_
                                    exact lb_930 C0 hA hA2 hK k_18 hk_18 x3 X_lo X_ro X_rc M_f P_f E1_sg E1_hi E1_lo E1_pl E1_mo E2_sg E2_hi E2_lo E2_pl E2_mo E3_sg E3_hi E3_lo E3_pl E3_mo Y_lo Y_ie Y_ra Y_to Y_te Y_re O_f N_f B_f G_f K_f _ _ _ hP hD hS (lv_sub hl [0, 1, 2, 3] rfl) hF
                                  · replace hF := hif_f c_32_14 hF
                                    rcases Decidable.em (((xs x3.toNatClampNeg) &&& (31 : Int32)) = (15 : Int32)) with c_32_15 | c_32_15
                                    · replace hF := hif_t c_32_15 hF
                                      refine lv_tableIn (tgt := 954) hx hb d_L_law_32 (by rw [c_32_15]; decide) (by rw [c_32_15]; decide) (by rw [c_32_15]; rfl) (by decide) ?_
                                      exact lb_954 C0 hA hA2 hK k_18 hk_18 x3 X_lo X_ro X_rc M_f P_f E1_sg E1_hi E1_lo E1_pl E1_mo E2_sg E2_hi E2_lo E2_pl E2_mo E3_sg E3_hi E3_lo E3_pl E3_mo Y_lo Y_ie Y_ra Y_to Y_te Y_re O_f N_f B_f G_f K_f _ _ _ hP hD hS (lv_sub hl [0, 1, 2, 3] rfl) hF
                                    · replace hF := hif_f c_32_15 hF
                                      rcases Decidable.em (((xs x3.toNatClampNeg) &&& (31 : Int32)) = (16 : Int32)) with c_32_16 | c_32_16
                                      · replace hF := hif_t c_32_16 hF
                                        refine lv_tableIn (tgt := 978) hx hb d_L_law_32 (by rw [c_32_16]; decide) (by rw [c_32_16]; decide) (by rw [c_32_16]; rfl) (by decide) ?_
                                        exact lb_978 C0 hA hA2 hK k_18 hk_18 x3 X_lo X_ro X_rc M_f P_f E1_sg E1_hi E1_lo E1_pl E1_mo E2_sg E2_hi E2_lo E2_pl E2_mo E3_sg E3_hi E3_lo E3_pl E3_mo Y_lo Y_ie Y_ra Y_to Y_te Y_re O_f N_f B_f G_f K_f _ _ _ hP hD hS (lv_sub hl [0, 1, 2, 3] rfl) hF
                                      · replace hF := hif_f c_32_16 hF
                                        rcases Decidable.em (((xs x3.toNatClampNeg) &&& (31 : Int32)) = (17 : Int32)) with c_32_17 | c_32_17
                                        · replace hF := hif_t c_32_17 hF
                                          refine lv_tableIn (tgt := 1028) hx hb d_L_law_32 (by rw [c_32_17]; decide) (by rw [c_32_17]; decide) (by rw [c_32_17]; rfl) (by decide) ?_
                                          exact lb_1028 C0 hA hA2 hK k_18 hk_18 x3 X_lo X_ro X_rc M_f P_f E1_sg E1_hi E1_lo E1_pl E1_mo E2_sg E2_hi E2_lo E2_pl E2_mo E3_sg E3_hi E3_lo E3_pl E3_mo Y_lo Y_ie Y_ra Y_to Y_te Y_re O_f N_f B_f G_f K_f _ _ _ hP hD hS (lv_sub hl [0, 1, 2, 3] rfl) hF
                                        · replace hF := hif_f c_32_17 hF
                                          have z_0 := lv_neT c_32_0 (a := 0) (by decide)
                                          have z_1 := lv_neT c_32_1 (a := 1) (by decide)
                                          have z_2 := lv_neT c_32_2 (a := 2) (by decide)
                                          have z_3 := lv_neT c_32_3 (a := 3) (by decide)
                                          have z_4 := lv_neT c_32_4 (a := 4) (by decide)
                                          have z_5 := lv_neT c_32_5 (a := 5) (by decide)
                                          have z_6 := lv_neT c_32_6 (a := 6) (by decide)
                                          have z_7 := lv_neT c_32_7 (a := 7) (by decide)
                                          have z_8 := lv_neT c_32_8 (a := 8) (by decide)
                                          have z_9 := lv_neT c_32_9 (a := 9) (by decide)
                                          have z_10 := lv_neT c_32_10 (a := 10) (by decide)
                                          have z_11 := lv_neT c_32_11 (a := 11) (by decide)
                                          have z_12 := lv_neT c_32_12 (a := 12) (by decide)
                                          have z_13 := lv_neT c_32_13 (a := 13) (by decide)
                                          have z_14 := lv_neT c_32_14 (a := 14) (by decide)
                                          have z_15 := lv_neT c_32_15 (a := 15) (by decide)
                                          have z_16 := lv_neT c_32_16 (a := 16) (by decide)
                                          have z_17 := lv_neT c_32_17 (a := 17) (by decide)
                                          refine lv_tableOut (tgt := 1051) hx hb d_L_law_32 (by omega) (by decide) ?_
                                          refine lv_iinc (v := (x3 + (5 : Int32))) (lv' := [(3, .int (x3 + (5 : Int32))), (0, .ref h_S), (1, .ref h_X), (2, .ref h_Y)]) hx hb d_L_law_1051 hl (k := 3) rfl rfl (by decide) rfl (fun ls hl => ?_)
                                          refine lv_goto (tgt := 18) hx hb d_L_law_1054 (by decide) ?_
                                          exact hk_18 (x3 + (5 : Int32)) X_lo X_ro X_rc M_f P_f E1_sg E1_hi E1_lo E1_pl E1_mo E2_sg E2_hi E2_lo E2_pl E2_mo E3_sg E3_hi E3_lo E3_pl E3_mo Y_lo Y_ie Y_ra Y_to Y_te Y_re O_f N_f B_f G_f K_f _ _ _ hP hD hS (lv_sub hl [1, 2, 3, 0] rfl) hF
