set_option maxHeartbeats 4000000 in
set_option maxRecDepth 100000 in
theorem lb_461 {p : Program} {l : Launch} {e : Env} {s : State} {m : MethodId} {below : List Frame} {meth : Method} {c : Code} {h_S L : Nat} {xs : Nat → Int32} (C0 : lw_At p s m meth c h_S L xs) {A : Nat → Prop} (hA : ∀ q : Nat, s.heap.size ≤ q → A q) (hA2 : ∀ q : Nat, A q → s.heap.size ≤ q) {dC : Nat → ClassId} {dI : Nat → Nat → Nat} {h_X : Nat} {h_M : Nat} {h_P : Nat} {h_E1 : Nat} {h_E2 : Nat} {h_E3 : Nat} {h_Y : Nat} {h_O : Nat} {h_N : Nat} {h_B : Nat} {h_G : Nat} {h_K : Nat} {k_M : ClassId} {k_P : ClassId} {k_O : ClassId} {k_N : ClassId} {k_B : ClassId} {k_G : ClassId} {k_K : ClassId} (hK : va_K (dC, dI) classes [(k_M, .long), (k_P, .int), (k_O, .long), (k_N, .int), (k_B, .boolean), (k_G, .int), (k_K, .int)] s) : ∀ (k_18 : (Int32) → (Int32) → (Int32) → (Int32) → (Nat → Int64) → (Nat → Int32) → (Int32) → (Int64) → (Int64) → (Int32) → (Int32) → (Int32) → (Int64) → (Int64) → (Int32) → (Int32) → (Int32) → (Int64) → (Int64) → (Int32) → (Int32) → (Int32) → (Int32) → (Int32) → (Int64) → (Int32) → (Int32) → (Nat → Int64) → (Nat → Int32) → (Nat → Int32) → (Nat → Int32) → (Nat → Int32) → Option (Int32)), (∀ (x3 : Int32) (X_lo : Int32) (X_ro : Int32) (X_rc : Int32) (M_f : Nat → Int64) (P_f : Nat → Int32) (E1_sg : Int32) (E1_hi : Int64) (E1_lo : Int64) (E1_pl : Int32) (E1_mo : Int32) (E2_sg : Int32) (E2_hi : Int64) (E2_lo : Int64) (E2_pl : Int32) (E2_mo : Int32) (E3_sg : Int32) (E3_hi : Int64) (E3_lo : Int64) (E3_pl : Int32) (E3_mo : Int32) (Y_lo : Int32) (Y_ie : Int32) (Y_ra : Int32) (Y_to : Int64) (Y_te : Int32) (Y_re : Int32) (O_f : Nat → Int64) (N_f : Nat → Int32) (B_f : Nat → Int32) (G_f : Nat → Int32) (K_f : Nat → Int32) (H : Heap) (locs : List Loc) (ls : Array Slot), va_P (dC, dI) classes [cX h_X h_M h_P h_E1 h_E2 h_E3 X_lo X_ro X_rc, cL h_M k_M 8 M_f, cI h_P k_P 8 P_f, cE h_E1 E1_sg E1_hi E1_lo E1_pl E1_mo, cE h_E2 E2_sg E2_hi E2_lo E2_pl E2_mo, cE h_E3 E3_sg E3_hi E3_lo E3_pl E3_mo, cY h_Y h_O h_N h_B h_G h_K Y_lo Y_ie Y_ra Y_to Y_te Y_re, cL h_O k_O 8 O_f, cI h_N k_N 8 N_f, cI h_B k_B 8 B_f, cI h_G k_G 30 G_f, cI h_K k_K 30 K_f] H → va_D A [cX h_X h_M h_P h_E1 h_E2 h_E3 X_lo X_ro X_rc, cL h_M k_M 8 M_f, cI h_P k_P 8 P_f, cE h_E1 E1_sg E1_hi E1_lo E1_pl E1_mo, cE h_E2 E2_sg E2_hi E2_lo E2_pl E2_mo, cE h_E3 E3_sg E3_hi E3_lo E3_pl E3_mo, cY h_Y h_O h_N h_B h_G h_K Y_lo Y_ie Y_ra Y_to Y_te Y_re, cL h_O k_O 8 O_f, cI h_N k_N 8 N_f, cI h_B k_B 8 B_f, cI h_G k_G 30 G_f, cI h_K k_K 30 K_f] → va_S A s.heap H locs → lv_has ls 4 [(0, .ref h_S), (1, .ref h_X), (2, .ref h_Y), (3, .int x3)] → k_18 x3 X_lo X_ro X_rc M_f P_f E1_sg E1_hi E1_lo E1_pl E1_mo E2_sg E2_hi E2_lo E2_pl E2_mo E3_sg E3_hi E3_lo E3_pl E3_mo Y_lo Y_ie Y_ra Y_to Y_te Y_re O_f N_f B_f G_f K_f = some 1 → W p l e room_1 s m #[Value.ref h_S] below meth c H locs 12 134 (lw_Z below #[Value.ref h_S] s) (F0 m 18 ls [])) → ∀ (x3 : Int32) (y0 : Int32) (y1 : Int32) (y2 : Int32) (y3 : Int32) (y5 : Int32) (X_lo : Int32) (X_ro : Int32) (X_rc : Int32) (M_f : Nat → Int64) (P_f : Nat → Int32) (E1_sg : Int32) (E1_hi : Int64) (E1_lo : Int64) (E1_pl : Int32) (E1_mo : Int32) (E2_sg : Int32) (E2_hi : Int64) (E2_lo : Int64) (E2_pl : Int32) (E2_mo : Int32) (E3_sg : Int32) (E3_hi : Int64) (E3_lo : Int64) (E3_pl : Int32) (E3_mo : Int32) (Y_lo : Int32) (Y_ie : Int32) (Y_ra : Int32) (Y_to : Int64) (Y_te : Int32) (Y_re : Int32) (O_f : Nat → Int64) (N_f : Nat → Int32) (B_f : Nat → Int32) (G_f : Nat → Int32) (K_f : Nat → Int32) (H : Heap) (locs : List Loc) (ls : Array Slot), va_P (dC, dI) classes [cX h_X h_M h_P h_E1 h_E2 h_E3 X_lo X_ro X_rc, cL h_M k_M 8 M_f, cI h_P k_P 8 P_f, cE h_E1 E1_sg E1_hi E1_lo E1_pl E1_mo, cE h_E2 E2_sg E2_hi E2_lo E2_pl E2_mo, cE h_E3 E3_sg E3_hi E3_lo E3_pl E3_mo, cY h_Y h_O h_N h_B h_G h_K Y_lo Y_ie Y_ra Y_to Y_te Y_re, cL h_O k_O 8 O_f, cI h_N k_N 8 N_f, cI h_B k_B 8 B_f, cI h_G k_G 30 G_f, cI h_K k_K 30 K_f] H → va_D A [cX h_X h_M h_P h_E1 h_E2 h_E3 X_lo X_ro X_rc, cL h_M k_M 8 M_f, cI h_P k_P 8 P_f, cE h_E1 E1_sg E1_hi E1_lo E1_pl E1_mo, cE h_E2 E2_sg E2_hi E2_lo E2_pl E2_mo, cE h_E3 E3_sg E3_hi E3_lo E3_pl E3_mo, cY h_Y h_O h_N h_B h_G h_K Y_lo Y_ie Y_ra Y_to Y_te Y_re, cL h_O k_O 8 O_f, cI h_N k_N 8 N_f, cI h_B k_B 8 B_f, cI h_G k_G 30 G_f, cI h_K k_K 30 K_f] → va_S A s.heap H locs → lv_has ls 4 [(0, .ref h_S), (1, .ref h_X), (2, .ref h_Y), (3, .int x3)] → f_law_461 L xs k_18 x3 y0 y1 y2 y3 y5 X_lo X_ro X_rc M_f P_f E1_sg E1_hi E1_lo E1_pl E1_mo E2_sg E2_hi E2_lo E2_pl E2_mo E3_sg E3_hi E3_lo E3_pl E3_mo Y_lo Y_ie Y_ra Y_to Y_te Y_re O_f N_f B_f G_f K_f = some 1 → W p l e room_1 s m #[Value.ref h_S] below meth c H locs 12 134 (lw_Z below #[Value.ref h_S] s) (F0 m 461 ls [.int y0, .int y1, .int y2, .int y3, .ref h_Y, .int y5]) := by
  obtain ⟨hx, hb, hr, hml, hown, hts1, hX, hbl, hlocks, hgv⟩ := id C0
  have hts : ∀ w ∈ tb, w.before _ s = true := fun w h => hts1 w (List.mem_filter.mp h).1
  clear hts1
  have hbA : ¬ A h_S := fun q => Nat.not_le.mpr hbl (hA2 _ q)
  intro k_18 hk_18 x3 y0 y1 y2 y3 y5 X_lo X_ro X_rc M_f P_f E1_sg E1_hi E1_lo E1_pl E1_mo E2_sg E2_hi E2_lo E2_pl E2_mo E3_sg E3_hi E3_lo E3_pl E3_mo Y_lo Y_ie Y_ra Y_to Y_te Y_re O_f N_f B_f G_f K_f H locs ls hP hD hS hl hF
  unfold f_law_461 at hF
  obtain ⟨q_461, hC_461, hF⟩ := hbd hF
  have hPc := hP.sub (ws' := [cY h_Y h_O h_N h_B h_G h_K Y_lo Y_ie Y_ra Y_to Y_te Y_re, cL h_O k_O 8 O_f, cI h_N k_N 8 N_f, cI h_B k_B 8 B_f]) [6, 7, 8, 9] rfl
  have hDc := hD.sub (ws' := [cY h_Y h_O h_N h_B h_G h_K Y_lo Y_ie Y_ra Y_to Y_te Y_re, cL h_O k_O 8 O_f, cI h_N k_N 8 N_f, cI h_B k_B 8 B_f]) [6, 7, 8, 9] (by decide) rfl
  have hKc := hK.sub (tys' := [(k_O, .long), (k_N, .int), (k_B, .boolean)]) [2, 3, 4] rfl
  have hFc := va_free (wc := [cY h_Y h_O h_N h_B h_G h_K Y_lo Y_ie Y_ra Y_to Y_te Y_re, cL h_O k_O 8 O_f, cI h_N k_N 8 N_f, cI h_B k_B 8 B_f]) hD hS hA [6, 7, 8, 9] rfl
  refine va_calli (va_runV (As := [.int y3, .int y2, .int y1, .int y0]) (rest := [.int y5]) ⟨hx, hb, hml, hown, hts⟩ (c_Y_divide l dC dI h_Y h_O h_N h_B h_G h_K k_O k_N k_B H.size Y_lo Y_ie Y_ra Y_to Y_te Y_re O_f N_f B_f y3 y2 y1 y0 q_461 hC_461) (cwV 4 hts g_L_36_Y_divide rfl rfl rfl (by decide +kernel) ⟨Nat.le_of_ble_eq_true rfl, Nat.le_of_ble_eq_true rfl⟩) ⟨fun a U g mk q => by obtain ⟨q0, q1, qP, qK, qD⟩ := q; exact ⟨q0, q1, qP, va_K.moved (u := U) (U := U.calling g mk a) (Vm.Alike.refl U.vm) qK, qD⟩, va_recv hKc hPc (ci := 2) (q0 := 0) rfl rfl, fun U hU hW => ⟨rfl, by rw [hU], by rw [hU]; exact hPc, va_K.moved hW.alike hKc, hDc.weaken (fun _ _ _ _ => trivial)⟩⟩ rfl rfl hl.1 rfl (lv_room (Nat.le_of_ble_eq_true rfl)) d_L_law_461 ⟨Nat.le_of_ble_eq_true rfl, Nat.le_of_ble_eq_true rfl⟩) hS (fun q _ h => hFc q h) hFc (fun r u t H1 locs ht hvm hw hB hz1 hk1 hS => ?_)
  obtain ⟨hP1, hK1, hD1⟩ := hB
  replace hw := hw.symm
  subst hw
  rw [ht] at hP1
  obtain ⟨hP, hD⟩ := va_join (wr := [cX h_X h_M h_P h_E1 h_E2 h_E3 X_lo X_ro X_rc, cL h_M k_M 8 M_f, cI h_P k_P 8 P_f, cE h_E1 E1_sg E1_hi E1_lo E1_pl E1_mo, cE h_E2 E2_sg E2_hi E2_lo E2_pl E2_mo, cE h_E3 E3_sg E3_hi E3_lo E3_pl E3_mo, cI h_G k_G 30 G_f, cI h_K k_K 30 K_f]) (w1 := [cY h_Y h_O h_N h_B h_G h_K q_461.2.1 q_461.2.2.1 q_461.2.2.2.1 q_461.2.2.2.2.1 q_461.2.2.2.2.2.1 q_461.2.2.2.2.2.2.1, cL h_O k_O 8 q_461.2.2.2.2.2.2.2.1, cI h_N k_N 8 q_461.2.2.2.2.2.2.2.2.1, cI h_B k_B 8 q_461.2.2.2.2.2.2.2.2.2]) hP hD [6, 7, 8, 9] [0, 1, 2, 3, 4, 5, 10, 11] rfl rfl (by decide) (by decide) hk1 hFc hP1 hD1
  generalize H1 = H at hP hS ⊢
  have hP := hP.sub (ws' := [cX h_X h_M h_P h_E1 h_E2 h_E3 X_lo X_ro X_rc, cL h_M k_M 8 M_f, cI h_P k_P 8 P_f, cE h_E1 E1_sg E1_hi E1_lo E1_pl E1_mo, cE h_E2 E2_sg E2_hi E2_lo E2_pl E2_mo, cE h_E3 E3_sg E3_hi E3_lo E3_pl E3_mo, cY h_Y h_O h_N h_B h_G h_K q_461.2.1 q_461.2.2.1 q_461.2.2.2.1 q_461.2.2.2.2.1 q_461.2.2.2.2.2.1 q_461.2.2.2.2.2.2.1, cL h_O k_O 8 q_461.2.2.2.2.2.2.2.1, cI h_N k_N 8 q_461.2.2.2.2.2.2.2.2.1, cI h_B k_B 8 q_461.2.2.2.2.2.2.2.2.2, cI h_G k_G 30 G_f, cI h_K k_K 30 K_f]) [0, 1, 2, 3, 4, 5, 8, 9, 10, 11, 6, 7] rfl
  have hD := hD.sub (ws' := [cX h_X h_M h_P h_E1 h_E2 h_E3 X_lo X_ro X_rc, cL h_M k_M 8 M_f, cI h_P k_P 8 P_f, cE h_E1 E1_sg E1_hi E1_lo E1_pl E1_mo, cE h_E2 E2_sg E2_hi E2_lo E2_pl E2_mo, cE h_E3 E3_sg E3_hi E3_lo E3_pl E3_mo, cY h_Y h_O h_N h_B h_G h_K q_461.2.1 q_461.2.2.1 q_461.2.2.2.1 q_461.2.2.2.2.1 q_461.2.2.2.2.2.1 q_461.2.2.2.2.2.2.1, cL h_O k_O 8 q_461.2.2.2.2.2.2.2.1, cI h_N k_N 8 q_461.2.2.2.2.2.2.2.2.1, cI h_B k_B 8 q_461.2.2.2.2.2.2.2.2.2, cI h_G k_G 30 G_f, cI h_K k_K 30 K_f]) [0, 1, 2, 3, 4, 5, 8, 9, 10, 11, 6, 7] (by decide) rfl
  refine lv_icmp_eq (tgt := 1051) hx hb d_L_law_464 (by decide) (fun c_464 => ?_) (fun c_464 => ?_)
  · replace hF := hif_t c_464 hF
    refine lv_iinc (v := (x3 + (5 : Int32))) (lv' := [(3, .int (x3 + (5 : Int32))), (0, .ref h_S), (1, .ref h_X), (2, .ref h_Y)]) hx hb d_L_law_1051 hl (k := 3) rfl rfl (by decide) rfl (fun ls hl => ?_)
    refine lv_goto (tgt := 18) hx hb d_L_law_1054 (by decide) ?_
    exact hk_18 (x3 + (5 : Int32)) X_lo X_ro X_rc M_f P_f E1_sg E1_hi E1_lo E1_pl E1_mo E2_sg E2_hi E2_lo E2_pl E2_mo E3_sg E3_hi E3_lo E3_pl E3_mo q_461.2.1 q_461.2.2.1 q_461.2.2.2.1 q_461.2.2.2.2.1 q_461.2.2.2.2.2.1 q_461.2.2.2.2.2.2.1 q_461.2.2.2.2.2.2.2.1 q_461.2.2.2.2.2.2.2.2.1 q_461.2.2.2.2.2.2.2.2.2 G_f K_f _ _ _ hP hD hS (lv_sub hl [1, 2, 3, 0] rfl) hF
  · replace hF := hif_f c_464 hF
    refine lv_iconst (v := (0 : Int32)) hx hb d_L_law_467 (by decide) ?_
    exact absurd (Option.some.inj hF) (by decide)
set_option maxHeartbeats 4000000 in
set_option maxRecDepth 100000 in
theorem lb_429 {p : Program} {l : Launch} {e : Env} {s : State} {m : MethodId} {below : List Frame} {meth : Method} {c : Code} {h_S L : Nat} {xs : Nat → Int32} (C0 : lw_At p s m meth c h_S L xs) {A : Nat → Prop} (hA : ∀ q : Nat, s.heap.size ≤ q → A q) (hA2 : ∀ q : Nat, A q → s.heap.size ≤ q) {dC : Nat → ClassId} {dI : Nat → Nat → Nat} {h_X : Nat} {h_M : Nat} {h_P : Nat} {h_E1 : Nat} {h_E2 : Nat} {h_E3 : Nat} {h_Y : Nat} {h_O : Nat} {h_N : Nat} {h_B : Nat} {h_G : Nat} {h_K : Nat} {k_M : ClassId} {k_P : ClassId} {k_O : ClassId} {k_N : ClassId} {k_B : ClassId} {k_G : ClassId} {k_K : ClassId} (hK : va_K (dC, dI) classes [(k_M, .long), (k_P, .int), (k_O, .long), (k_N, .int), (k_B, .boolean), (k_G, .int), (k_K, .int)] s) : ∀ (k_18 : (Int32) → (Int32) → (Int32) → (Int32) → (Nat → Int64) → (Nat → Int32) → (Int32) → (Int64) → (Int64) → (Int32) → (Int32) → (Int32) → (Int64) → (Int64) → (Int32) → (Int32) → (Int32) → (Int64) → (Int64) → (Int32) → (Int32) → (Int32) → (Int32) → (Int32) → (Int64) → (Int32) → (Int32) → (Nat → Int64) → (Nat → Int32) → (Nat → Int32) → (Nat → Int32) → (Nat → Int32) → Option (Int32)), (∀ (x3 : Int32) (X_lo : Int32) (X_ro : Int32) (X_rc : Int32) (M_f : Nat → Int64) (P_f : Nat → Int32) (E1_sg : Int32) (E1_hi : Int64) (E1_lo : Int64) (E1_pl : Int32) (E1_mo : Int32) (E2_sg : Int32) (E2_hi : Int64) (E2_lo : Int64) (E2_pl : Int32) (E2_mo : Int32) (E3_sg : Int32) (E3_hi : Int64) (E3_lo : Int64) (E3_pl : Int32) (E3_mo : Int32) (Y_lo : Int32) (Y_ie : Int32) (Y_ra : Int32) (Y_to : Int64) (Y_te : Int32) (Y_re : Int32) (O_f : Nat → Int64) (N_f : Nat → Int32) (B_f : Nat → Int32) (G_f : Nat → Int32) (K_f : Nat → Int32) (H : Heap) (locs : List Loc) (ls : Array Slot), va_P (dC, dI) classes [cX h_X h_M h_P h_E1 h_E2 h_E3 X_lo X_ro X_rc, cL h_M k_M 8 M_f, cI h_P k_P 8 P_f, cE h_E1 E1_sg E1_hi E1_lo E1_pl E1_mo, cE h_E2 E2_sg E2_hi E2_lo E2_pl E2_mo, cE h_E3 E3_sg E3_hi E3_lo E3_pl E3_mo, cY h_Y h_O h_N h_B h_G h_K Y_lo Y_ie Y_ra Y_to Y_te Y_re, cL h_O k_O 8 O_f, cI h_N k_N 8 N_f, cI h_B k_B 8 B_f, cI h_G k_G 30 G_f, cI h_K k_K 30 K_f] H → va_D A [cX h_X h_M h_P h_E1 h_E2 h_E3 X_lo X_ro X_rc, cL h_M k_M 8 M_f, cI h_P k_P 8 P_f, cE h_E1 E1_sg E1_hi E1_lo E1_pl E1_mo, cE h_E2 E2_sg E2_hi E2_lo E2_pl E2_mo, cE h_E3 E3_sg E3_hi E3_lo E3_pl E3_mo, cY h_Y h_O h_N h_B h_G h_K Y_lo Y_ie Y_ra Y_to Y_te Y_re, cL h_O k_O 8 O_f, cI h_N k_N 8 N_f, cI h_B k_B 8 B_f, cI h_G k_G 30 G_f, cI h_K k_K 30 K_f] → va_S A s.heap H locs → lv_has ls 4 [(0, .ref h_S), (1, .ref h_X), (2, .ref h_Y), (3, .int x3)] → k_18 x3 X_lo X_ro X_rc M_f P_f E1_sg E1_hi E1_lo E1_pl E1_mo E2_sg E2_hi E2_lo E2_pl E2_mo E3_sg E3_hi E3_lo E3_pl E3_mo Y_lo Y_ie Y_ra Y_to Y_te Y_re O_f N_f B_f G_f K_f = some 1 → W p l e room_1 s m #[Value.ref h_S] below meth c H locs 12 134 (lw_Z below #[Value.ref h_S] s) (F0 m 18 ls [])) → ∀ (x3 : Int32) (y0 : Int32) (y1 : Int32) (y2 : Int32) (y3 : Int32) (X_lo : Int32) (X_ro : Int32) (X_rc : Int32) (M_f : Nat → Int64) (P_f : Nat → Int32) (E1_sg : Int32) (E1_hi : Int64) (E1_lo : Int64) (E1_pl : Int32) (E1_mo : Int32) (E2_sg : Int32) (E2_hi : Int64) (E2_lo : Int64) (E2_pl : Int32) (E2_mo : Int32) (E3_sg : Int32) (E3_hi : Int64) (E3_lo : Int64) (E3_pl : Int32) (E3_mo : Int32) (Y_lo : Int32) (Y_ie : Int32) (Y_ra : Int32) (Y_to : Int64) (Y_te : Int32) (Y_re : Int32) (O_f : Nat → Int64) (N_f : Nat → Int32) (B_f : Nat → Int32) (G_f : Nat → Int32) (K_f : Nat → Int32) (H : Heap) (locs : List Loc) (ls : Array Slot), va_P (dC, dI) classes [cX h_X h_M h_P h_E1 h_E2 h_E3 X_lo X_ro X_rc, cL h_M k_M 8 M_f, cI h_P k_P 8 P_f, cE h_E1 E1_sg E1_hi E1_lo E1_pl E1_mo, cE h_E2 E2_sg E2_hi E2_lo E2_pl E2_mo, cE h_E3 E3_sg E3_hi E3_lo E3_pl E3_mo, cY h_Y h_O h_N h_B h_G h_K Y_lo Y_ie Y_ra Y_to Y_te Y_re, cL h_O k_O 8 O_f, cI h_N k_N 8 N_f, cI h_B k_B 8 B_f, cI h_G k_G 30 G_f, cI h_K k_K 30 K_f] H → va_D A [cX h_X h_M h_P h_E1 h_E2 h_E3 X_lo X_ro X_rc, cL h_M k_M 8 M_f, cI h_P k_P 8 P_f, cE h_E1 E1_sg E1_hi E1_lo E1_pl E1_mo, cE h_E2 E2_sg E2_hi E2_lo E2_pl E2_mo, cE h_E3 E3_sg E3_hi E3_lo E3_pl E3_mo, cY h_Y h_O h_N h_B h_G h_K Y_lo Y_ie Y_ra Y_to Y_te Y_re, cL h_O k_O 8 O_f, cI h_N k_N 8 N_f, cI h_B k_B 8 B_f, cI h_G k_G 30 G_f, cI h_K k_K 30 K_f] → va_S A s.heap H locs → lv_has ls 4 [(0, .ref h_S), (1, .ref h_X), (2, .ref h_Y), (3, .int x3)] → f_law_429 L xs k_18 x3 y0 y1 y2 y3 X_lo X_ro X_rc M_f P_f E1_sg E1_hi E1_lo E1_pl E1_mo E2_sg E2_hi E2_lo E2_pl E2_mo E3_sg E3_hi E3_lo E3_pl E3_mo Y_lo Y_ie Y_ra Y_to Y_te Y_re O_f N_f B_f G_f K_f = some 1 → W p l e room_1 s m #[Value.ref h_S] below meth c H locs 12 134 (lw_Z below #[Value.ref h_S] s) (F0 m 429 ls [.int y0, .int y1, .int y2, .int y3, .ref h_X]) := by
  obtain ⟨hx, hb, hr, hml, hown, hts1, hX, hbl, hlocks, hgv⟩ := id C0
  have hts : ∀ w ∈ tb, w.before _ s = true := fun w h => hts1 w (List.mem_filter.mp h).1
  clear hts1
  have hbA : ¬ A h_S := fun q => Nat.not_le.mpr hbl (hA2 _ q)
  intro k_18 hk_18 x3 y0 y1 y2 y3 X_lo X_ro X_rc M_f P_f E1_sg E1_hi E1_lo E1_pl E1_mo E2_sg E2_hi E2_lo E2_pl E2_mo E3_sg E3_hi E3_lo E3_pl E3_mo Y_lo Y_ie Y_ra Y_to Y_te Y_re O_f N_f B_f G_f K_f H locs ls hP hD hS hl hF
  unfold f_law_429 at hF
  obtain ⟨q_429, hC_429, hF⟩ := hbd hF
  have hPc := hP.sub (ws' := [cX h_X h_M h_P h_E1 h_E2 h_E3 X_lo X_ro X_rc, cL h_M k_M 8 M_f, cI h_P k_P 8 P_f, cE h_E1 E1_sg E1_hi E1_lo E1_pl E1_mo]) [0, 1, 2, 3] rfl
  have hDc := hD.sub (ws' := [cX h_X h_M h_P h_E1 h_E2 h_E3 X_lo X_ro X_rc, cL h_M k_M 8 M_f, cI h_P k_P 8 P_f, cE h_E1 E1_sg E1_hi E1_lo E1_pl E1_mo]) [0, 1, 2, 3] (by decide) rfl
  have hKc := hK.sub (tys' := [(k_M, .long), (k_P, .int)]) [0, 1] rfl
  have hFc := va_free (wc := [cX h_X h_M h_P h_E1 h_E2 h_E3 X_lo X_ro X_rc, cL h_M k_M 8 M_f, cI h_P k_P 8 P_f, cE h_E1 E1_sg E1_hi E1_lo E1_pl E1_mo]) hD hS hA [0, 1, 2, 3] rfl
  refine va_calli (va_runV (As := [.int y3, .int y2, .int y1, .int y0]) (rest := []) ⟨hx, hb, hml, hown, hts⟩ (c_X_divide l dC dI h_X h_M h_P h_E1 h_E2 h_E3 k_M k_P H.size X_lo X_ro X_rc M_f P_f E1_sg E1_hi E1_lo E1_pl E1_mo y3 y2 y1 y0 q_429 hC_429) (cwV 4 hts g_L_33_X_divide rfl rfl rfl (by decide +kernel) ⟨Nat.le_of_ble_eq_true rfl, Nat.le_of_ble_eq_true rfl⟩) ⟨fun a U g mk q => by obtain ⟨q0, q1, qP, qK, qD⟩ := q; exact ⟨q0, q1, qP, va_K.moved (u := U) (U := U.calling g mk a) (Vm.Alike.refl U.vm) qK, qD⟩, va_recv hKc hPc (ci := 1) (q0 := 0) rfl rfl, fun U hU hW => ⟨rfl, by rw [hU], by rw [hU]; exact hPc, va_K.moved hW.alike hKc, hDc.weaken (fun _ _ _ _ => trivial)⟩⟩ rfl rfl hl.1 rfl (lv_room (Nat.le_of_ble_eq_true rfl)) d_L_law_429 ⟨Nat.le_of_ble_eq_true rfl, Nat.le_of_ble_eq_true rfl⟩) hS (fun q _ h => hFc q h) hFc (fun r u t H1 locs ht hvm hw hB hz1 hk1 hS => ?_)
  obtain ⟨hP1, hK1, hD1⟩ := hB
  replace hw := hw.symm
  subst hw
  rw [ht] at hP1
  obtain ⟨hP, hD⟩ := va_join (wr := [cE h_E2 E2_sg E2_hi E2_lo E2_pl E2_mo, cE h_E3 E3_sg E3_hi E3_lo E3_pl E3_mo, cY h_Y h_O h_N h_B h_G h_K Y_lo Y_ie Y_ra Y_to Y_te Y_re, cL h_O k_O 8 O_f, cI h_N k_N 8 N_f, cI h_B k_B 8 B_f, cI h_G k_G 30 G_f, cI h_K k_K 30 K_f]) (w1 := [cX h_X h_M h_P h_E1 h_E2 h_E3 q_429.2.1 q_429.2.2.1 q_429.2.2.2.1, cL h_M k_M 8 q_429.2.2.2.2.1, cI h_P k_P 8 q_429.2.2.2.2.2.1, cE h_E1 q_429.2.2.2.2.2.2.1 q_429.2.2.2.2.2.2.2.1 q_429.2.2.2.2.2.2.2.2.1 q_429.2.2.2.2.2.2.2.2.2.1 q_429.2.2.2.2.2.2.2.2.2.2]) hP hD [0, 1, 2, 3] [4, 5, 6, 7, 8, 9, 10, 11] rfl rfl (by decide) (by decide) hk1 hFc hP1 hD1
  generalize H1 = H at hP hS ⊢
  have hP := hP.sub (ws' := [cX h_X h_M h_P h_E1 h_E2 h_E3 q_429.2.1 q_429.2.2.1 q_429.2.2.2.1, cL h_M k_M 8 q_429.2.2.2.2.1, cI h_P k_P 8 q_429.2.2.2.2.2.1, cE h_E1 q_429.2.2.2.2.2.2.1 q_429.2.2.2.2.2.2.2.1 q_429.2.2.2.2.2.2.2.2.1 q_429.2.2.2.2.2.2.2.2.2.1 q_429.2.2.2.2.2.2.2.2.2.2, cE h_E2 E2_sg E2_hi E2_lo E2_pl E2_mo, cE h_E3 E3_sg E3_hi E3_lo E3_pl E3_mo, cY h_Y h_O h_N h_B h_G h_K Y_lo Y_ie Y_ra Y_to Y_te Y_re, cL h_O k_O 8 O_f, cI h_N k_N 8 N_f, cI h_B k_B 8 B_f, cI h_G k_G 30 G_f, cI h_K k_K 30 K_f]) [8, 9, 10, 11, 0, 1, 2, 3, 4, 5, 6, 7] rfl
  have hD := hD.sub (ws' := [cX h_X h_M h_P h_E1 h_E2 h_E3 q_429.2.1 q_429.2.2.1 q_429.2.2.2.1, cL h_M k_M 8 q_429.2.2.2.2.1, cI h_P k_P 8 q_429.2.2.2.2.2.1, cE h_E1 q_429.2.2.2.2.2.2.1 q_429.2.2.2.2.2.2.2.1 q_429.2.2.2.2.2.2.2.2.1 q_429.2.2.2.2.2.2.2.2.2.1 q_429.2.2.2.2.2.2.2.2.2.2, cE h_E2 E2_sg E2_hi E2_lo E2_pl E2_mo, cE h_E3 E3_sg E3_hi E3_lo E3_pl E3_mo, cY h_Y h_O h_N h_B h_G h_K Y_lo Y_ie Y_ra Y_to Y_te Y_re, cL h_O k_O 8 O_f, cI h_N k_N 8 N_f, cI h_B k_B 8 B_f, cI h_G k_G 30 G_f, cI h_K k_K 30 K_f]) [8, 9, 10, 11, 0, 1, 2, 3, 4, 5, 6, 7] (by decide) rfl
  refine lv_aload_n hx hb d_L_law_432 rfl (lv_at hl 2 rfl) ?_
  refine lv_aload_n hx hb d_L_law_433 rfl (lv_at hl 0 rfl) ?_
  refine lv_iload_n hx hb d_L_law_434 rfl (lv_at hl 3 rfl) ?_
  refine lv_iconst (v := (1 : Int32)) hx hb d_L_law_435 (by decide) ?_
  refine lv_iadd hx hb d_L_law_436 ?_
  have c_437 : ¬ ((x3 + (1 : Int32)) < 0 ∨ L ≤ (x3 + (1 : Int32)).toNatClampNeg) := hif_n hF
  replace hF := hif_f c_437 hF
  refine va_sld hx hb hX hbl hbA hS c_437 d_L_law_437 ?_
  refine lv_aload_n hx hb d_L_law_438 rfl (lv_at hl 0 rfl) ?_
  refine lv_iload_n hx hb d_L_law_439 rfl (lv_at hl 3 rfl) ?_
  refine lv_iconst (v := (2 : Int32)) hx hb d_L_law_440 (by decide) ?_
  refine lv_iadd hx hb d_L_law_441 ?_
  have c_442 : ¬ ((x3 + (2 : Int32)) < 0 ∨ L ≤ (x3 + (2 : Int32)).toNatClampNeg) := hif_n hF
  replace hF := hif_f c_442 hF
  refine va_sld hx hb hX hbl hbA hS c_442 d_L_law_442 ?_
  refine lv_aload_n hx hb d_L_law_443 rfl (lv_at hl 0 rfl) ?_
  refine lv_iload_n hx hb d_L_law_444 rfl (lv_at hl 3 rfl) ?_
  refine lv_iconst (v := (3 : Int32)) hx hb d_L_law_445 (by decide) ?_
  refine lv_iadd hx hb d_L_law_446 ?_
  have c_447 : ¬ ((x3 + (3 : Int32)) < 0 ∨ L ≤ (x3 + (3 : Int32)).toNatClampNeg) := hif_n hF
  replace hF := hif_f c_447 hF
  refine va_sld hx hb hX hbl hbA hS c_447 d_L_law_447 ?_
  refine lv_aload_n hx hb d_L_law_448 rfl (lv_at hl 0 rfl) ?_
  refine lv_iload_n hx hb d_L_law_449 rfl (lv_at hl 3 rfl) ?_
  refine lv_iconst (v := (4 : Int32)) hx hb d_L_law_450 (by decide) ?_
  refine lv_iadd hx hb d_L_law_451 ?_
  have c_452 : ¬ ((x3 + (4 : Int32)) < 0 ∨ L ≤ (x3 + (4 : Int32)).toNatClampNeg) := hif_n hF
  replace hF := hif_f c_452 hF
  refine va_sld hx hb hX hbl hbA hS c_452 d_L_law_452 ?_
  refine lv_if_eq (tgt := 460) hx hb d_L_law_453 (by decide) (fun c_453 => ?_) (fun c_453 => ?_)
  · replace hF := hif_t c_453 hF
    refine lv_iconst (v := (0 : Int32)) hx hb d_L_law_460 (by decide) ?_
    exact lb_461 C0 hA hA2 hK k_18 hk_18 x3 (0 : Int32) (xs (x3 + (3 : Int32)).toNatClampNeg) (xs (x3 + (2 : Int32)).toNatClampNeg) (xs (x3 + (1 : Int32)).toNatClampNeg) q_429.1 q_429.2.1 q_429.2.2.1 q_429.2.2.2.1 q_429.2.2.2.2.1 q_429.2.2.2.2.2.1 q_429.2.2.2.2.2.2.1 q_429.2.2.2.2.2.2.2.1 q_429.2.2.2.2.2.2.2.2.1 q_429.2.2.2.2.2.2.2.2.2.1 q_429.2.2.2.2.2.2.2.2.2.2 E2_sg E2_hi E2_lo E2_pl E2_mo E3_sg E3_hi E3_lo E3_pl E3_mo Y_lo Y_ie Y_ra Y_to Y_te Y_re O_f N_f B_f G_f K_f _ _ _ hP hD hS (lv_sub hl [0, 1, 2, 3] rfl) hF
  · replace hF := hif_f c_453 hF
    refine lv_iconst (v := (1 : Int32)) hx hb d_L_law_456 (by decide) ?_
    refine lv_goto (tgt := 461) hx hb d_L_law_457 (by decide) ?_
    exact lb_461 C0 hA hA2 hK k_18 hk_18 x3 (1 : Int32) (xs (x3 + (3 : Int32)).toNatClampNeg) (xs (x3 + (2 : Int32)).toNatClampNeg) (xs (x3 + (1 : Int32)).toNatClampNeg) q_429.1 q_429.2.1 q_429.2.2.1 q_429.2.2.2.1 q_429.2.2.2.2.1 q_429.2.2.2.2.2.1 q_429.2.2.2.2.2.2.1 q_429.2.2.2.2.2.2.2.1 q_429.2.2.2.2.2.2.2.2.1 q_429.2.2.2.2.2.2.2.2.2.1 q_429.2.2.2.2.2.2.2.2.2.2 E2_sg E2_hi E2_lo E2_pl E2_mo E3_sg E3_hi E3_lo E3_pl E3_mo Y_lo Y_ie Y_ra Y_to Y_te Y_re O_f N_f B_f G_f K_f _ _ _ hP hD hS (lv_sub hl [0, 1, 2, 3] rfl) hF
set_option maxHeartbeats 4000000 in
set_option maxRecDepth 100000 in
theorem lb_400 {p : Program} {l : Launch} {e : Env} {s : State} {m : MethodId} {below : List Frame} {meth : Method} {c : Code} {h_S L : Nat} {xs : Nat → Int32} (C0 : lw_At p s m meth c h_S L xs) {A : Nat → Prop} (hA : ∀ q : Nat, s.heap.size ≤ q → A q) (hA2 : ∀ q : Nat, A q → s.heap.size ≤ q) {dC : Nat → ClassId} {dI : Nat → Nat → Nat} {h_X : Nat} {h_M : Nat} {h_P : Nat} {h_E1 : Nat} {h_E2 : Nat} {h_E3 : Nat} {h_Y : Nat} {h_O : Nat} {h_N : Nat} {h_B : Nat} {h_G : Nat} {h_K : Nat} {k_M : ClassId} {k_P : ClassId} {k_O : ClassId} {k_N : ClassId} {k_B : ClassId} {k_G : ClassId} {k_K : ClassId} (hK : va_K (dC, dI) classes [(k_M, .long), (k_P, .int), (k_O, .long), (k_N, .int), (k_B, .boolean), (k_G, .int), (k_K, .int)] s) : ∀ (k_18 : (Int32) → (Int32) → (Int32) → (Int32) → (Nat → Int64) → (Nat → Int32) → (Int32) → (Int64) → (Int64) → (Int32) → (Int32) → (Int32) → (Int64) → (Int64) → (Int32) → (Int32) → (Int32) → (Int64) → (Int64) → (Int32) → (Int32) → (Int32) → (Int32) → (Int32) → (Int64) → (Int32) → (Int32) → (Nat → Int64) → (Nat → Int32) → (Nat → Int32) → (Nat → Int32) → (Nat → Int32) → Option (Int32)), (∀ (x3 : Int32) (X_lo : Int32) (X_ro : Int32) (X_rc : Int32) (M_f : Nat → Int64) (P_f : Nat → Int32) (E1_sg : Int32) (E1_hi : Int64) (E1_lo : Int64) (E1_pl : Int32) (E1_mo : Int32) (E2_sg : Int32) (E2_hi : Int64) (E2_lo : Int64) (E2_pl : Int32) (E2_mo : Int32) (E3_sg : Int32) (E3_hi : Int64) (E3_lo : Int64) (E3_pl : Int32) (E3_mo : Int32) (Y_lo : Int32) (Y_ie : Int32) (Y_ra : Int32) (Y_to : Int64) (Y_te : Int32) (Y_re : Int32) (O_f : Nat → Int64) (N_f : Nat → Int32) (B_f : Nat → Int32) (G_f : Nat → Int32) (K_f : Nat → Int32) (H : Heap) (locs : List Loc) (ls : Array Slot), va_P (dC, dI) classes [cX h_X h_M h_P h_E1 h_E2 h_E3 X_lo X_ro X_rc, cL h_M k_M 8 M_f, cI h_P k_P 8 P_f, cE h_E1 E1_sg E1_hi E1_lo E1_pl E1_mo, cE h_E2 E2_sg E2_hi E2_lo E2_pl E2_mo, cE h_E3 E3_sg E3_hi E3_lo E3_pl E3_mo, cY h_Y h_O h_N h_B h_G h_K Y_lo Y_ie Y_ra Y_to Y_te Y_re, cL h_O k_O 8 O_f, cI h_N k_N 8 N_f, cI h_B k_B 8 B_f, cI h_G k_G 30 G_f, cI h_K k_K 30 K_f] H → va_D A [cX h_X h_M h_P h_E1 h_E2 h_E3 X_lo X_ro X_rc, cL h_M k_M 8 M_f, cI h_P k_P 8 P_f, cE h_E1 E1_sg E1_hi E1_lo E1_pl E1_mo, cE h_E2 E2_sg E2_hi E2_lo E2_pl E2_mo, cE h_E3 E3_sg E3_hi E3_lo E3_pl E3_mo, cY h_Y h_O h_N h_B h_G h_K Y_lo Y_ie Y_ra Y_to Y_te Y_re, cL h_O k_O 8 O_f, cI h_N k_N 8 N_f, cI h_B k_B 8 B_f, cI h_G k_G 30 G_f, cI h_K k_K 30 K_f] → va_S A s.heap H locs → lv_has ls 4 [(0, .ref h_S), (1, .ref h_X), (2, .ref h_Y), (3, .int x3)] → k_18 x3 X_lo X_ro X_rc M_f P_f E1_sg E1_hi E1_lo E1_pl E1_mo E2_sg E2_hi E2_lo E2_pl E2_mo E3_sg E3_hi E3_lo E3_pl E3_mo Y_lo Y_ie Y_ra Y_to Y_te Y_re O_f N_f B_f G_f K_f = some 1 → W p l e room_1 s m #[Value.ref h_S] below meth c H locs 12 134 (lw_Z below #[Value.ref h_S] s) (F0 m 18 ls [])) → ∀ (x3 : Int32) (X_lo : Int32) (X_ro : Int32) (X_rc : Int32) (M_f : Nat → Int64) (P_f : Nat → Int32) (E1_sg : Int32) (E1_hi : Int64) (E1_lo : Int64) (E1_pl : Int32) (E1_mo : Int32) (E2_sg : Int32) (E2_hi : Int64) (E2_lo : Int64) (E2_pl : Int32) (E2_mo : Int32) (E3_sg : Int32) (E3_hi : Int64) (E3_lo : Int64) (E3_pl : Int32) (E3_mo : Int32) (Y_lo : Int32) (Y_ie : Int32) (Y_ra : Int32) (Y_to : Int64) (Y_te : Int32) (Y_re : Int32) (O_f : Nat → Int64) (N_f : Nat → Int32) (B_f : Nat → Int32) (G_f : Nat → Int32) (K_f : Nat → Int32) (H : Heap) (locs : List Loc) (ls : Array Slot), va_P (dC, dI) classes [cX h_X h_M h_P h_E1 h_E2 h_E3 X_lo X_ro X_rc, cL h_M k_M 8 M_f, cI h_P k_P 8 P_f, cE h_E1 E1_sg E1_hi E1_lo E1_pl E1_mo, cE h_E2 E2_sg E2_hi E2_lo E2_pl E2_mo, cE h_E3 E3_sg E3_hi E3_lo E3_pl E3_mo, cY h_Y h_O h_N h_B h_G h_K Y_lo Y_ie Y_ra Y_to Y_te Y_re, cL h_O k_O 8 O_f, cI h_N k_N 8 N_f, cI h_B k_B 8 B_f, cI h_G k_G 30 G_f, cI h_K k_K 30 K_f] H → va_D A [cX h_X h_M h_P h_E1 h_E2 h_E3 X_lo X_ro X_rc, cL h_M k_M 8 M_f, cI h_P k_P 8 P_f, cE h_E1 E1_sg E1_hi E1_lo E1_pl E1_mo, cE h_E2 E2_sg E2_hi E2_lo E2_pl E2_mo, cE h_E3 E3_sg E3_hi E3_lo E3_pl E3_mo, cY h_Y h_O h_N h_B h_G h_K Y_lo Y_ie Y_ra Y_to Y_te Y_re, cL h_O k_O 8 O_f, cI h_N k_N 8 N_f, cI h_B k_B 8 B_f, cI h_G k_G 30 G_f, cI h_K k_K 30 K_f] → va_S A s.heap H locs → lv_has ls 4 [(0, .ref h_S), (1, .ref h_X), (2, .ref h_Y), (3, .int x3)] → f_law_400 L xs k_18 x3 X_lo X_ro X_rc M_f P_f E1_sg E1_hi E1_lo E1_pl E1_mo E2_sg E2_hi E2_lo E2_pl E2_mo E3_sg E3_hi E3_lo E3_pl E3_mo Y_lo Y_ie Y_ra Y_to Y_te Y_re O_f N_f B_f G_f K_f = some 1 → W p l e room_1 s m #[Value.ref h_S] below meth c H locs 12 134 (lw_Z below #[Value.ref h_S] s) (F0 m 400 ls []) := by
  obtain ⟨hx, hb, hr, hml, hown, hts1, hX, hbl, hlocks, hgv⟩ := id C0
  have hts : ∀ w ∈ tb, w.before _ s = true := fun w h => hts1 w (List.mem_filter.mp h).1
  clear hts1
  have hbA : ¬ A h_S := fun q => Nat.not_le.mpr hbl (hA2 _ q)
  intro k_18 hk_18 x3 X_lo X_ro X_rc M_f P_f E1_sg E1_hi E1_lo E1_pl E1_mo E2_sg E2_hi E2_lo E2_pl E2_mo E3_sg E3_hi E3_lo E3_pl E3_mo Y_lo Y_ie Y_ra Y_to Y_te Y_re O_f N_f B_f G_f K_f H locs ls hP hD hS hl hF
  unfold f_law_400 at hF
  refine lv_aload_n hx hb d_L_law_400 rfl (lv_at hl 1 rfl) ?_
  refine lv_aload_n hx hb d_L_law_401 rfl (lv_at hl 0 rfl) ?_
  refine lv_iload_n hx hb d_L_law_402 rfl (lv_at hl 3 rfl) ?_
  refine lv_iconst (v := (1 : Int32)) hx hb d_L_law_403 (by decide) ?_
  refine lv_iadd hx hb d_L_law_404 ?_
  have c_405 : ¬ ((x3 + (1 : Int32)) < 0 ∨ L ≤ (x3 + (1 : Int32)).toNatClampNeg) := hif_n hF
  replace hF := hif_f c_405 hF
  refine va_sld hx hb hX hbl hbA hS c_405 d_L_law_405 ?_
  refine lv_aload_n hx hb d_L_law_406 rfl (lv_at hl 0 rfl) ?_
  refine lv_iload_n hx hb d_L_law_407 rfl (lv_at hl 3 rfl) ?_
  refine lv_iconst (v := (2 : Int32)) hx hb d_L_law_408 (by decide) ?_
  refine lv_iadd hx hb d_L_law_409 ?_
  have c_410 : ¬ ((x3 + (2 : Int32)) < 0 ∨ L ≤ (x3 + (2 : Int32)).toNatClampNeg) := hif_n hF
  replace hF := hif_f c_410 hF
  refine va_sld hx hb hX hbl hbA hS c_410 d_L_law_410 ?_
  refine lv_aload_n hx hb d_L_law_411 rfl (lv_at hl 0 rfl) ?_
  refine lv_iload_n hx hb d_L_law_412 rfl (lv_at hl 3 rfl) ?_
  refine lv_iconst (v := (3 : Int32)) hx hb d_L_law_413 (by decide) ?_
  refine lv_iadd hx hb d_L_law_414 ?_
  have c_415 : ¬ ((x3 + (3 : Int32)) < 0 ∨ L ≤ (x3 + (3 : Int32)).toNatClampNeg) := hif_n hF
  replace hF := hif_f c_415 hF
  refine va_sld hx hb hX hbl hbA hS c_415 d_L_law_415 ?_
  refine lv_aload_n hx hb d_L_law_416 rfl (lv_at hl 0 rfl) ?_
  refine lv_iload_n hx hb d_L_law_417 rfl (lv_at hl 3 rfl) ?_
  refine lv_iconst (v := (4 : Int32)) hx hb d_L_law_418 (by decide) ?_
  refine lv_iadd hx hb d_L_law_419 ?_
  have c_420 : ¬ ((x3 + (4 : Int32)) < 0 ∨ L ≤ (x3 + (4 : Int32)).toNatClampNeg) := hif_n hF
  replace hF := hif_f c_420 hF
  refine va_sld hx hb hX hbl hbA hS c_420 d_L_law_420 ?_
  refine lv_if_eq (tgt := 428) hx hb d_L_law_421 (by decide) (fun c_421 => ?_) (fun c_421 => ?_)
  · replace hF := hif_t c_421 hF
    refine lv_iconst (v := (0 : Int32)) hx hb d_L_law_428 (by decide) ?_
    exact lb_429 C0 hA hA2 hK k_18 hk_18 x3 (0 : Int32) (xs (x3 + (3 : Int32)).toNatClampNeg) (xs (x3 + (2 : Int32)).toNatClampNeg) (xs (x3 + (1 : Int32)).toNatClampNeg) X_lo X_ro X_rc M_f P_f E1_sg E1_hi E1_lo E1_pl E1_mo E2_sg E2_hi E2_lo E2_pl E2_mo E3_sg E3_hi E3_lo E3_pl E3_mo Y_lo Y_ie Y_ra Y_to Y_te Y_re O_f N_f B_f G_f K_f _ _ _ hP hD hS (lv_sub hl [0, 1, 2, 3] rfl) hF
  · replace hF := hif_f c_421 hF
    refine lv_iconst (v := (1 : Int32)) hx hb d_L_law_424 (by decide) ?_
    refine lv_goto (tgt := 429) hx hb d_L_law_425 (by decide) ?_
    exact lb_429 C0 hA hA2 hK k_18 hk_18 x3 (1 : Int32) (xs (x3 + (3 : Int32)).toNatClampNeg) (xs (x3 + (2 : Int32)).toNatClampNeg) (xs (x3 + (1 : Int32)).toNatClampNeg) X_lo X_ro X_rc M_f P_f E1_sg E1_hi E1_lo E1_pl E1_mo E2_sg E2_hi E2_lo E2_pl E2_mo E3_sg E3_hi E3_lo E3_pl E3_mo Y_lo Y_ie Y_ra Y_to Y_te Y_re O_f N_f B_f G_f K_f _ _ _ hP hD hS (lv_sub hl [0, 1, 2, 3] rfl) hF
set_option maxHeartbeats 4000000 in
set_option maxRecDepth 100000 in
theorem lb_469 {p : Program} {l : Launch} {e : Env} {s : State} {m : MethodId} {below : List Frame} {meth : Method} {c : Code} {h_S L : Nat} {xs : Nat → Int32} (C0 : lw_At p s m meth c h_S L xs) {A : Nat → Prop} (hA : ∀ q : Nat, s.heap.size ≤ q → A q) (hA2 : ∀ q : Nat, A q → s.heap.size ≤ q) {dC : Nat → ClassId} {dI : Nat → Nat → Nat} {h_X : Nat} {h_M : Nat} {h_P : Nat} {h_E1 : Nat} {h_E2 : Nat} {h_E3 : Nat} {h_Y : Nat} {h_O : Nat} {h_N : Nat} {h_B : Nat} {h_G : Nat} {h_K : Nat} {k_M : ClassId} {k_P : ClassId} {k_O : ClassId} {k_N : ClassId} {k_B : ClassId} {k_G : ClassId} {k_K : ClassId} (hK : va_K (dC, dI) classes [(k_M, .long), (k_P, .int), (k_O, .long), (k_N, .int), (k_B, .boolean), (k_G, .int), (k_K, .int)] s) : ∀ (k_18 : (Int32) → (Int32) → (Int32) → (Int32) → (Nat → Int64) → (Nat → Int32) → (Int32) → (Int64) → (Int64) → (Int32) → (Int32) → (Int32) → (Int64) → (Int64) → (Int32) → (Int32) → (Int32) → (Int64) → (Int64) → (Int32) → (Int32) → (Int32) → (Int32) → (Int32) → (Int64) → (Int32) → (Int32) → (Nat → Int64) → (Nat → Int32) → (Nat → Int32) → (Nat → Int32) → (Nat → Int32) → Option (Int32)), (∀ (x3 : Int32) (X_lo : Int32) (X_ro : Int32) (X_rc : Int32) (M_f : Nat → Int64) (P_f : Nat → Int32) (E1_sg : Int32) (E1_hi : Int64) (E1_lo : Int64) (E1_pl : Int32) (E1_mo : Int32) (E2_sg : Int32) (E2_hi : Int64) (E2_lo : Int64) (E2_pl : Int32) (E2_mo : Int32) (E3_sg : Int32) (E3_hi : Int64) (E3_lo : Int64) (E3_pl : Int32) (E3_mo : Int32) (Y_lo : Int32) (Y_ie : Int32) (Y_ra : Int32) (Y_to : Int64) (Y_te : Int32) (Y_re : Int32) (O_f : Nat → Int64) (N_f : Nat → Int32) (B_f : Nat → Int32) (G_f : Nat → Int32) (K_f : Nat → Int32) (H : Heap) (locs : List Loc) (ls : Array Slot), va_P (dC, dI) classes [cX h_X h_M h_P h_E1 h_E2 h_E3 X_lo X_ro X_rc, cL h_M k_M 8 M_f, cI h_P k_P 8 P_f, cE h_E1 E1_sg E1_hi E1_lo E1_pl E1_mo, cE h_E2 E2_sg E2_hi E2_lo E2_pl E2_mo, cE h_E3 E3_sg E3_hi E3_lo E3_pl E3_mo, cY h_Y h_O h_N h_B h_G h_K Y_lo Y_ie Y_ra Y_to Y_te Y_re, cL h_O k_O 8 O_f, cI h_N k_N 8 N_f, cI h_B k_B 8 B_f, cI h_G k_G 30 G_f, cI h_K k_K 30 K_f] H → va_D A [cX h_X h_M h_P h_E1 h_E2 h_E3 X_lo X_ro X_rc, cL h_M k_M 8 M_f, cI h_P k_P 8 P_f, cE h_E1 E1_sg E1_hi E1_lo E1_pl E1_mo, cE h_E2 E2_sg E2_hi E2_lo E2_pl E2_mo, cE h_E3 E3_sg E3_hi E3_lo E3_pl E3_mo, cY h_Y h_O h_N h_B h_G h_K Y_lo Y_ie Y_ra Y_to Y_te Y_re, cL h_O k_O 8 O_f, cI h_N k_N 8 N_f, cI h_B k_B 8 B_f, cI h_G k_G 30 G_f, cI h_K k_K 30 K_f] → va_S A s.heap H locs → lv_has ls 4 [(0, .ref h_S), (1, .ref h_X), (2, .ref h_Y), (3, .int x3)] → k_18 x3 X_lo X_ro X_rc M_f P_f E1_sg E1_hi E1_lo E1_pl E1_mo E2_sg E2_hi E2_lo E2_pl E2_mo E3_sg E3_hi E3_lo E3_pl E3_mo Y_lo Y_ie Y_ra Y_to Y_te Y_re O_f N_f B_f G_f K_f = some 1 → W p l e room_1 s m #[Value.ref h_S] below meth c H locs 12 134 (lw_Z below #[Value.ref h_S] s) (F0 m 18 ls [])) → ∀ (x3 : Int32) (X_lo : Int32) (X_ro : Int32) (X_rc : Int32) (M_f : Nat → Int64) (P_f : Nat → Int32) (E1_sg : Int32) (E1_hi : Int64) (E1_lo : Int64) (E1_pl : Int32) (E1_mo : Int32) (E2_sg : Int32) (E2_hi : Int64) (E2_lo : Int64) (E2_pl : Int32) (E2_mo : Int32) (E3_sg : Int32) (E3_hi : Int64) (E3_lo : Int64) (E3_pl : Int32) (E3_mo : Int32) (Y_lo : Int32) (Y_ie : Int32) (Y_ra : Int32) (Y_to : Int64) (Y_te : Int32) (Y_re : Int32) (O_f : Nat → Int64) (N_f : Nat → Int32) (B_f : Nat → Int32) (G_f : Nat → Int32) (K_f : Nat → Int32) (H : Heap) (locs : List Loc) (ls : Array Slot), va_P (dC, dI) classes [cX h_X h_M h_P h_E1 h_E2 h_E3 X_lo X_ro X_rc, cL h_M k_M 8 M_f, cI h_P k_P 8 P_f, cE h_E1 E1_sg E1_hi E1_lo E1_pl E1_mo, cE h_E2 E2_sg E2_hi E2_lo E2_pl E2_mo, cE h_E3 E3_sg E3_hi E3_lo E3_pl E3_mo, cY h_Y h_O h_N h_B h_G h_K Y_lo Y_ie Y_ra Y_to Y_te Y_re, cL h_O k_O 8 O_f, cI h_N k_N 8 N_f, cI h_B k_B 8 B_f, cI h_G k_G 30 G_f, cI h_K k_K 30 K_f] H → va_D A [cX h_X h_M h_P h_E1 h_E2 h_E3 X_lo X_ro X_rc, cL h_M k_M 8 M_f, cI h_P k_P 8 P_f, cE h_E1 E1_sg E1_hi E1_lo E1_pl E1_mo, cE h_E2 E2_sg E2_hi E2_lo E2_pl E2_mo, cE h_E3 E3_sg E3_hi E3_lo E3_pl E3_mo, cY h_Y h_O h_N h_B h_G h_K Y_lo Y_ie Y_ra Y_to Y_te Y_re, cL h_O k_O 8 O_f, cI h_N k_N 8 N_f, cI h_B k_B 8 B_f, cI h_G k_G 30 G_f, cI h_K k_K 30 K_f] → va_S A s.heap H locs → lv_has ls 4 [(0, .ref h_S), (1, .ref h_X), (2, .ref h_Y), (3, .int x3)] → f_law_469 L xs k_18 x3 X_lo X_ro X_rc M_f P_f E1_sg E1_hi E1_lo E1_pl E1_mo E2_sg E2_hi E2_lo E2_pl E2_mo E3_sg E3_hi E3_lo E3_pl E3_mo Y_lo Y_ie Y_ra Y_to Y_te Y_re O_f N_f B_f G_f K_f = some 1 → W p l e room_1 s m #[Value.ref h_S] below meth c H locs 12 134 (lw_Z below #[Value.ref h_S] s) (F0 m 469 ls []) := by
  obtain ⟨hx, hb, hr, hml, hown, hts1, hX, hbl, hlocks, hgv⟩ := id C0
  have hts : ∀ w ∈ tb, w.before _ s = true := fun w h => hts1 w (List.mem_filter.mp h).1
  clear hts1
  have hbA : ¬ A h_S := fun q => Nat.not_le.mpr hbl (hA2 _ q)
  intro k_18 hk_18 x3 X_lo X_ro X_rc M_f P_f E1_sg E1_hi E1_lo E1_pl E1_mo E2_sg E2_hi E2_lo E2_pl E2_mo E3_sg E3_hi E3_lo E3_pl E3_mo Y_lo Y_ie Y_ra Y_to Y_te Y_re O_f N_f B_f G_f K_f H locs ls hP hD hS hl hF
  unfold f_law_469 at hF
  refine lv_aload_n hx hb d_L_law_469 rfl (lv_at hl 1 rfl) ?_
  refine lv_aload_n hx hb d_L_law_470 rfl (lv_at hl 0 rfl) ?_
  refine lv_iload_n hx hb d_L_law_471 rfl (lv_at hl 3 rfl) ?_
  refine lv_iconst (v := (1 : Int32)) hx hb d_L_law_472 (by decide) ?_
  refine lv_iadd hx hb d_L_law_473 ?_
  have c_474 : ¬ ((x3 + (1 : Int32)) < 0 ∨ L ≤ (x3 + (1 : Int32)).toNatClampNeg) := hif_n hF
  replace hF := hif_f c_474 hF
  refine va_sld hx hb hX hbl hbA hS c_474 d_L_law_474 ?_
  refine lv_aload_n hx hb d_L_law_475 rfl (lv_at hl 0 rfl) ?_
  refine lv_iload_n hx hb d_L_law_476 rfl (lv_at hl 3 rfl) ?_
  refine lv_iconst (v := (2 : Int32)) hx hb d_L_law_477 (by decide) ?_
  refine lv_iadd hx hb d_L_law_478 ?_
  have c_479 : ¬ ((x3 + (2 : Int32)) < 0 ∨ L ≤ (x3 + (2 : Int32)).toNatClampNeg) := hif_n hF
  replace hF := hif_f c_479 hF
  refine va_sld hx hb hX hbl hbA hS c_479 d_L_law_479 ?_
  refine lv_aload_n hx hb d_L_law_480 rfl (lv_at hl 0 rfl) ?_
  refine lv_iload_n hx hb d_L_law_481 rfl (lv_at hl 3 rfl) ?_
  refine lv_iconst (v := (3 : Int32)) hx hb d_L_law_482 (by decide) ?_
  refine lv_iadd hx hb d_L_law_483 ?_
  have c_484 : ¬ ((x3 + (3 : Int32)) < 0 ∨ L ≤ (x3 + (3 : Int32)).toNatClampNeg) := hif_n hF
  replace hF := hif_f c_484 hF
  refine va_sld hx hb hX hbl hbA hS c_484 d_L_law_484 ?_
  refine lv_aload_n hx hb d_L_law_485 rfl (lv_at hl 0 rfl) ?_
  refine lv_iload_n hx hb d_L_law_486 rfl (lv_at hl 3 rfl) ?_
  refine lv_iconst (v := (4 : Int32)) hx hb d_L_law_487 (by decide) ?_
  refine lv_iadd hx hb d_L_law_488 ?_
  have c_489 : ¬ ((x3 + (4 : Int32)) < 0 ∨ L ≤ (x3 + (4 : Int32)).toNatClampNeg) := hif_n hF
  replace hF := hif_f c_489 hF
  refine va_sld hx hb hX hbl hbA hS c_489 d_L_law_489 ?_
  obtain ⟨q_490, hC_490, hF⟩ := hbd hF
  have hPc := hP.sub (ws' := [cX h_X h_M h_P h_E1 h_E2 h_E3 X_lo X_ro X_rc, cL h_M k_M 8 M_f, cI h_P k_P 8 P_f, cE h_E1 E1_sg E1_hi E1_lo E1_pl E1_mo, cE h_E2 E2_sg E2_hi E2_lo E2_pl E2_mo]) [0, 1, 2, 3, 4] rfl
  have hDc := hD.sub (ws' := [cX h_X h_M h_P h_E1 h_E2 h_E3 X_lo X_ro X_rc, cL h_M k_M 8 M_f, cI h_P k_P 8 P_f, cE h_E1 E1_sg E1_hi E1_lo E1_pl E1_mo, cE h_E2 E2_sg E2_hi E2_lo E2_pl E2_mo]) [0, 1, 2, 3, 4] (by decide) rfl
  have hKc := hK.sub (tys' := [(k_M, .long), (k_P, .int)]) [0, 1] rfl
  have hFc := va_free (wc := [cX h_X h_M h_P h_E1 h_E2 h_E3 X_lo X_ro X_rc, cL h_M k_M 8 M_f, cI h_P k_P 8 P_f, cE h_E1 E1_sg E1_hi E1_lo E1_pl E1_mo, cE h_E2 E2_sg E2_hi E2_lo E2_pl E2_mo]) hD hS hA [0, 1, 2, 3, 4] rfl
  refine va_calli (va_runV (As := [.int (xs (x3 + (1 : Int32)).toNatClampNeg), .int (xs (x3 + (2 : Int32)).toNatClampNeg), .int (xs (x3 + (3 : Int32)).toNatClampNeg), .int (xs (x3 + (4 : Int32)).toNatClampNeg)]) (rest := []) ⟨hx, hb, hml, hown, hts⟩ (c_X_fuse l dC dI h_X h_M h_P h_E1 h_E2 h_E3 k_M k_P H.size X_lo X_ro X_rc M_f P_f E1_sg E1_hi E1_lo E1_pl E1_mo E2_sg E2_hi E2_lo E2_pl E2_mo (xs (x3 + (1 : Int32)).toNatClampNeg) (xs (x3 + (2 : Int32)).toNatClampNeg) (xs (x3 + (3 : Int32)).toNatClampNeg) (xs (x3 + (4 : Int32)).toNatClampNeg) q_490 hC_490) (cwV 4 hts g_L_37_X_fuse rfl rfl rfl (by decide +kernel) ⟨Nat.le_of_ble_eq_true rfl, Nat.le_of_ble_eq_true rfl⟩) ⟨fun a U g mk q => by obtain ⟨q0, q1, qP, qK, qD⟩ := q; exact ⟨q0, q1, qP, va_K.moved (u := U) (U := U.calling g mk a) (Vm.Alike.refl U.vm) qK, qD⟩, va_recv hKc hPc (ci := 1) (q0 := 0) rfl rfl, fun U hU hW => ⟨rfl, by rw [hU], by rw [hU]; exact hPc, va_K.moved hW.alike hKc, hDc.weaken (fun _ _ _ _ => trivial)⟩⟩ rfl rfl hl.1 rfl (lv_room (Nat.le_of_ble_eq_true rfl)) d_L_law_490 ⟨Nat.le_of_ble_eq_true rfl, Nat.le_of_ble_eq_true rfl⟩) hS (fun q _ h => hFc q h) hFc (fun r u t H1 locs ht hvm hw hB hz1 hk1 hS => ?_)
  obtain ⟨hP1, hK1, hD1⟩ := hB
  replace hw := hw.symm
  subst hw
  rw [ht] at hP1
  obtain ⟨hP, hD⟩ := va_join (wr := [cE h_E3 E3_sg E3_hi E3_lo E3_pl E3_mo, cY h_Y h_O h_N h_B h_G h_K Y_lo Y_ie Y_ra Y_to Y_te Y_re, cL h_O k_O 8 O_f, cI h_N k_N 8 N_f, cI h_B k_B 8 B_f, cI h_G k_G 30 G_f, cI h_K k_K 30 K_f]) (w1 := [cX h_X h_M h_P h_E1 h_E2 h_E3 q_490.2.1 q_490.2.2.1 q_490.2.2.2.1, cL h_M k_M 8 q_490.2.2.2.2.1, cI h_P k_P 8 q_490.2.2.2.2.2.1, cE h_E1 q_490.2.2.2.2.2.2.1 q_490.2.2.2.2.2.2.2.1 q_490.2.2.2.2.2.2.2.2.1 q_490.2.2.2.2.2.2.2.2.2.1 q_490.2.2.2.2.2.2.2.2.2.2.1, cE h_E2 q_490.2.2.2.2.2.2.2.2.2.2.2.1 q_490.2.2.2.2.2.2.2.2.2.2.2.2.1 q_490.2.2.2.2.2.2.2.2.2.2.2.2.2.1 q_490.2.2.2.2.2.2.2.2.2.2.2.2.2.2.1 q_490.2.2.2.2.2.2.2.2.2.2.2.2.2.2.2]) hP hD [0, 1, 2, 3, 4] [5, 6, 7, 8, 9, 10, 11] rfl rfl (by decide) (by decide) hk1 hFc hP1 hD1
  generalize H1 = H at hP hS ⊢
  have hP := hP.sub (ws' := [cX h_X h_M h_P h_E1 h_E2 h_E3 q_490.2.1 q_490.2.2.1 q_490.2.2.2.1, cL h_M k_M 8 q_490.2.2.2.2.1, cI h_P k_P 8 q_490.2.2.2.2.2.1, cE h_E1 q_490.2.2.2.2.2.2.1 q_490.2.2.2.2.2.2.2.1 q_490.2.2.2.2.2.2.2.2.1 q_490.2.2.2.2.2.2.2.2.2.1 q_490.2.2.2.2.2.2.2.2.2.2.1, cE h_E2 q_490.2.2.2.2.2.2.2.2.2.2.2.1 q_490.2.2.2.2.2.2.2.2.2.2.2.2.1 q_490.2.2.2.2.2.2.2.2.2.2.2.2.2.1 q_490.2.2.2.2.2.2.2.2.2.2.2.2.2.2.1 q_490.2.2.2.2.2.2.2.2.2.2.2.2.2.2.2, cE h_E3 E3_sg E3_hi E3_lo E3_pl E3_mo, cY h_Y h_O h_N h_B h_G h_K Y_lo Y_ie Y_ra Y_to Y_te Y_re, cL h_O k_O 8 O_f, cI h_N k_N 8 N_f, cI h_B k_B 8 B_f, cI h_G k_G 30 G_f, cI h_K k_K 30 K_f]) [7, 8, 9, 10, 11, 0, 1, 2, 3, 4, 5, 6] rfl
  have hD := hD.sub (ws' := [cX h_X h_M h_P h_E1 h_E2 h_E3 q_490.2.1 q_490.2.2.1 q_490.2.2.2.1, cL h_M k_M 8 q_490.2.2.2.2.1, cI h_P k_P 8 q_490.2.2.2.2.2.1, cE h_E1 q_490.2.2.2.2.2.2.1 q_490.2.2.2.2.2.2.2.1 q_490.2.2.2.2.2.2.2.2.1 q_490.2.2.2.2.2.2.2.2.2.1 q_490.2.2.2.2.2.2.2.2.2.2.1, cE h_E2 q_490.2.2.2.2.2.2.2.2.2.2.2.1 q_490.2.2.2.2.2.2.2.2.2.2.2.2.1 q_490.2.2.2.2.2.2.2.2.2.2.2.2.2.1 q_490.2.2.2.2.2.2.2.2.2.2.2.2.2.2.1 q_490.2.2.2.2.2.2.2.2.2.2.2.2.2.2.2, cE h_E3 E3_sg E3_hi E3_lo E3_pl E3_mo, cY h_Y h_O h_N h_B h_G h_K Y_lo Y_ie Y_ra Y_to Y_te Y_re, cL h_O k_O 8 O_f, cI h_N k_N 8 N_f, cI h_B k_B 8 B_f, cI h_G k_G 30 G_f, cI h_K k_K 30 K_f]) [7, 8, 9, 10, 11, 0, 1, 2, 3, 4, 5, 6] (by decide) rfl
  refine lv_aload_n hx hb d_L_law_493 rfl (lv_at hl 2 rfl) ?_
  refine lv_aload_n hx hb d_L_law_494 rfl (lv_at hl 0 rfl) ?_
  refine lv_iload_n hx hb d_L_law_495 rfl (lv_at hl 3 rfl) ?_
  refine lv_iconst (v := (1 : Int32)) hx hb d_L_law_496 (by decide) ?_
  refine lv_iadd hx hb d_L_law_497 ?_
  have c_498 : ¬ ((x3 + (1 : Int32)) < 0 ∨ L ≤ (x3 + (1 : Int32)).toNatClampNeg) := hif_n hF
  replace hF := hif_f c_498 hF
  refine va_sld hx hb hX hbl hbA hS c_498 d_L_law_498 ?_
  refine lv_aload_n hx hb d_L_law_499 rfl (lv_at hl 0 rfl) ?_
  refine lv_iload_n hx hb d_L_law_500 rfl (lv_at hl 3 rfl) ?_
  refine lv_iconst (v := (2 : Int32)) hx hb d_L_law_501 (by decide) ?_
  refine lv_iadd hx hb d_L_law_502 ?_
  have c_503 : ¬ ((x3 + (2 : Int32)) < 0 ∨ L ≤ (x3 + (2 : Int32)).toNatClampNeg) := hif_n hF
  replace hF := hif_f c_503 hF
  refine va_sld hx hb hX hbl hbA hS c_503 d_L_law_503 ?_
  refine lv_aload_n hx hb d_L_law_504 rfl (lv_at hl 0 rfl) ?_
  refine lv_iload_n hx hb d_L_law_505 rfl (lv_at hl 3 rfl) ?_
  refine lv_iconst (v := (3 : Int32)) hx hb d_L_law_506 (by decide) ?_
  refine lv_iadd hx hb d_L_law_507 ?_
  have c_508 : ¬ ((x3 + (3 : Int32)) < 0 ∨ L ≤ (x3 + (3 : Int32)).toNatClampNeg) := hif_n hF
  replace hF := hif_f c_508 hF
  refine va_sld hx hb hX hbl hbA hS c_508 d_L_law_508 ?_
  refine lv_aload_n hx hb d_L_law_509 rfl (lv_at hl 0 rfl) ?_
  refine lv_iload_n hx hb d_L_law_510 rfl (lv_at hl 3 rfl) ?_
  refine lv_iconst (v := (4 : Int32)) hx hb d_L_law_511 (by decide) ?_
  refine lv_iadd hx hb d_L_law_512 ?_
  have c_513 : ¬ ((x3 + (4 : Int32)) < 0 ∨ L ≤ (x3 + (4 : Int32)).toNatClampNeg) := hif_n hF
  replace hF := hif_f c_513 hF
  refine va_sld hx hb hX hbl hbA hS c_513 d_L_law_513 ?_
  obtain ⟨q_514, hC_514, hF⟩ := hbd hF
  have hPc := hP.sub (ws' := [cY h_Y h_O h_N h_B h_G h_K Y_lo Y_ie Y_ra Y_to Y_te Y_re, cL h_O k_O 8 O_f, cI h_N k_N 8 N_f, cI h_B k_B 8 B_f, cI h_G k_G 30 G_f, cI h_K k_K 30 K_f]) [6, 7, 8, 9, 10, 11] rfl
  have hDc := hD.sub (ws' := [cY h_Y h_O h_N h_B h_G h_K Y_lo Y_ie Y_ra Y_to Y_te Y_re, cL h_O k_O 8 O_f, cI h_N k_N 8 N_f, cI h_B k_B 8 B_f, cI h_G k_G 30 G_f, cI h_K k_K 30 K_f]) [6, 7, 8, 9, 10, 11] (by decide) rfl
  have hKc := hK.sub (tys' := [(k_O, .long), (k_N, .int), (k_B, .boolean), (k_G, .int), (k_K, .int)]) [2, 3, 4, 5, 6] rfl
  have hFc := va_free (wc := [cY h_Y h_O h_N h_B h_G h_K Y_lo Y_ie Y_ra Y_to Y_te Y_re, cL h_O k_O 8 O_f, cI h_N k_N 8 N_f, cI h_B k_B 8 B_f, cI h_G k_G 30 G_f, cI h_K k_K 30 K_f]) hD hS hA [6, 7, 8, 9, 10, 11] rfl
  refine va_calli (va_runV (As := [.int (xs (x3 + (1 : Int32)).toNatClampNeg), .int (xs (x3 + (2 : Int32)).toNatClampNeg), .int (xs (x3 + (3 : Int32)).toNatClampNeg), .int (xs (x3 + (4 : Int32)).toNatClampNeg)]) (rest := [.int q_490.1]) ⟨hx, hb, hml, hown, hts⟩ (c_Y_fuse l dC dI h_Y h_O h_N h_B h_G h_K k_O k_N k_B k_G k_K H.size Y_lo Y_ie Y_ra Y_to Y_te Y_re O_f N_f B_f G_f K_f (xs (x3 + (1 : Int32)).toNatClampNeg) (xs (x3 + (2 : Int32)).toNatClampNeg) (xs (x3 + (3 : Int32)).toNatClampNeg) (xs (x3 + (4 : Int32)).toNatClampNeg) q_514 hC_514) (cwV 4 hts g_L_41_Y_fuse rfl rfl rfl (by decide +kernel) ⟨Nat.le_of_ble_eq_true rfl, Nat.le_of_ble_eq_true rfl⟩) ⟨fun a U g mk q => by obtain ⟨q0, q1, qP, qK, qD⟩ := q; exact ⟨q0, q1, qP, va_K.moved (u := U) (U := U.calling g mk a) (Vm.Alike.refl U.vm) qK, qD⟩, va_recv hKc hPc (ci := 2) (q0 := 0) rfl rfl, fun U hU hW => ⟨rfl, by rw [hU], by rw [hU]; exact hPc, va_K.moved hW.alike hKc, hDc.weaken (fun _ _ _ _ => trivial)⟩⟩ rfl rfl hl.1 rfl (lv_room (Nat.le_of_ble_eq_true rfl)) d_L_law_514 ⟨Nat.le_of_ble_eq_true rfl, Nat.le_of_ble_eq_true rfl⟩) hS (fun q _ h => hFc q h) hFc (fun r u t H1 locs ht hvm hw hB hz1 hk1 hS => ?_)
  obtain ⟨hP1, hK1, hD1⟩ := hB
  replace hw := hw.symm
  subst hw
  rw [ht] at hP1
  obtain ⟨hP, hD⟩ := va_join (wr := [cX h_X h_M h_P h_E1 h_E2 h_E3 q_490.2.1 q_490.2.2.1 q_490.2.2.2.1, cL h_M k_M 8 q_490.2.2.2.2.1, cI h_P k_P 8 q_490.2.2.2.2.2.1, cE h_E1 q_490.2.2.2.2.2.2.1 q_490.2.2.2.2.2.2.2.1 q_490.2.2.2.2.2.2.2.2.1 q_490.2.2.2.2.2.2.2.2.2.1 q_490.2.2.2.2.2.2.2.2.2.2.1, cE h_E2 q_490.2.2.2.2.2.2.2.2.2.2.2.1 q_490.2.2.2.2.2.2.2.2.2.2.2.2.1 q_490.2.2.2.2.2.2.2.2.2.2.2.2.2.1 q_490.2.2.2.2.2.2.2.2.2.2.2.2.2.2.1 q_490.2.2.2.2.2.2.2.2.2.2.2.2.2.2.2, cE h_E3 E3_sg E3_hi E3_lo E3_pl E3_mo]) (w1 := [cY h_Y h_O h_N h_B h_G h_K q_514.2.1 q_514.2.2.1 q_514.2.2.2.1 q_514.2.2.2.2.1 q_514.2.2.2.2.2.1 q_514.2.2.2.2.2.2.1, cL h_O k_O 8 q_514.2.2.2.2.2.2.2.1, cI h_N k_N 8 q_514.2.2.2.2.2.2.2.2.1, cI h_B k_B 8 q_514.2.2.2.2.2.2.2.2.2.1, cI h_G k_G 30 q_514.2.2.2.2.2.2.2.2.2.2.1, cI h_K k_K 30 q_514.2.2.2.2.2.2.2.2.2.2.2]) hP hD [6, 7, 8, 9, 10, 11] [0, 1, 2, 3, 4, 5] rfl rfl (by decide) (by decide) hk1 hFc hP1 hD1
  generalize H1 = H at hP hS ⊢
  have hP := hP.sub (ws' := [cX h_X h_M h_P h_E1 h_E2 h_E3 q_490.2.1 q_490.2.2.1 q_490.2.2.2.1, cL h_M k_M 8 q_490.2.2.2.2.1, cI h_P k_P 8 q_490.2.2.2.2.2.1, cE h_E1 q_490.2.2.2.2.2.2.1 q_490.2.2.2.2.2.2.2.1 q_490.2.2.2.2.2.2.2.2.1 q_490.2.2.2.2.2.2.2.2.2.1 q_490.2.2.2.2.2.2.2.2.2.2.1, cE h_E2 q_490.2.2.2.2.2.2.2.2.2.2.2.1 q_490.2.2.2.2.2.2.2.2.2.2.2.2.1 q_490.2.2.2.2.2.2.2.2.2.2.2.2.2.1 q_490.2.2.2.2.2.2.2.2.2.2.2.2.2.2.1 q_490.2.2.2.2.2.2.2.2.2.2.2.2.2.2.2, cE h_E3 E3_sg E3_hi E3_lo E3_pl E3_mo, cY h_Y h_O h_N h_B h_G h_K q_514.2.1 q_514.2.2.1 q_514.2.2.2.1 q_514.2.2.2.2.1 q_514.2.2.2.2.2.1 q_514.2.2.2.2.2.2.1, cL h_O k_O 8 q_514.2.2.2.2.2.2.2.1, cI h_N k_N 8 q_514.2.2.2.2.2.2.2.2.1, cI h_B k_B 8 q_514.2.2.2.2.2.2.2.2.2.1, cI h_G k_G 30 q_514.2.2.2.2.2.2.2.2.2.2.1, cI h_K k_K 30 q_514.2.2.2.2.2.2.2.2.2.2.2]) [0, 1, 2, 3, 4, 5, 6, 7, 8, 9, 10, 11] rfl
  have hD := hD.sub (ws' := [cX h_X h_M h_P h_E1 h_E2 h_E3 q_490.2.1 q_490.2.2.1 q_490.2.2.2.1, cL h_M k_M 8 q_490.2.2.2.2.1, cI h_P k_P 8 q_490.2.2.2.2.2.1, cE h_E1 q_490.2.2.2.2.2.2.1 q_490.2.2.2.2.2.2.2.1 q_490.2.2.2.2.2.2.2.2.1 q_490.2.2.2.2.2.2.2.2.2.1 q_490.2.2.2.2.2.2.2.2.2.2.1, cE h_E2 q_490.2.2.2.2.2.2.2.2.2.2.2.1 q_490.2.2.2.2.2.2.2.2.2.2.2.2.1 q_490.2.2.2.2.2.2.2.2.2.2.2.2.2.1 q_490.2.2.2.2.2.2.2.2.2.2.2.2.2.2.1 q_490.2.2.2.2.2.2.2.2.2.2.2.2.2.2.2, cE h_E3 E3_sg E3_hi E3_lo E3_pl E3_mo, cY h_Y h_O h_N h_B h_G h_K q_514.2.1 q_514.2.2.1 q_514.2.2.2.1 q_514.2.2.2.2.1 q_514.2.2.2.2.2.1 q_514.2.2.2.2.2.2.1, cL h_O k_O 8 q_514.2.2.2.2.2.2.2.1, cI h_N k_N 8 q_514.2.2.2.2.2.2.2.2.1, cI h_B k_B 8 q_514.2.2.2.2.2.2.2.2.2.1, cI h_G k_G 30 q_514.2.2.2.2.2.2.2.2.2.2.1, cI h_K k_K 30 q_514.2.2.2.2.2.2.2.2.2.2.2]) [0, 1, 2, 3, 4, 5, 6, 7, 8, 9, 10, 11] (by decide) rfl
  refine lv_icmp_eq (tgt := 1051) hx hb d_L_law_517 (by decide) (fun c_517 => ?_) (fun c_517 => ?_)
  · replace hF := hif_t c_517 hF
    refine lv_iinc (v := (x3 + (5 : Int32))) (lv' := [(3, .int (x3 + (5 : Int32))), (0, .ref h_S), (1, .ref h_X), (2, .ref h_Y)]) hx hb d_L_law_1051 hl (k := 3) rfl rfl (by decide) rfl (fun ls hl => ?_)
    refine lv_goto (tgt := 18) hx hb d_L_law_1054 (by decide) ?_
    exact hk_18 (x3 + (5 : Int32)) q_490.2.1 q_490.2.2.1 q_490.2.2.2.1 q_490.2.2.2.2.1 q_490.2.2.2.2.2.1 q_490.2.2.2.2.2.2.1 q_490.2.2.2.2.2.2.2.1 q_490.2.2.2.2.2.2.2.2.1 q_490.2.2.2.2.2.2.2.2.2.1 q_490.2.2.2.2.2.2.2.2.2.2.1 q_490.2.2.2.2.2.2.2.2.2.2.2.1 q_490.2.2.2.2.2.2.2.2.2.2.2.2.1 q_490.2.2.2.2.2.2.2.2.2.2.2.2.2.1 q_490.2.2.2.2.2.2.2.2.2.2.2.2.2.2.1 q_490.2.2.2.2.2.2.2.2.2.2.2.2.2.2.2 E3_sg E3_hi E3_lo E3_pl E3_mo q_514.2.1 q_514.2.2.1 q_514.2.2.2.1 q_514.2.2.2.2.1 q_514.2.2.2.2.2.1 q_514.2.2.2.2.2.2.1 q_514.2.2.2.2.2.2.2.1 q_514.2.2.2.2.2.2.2.2.1 q_514.2.2.2.2.2.2.2.2.2.1 q_514.2.2.2.2.2.2.2.2.2.2.1 q_514.2.2.2.2.2.2.2.2.2.2.2 _ _ _ hP hD hS (lv_sub hl [1, 2, 3, 0] rfl) hF
  · replace hF := hif_f c_517 hF
    refine lv_iconst (v := (0 : Int32)) hx hb d_L_law_520 (by decide) ?_
    exact absurd (Option.some.inj hF) (by decide)
set_option maxHeartbeats 4000000 in
set_option maxRecDepth 100000 in
theorem lb_522 {p : Program} {l : Launch} {e : Env} {s : State} {m : MethodId} {below : List Frame} {meth : Method} {c : Code} {h_S L : Nat} {xs : Nat → Int32} (C0 : lw_At p s m meth c h_S L xs) {A : Nat → Prop} (hA : ∀ q : Nat, s.heap.size ≤ q → A q) (hA2 : ∀ q : Nat, A q → s.heap.size ≤ q) {dC : Nat → ClassId} {dI : Nat → Nat → Nat} {h_X : Nat} {h_M : Nat} {h_P : Nat} {h_E1 : Nat} {h_E2 : Nat} {h_E3 : Nat} {h_Y : Nat} {h_O : Nat} {h_N : Nat} {h_B : Nat} {h_G : Nat} {h_K : Nat} {k_M : ClassId} {k_P : ClassId} {k_O : ClassId} {k_N : ClassId} {k_B : ClassId} {k_G : ClassId} {k_K : ClassId} (hK : va_K (dC, dI) classes [(k_M, .long), (k_P, .int), (k_O, .long), (k_N, .int), (k_B, .boolean), (k_G, .int), (k_K, .int)] s) : ∀ (k_18 : (Int32) → (Int32) → (Int32) → (Int32) → (Nat → Int64) → (Nat → Int32) → (Int32) → (Int64) → (Int64) → (Int32) → (Int32) → (Int32) → (Int64) → (Int64) → (Int32) → (Int32) → (Int32) → (Int64) → (Int64) → (Int32) → (Int32) → (Int32) → (Int32) → (Int32) → (Int64) → (Int32) → (Int32) → (Nat → Int64) → (Nat → Int32) → (Nat → Int32) → (Nat → Int32) → (Nat → Int32) → Option (Int32)), (∀ (x3 : Int32) (X_lo : Int32) (X_ro : Int32) (X_rc : Int32) (M_f : Nat → Int64) (P_f : Nat → Int32) (E1_sg : Int32) (E1_hi : Int64) (E1_lo : Int64) (E1_pl : Int32) (E1_mo : Int32) (E2_sg : Int32) (E2_hi : Int64) (E2_lo : Int64) (E2_pl : Int32) (E2_mo : Int32) (E3_sg : Int32) (E3_hi : Int64) (E3_lo : Int64) (E3_pl : Int32) (E3_mo : Int32) (Y_lo : Int32) (Y_ie : Int32) (Y_ra : Int32) (Y_to : Int64) (Y_te : Int32) (Y_re : Int32) (O_f : Nat → Int64) (N_f : Nat → Int32) (B_f : Nat → Int32) (G_f : Nat → Int32) (K_f : Nat → Int32) (H : Heap) (locs : List Loc) (ls : Array Slot), va_P (dC, dI) classes [cX h_X h_M h_P h_E1 h_E2 h_E3 X_lo X_ro X_rc, cL h_M k_M 8 M_f, cI h_P k_P 8 P_f, cE h_E1 E1_sg E1_hi E1_lo E1_pl E1_mo, cE h_E2 E2_sg E2_hi E2_lo E2_pl E2_mo, cE h_E3 E3_sg E3_hi E3_lo E3_pl E3_mo, cY h_Y h_O h_N h_B h_G h_K Y_lo Y_ie Y_ra Y_to Y_te Y_re, cL h_O k_O 8 O_f, cI h_N k_N 8 N_f, cI h_B k_B 8 B_f, cI h_G k_G 30 G_f, cI h_K k_K 30 K_f] H → va_D A [cX h_X h_M h_P h_E1 h_E2 h_E3 X_lo X_ro X_rc, cL h_M k_M 8 M_f, cI h_P k_P 8 P_f, cE h_E1 E1_sg E1_hi E1_lo E1_pl E1_mo, cE h_E2 E2_sg E2_hi E2_lo E2_pl E2_mo, cE h_E3 E3_sg E3_hi E3_lo E3_pl E3_mo, cY h_Y h_O h_N h_B h_G h_K Y_lo Y_ie Y_ra Y_to Y_te Y_re, cL h_O k_O 8 O_f, cI h_N k_N 8 N_f, cI h_B k_B 8 B_f, cI h_G k_G 30 G_f, cI h_K k_K 30 K_f] → va_S A s.heap H locs → lv_has ls 4 [(0, .ref h_S), (1, .ref h_X), (2, .ref h_Y), (3, .int x3)] → k_18 x3 X_lo X_ro X_rc M_f P_f E1_sg E1_hi E1_lo E1_pl E1_mo E2_sg E2_hi E2_lo E2_pl E2_mo E3_sg E3_hi E3_lo E3_pl E3_mo Y_lo Y_ie Y_ra Y_to Y_te Y_re O_f N_f B_f G_f K_f = some 1 → W p l e room_1 s m #[Value.ref h_S] below meth c H locs 12 134 (lw_Z below #[Value.ref h_S] s) (F0 m 18 ls [])) → ∀ (x3 : Int32) (X_lo : Int32) (X_ro : Int32) (X_rc : Int32) (M_f : Nat → Int64) (P_f : Nat → Int32) (E1_sg : Int32) (E1_hi : Int64) (E1_lo : Int64) (E1_pl : Int32) (E1_mo : Int32) (E2_sg : Int32) (E2_hi : Int64) (E2_lo : Int64) (E2_pl : Int32) (E2_mo : Int32) (E3_sg : Int32) (E3_hi : Int64) (E3_lo : Int64) (E3_pl : Int32) (E3_mo : Int32) (Y_lo : Int32) (Y_ie : Int32) (Y_ra : Int32) (Y_to : Int64) (Y_te : Int32) (Y_re : Int32) (O_f : Nat → Int64) (N_f : Nat → Int32) (B_f : Nat → Int32) (G_f : Nat → Int32) (K_f : Nat → Int32) (H : Heap) (locs : List Loc) (ls : Array Slot), va_P (dC, dI) classes [cX h_X h_M h_P h_E1 h_E2 h_E3 X_lo X_ro X_rc, cL h_M k_M 8 M_f, cI h_P k_P 8 P_f, cE h_E1 E1_sg E1_hi E1_lo E1_pl E1_mo, cE h_E2 E2_sg E2_hi E2_lo E2_pl E2_mo, cE h_E3 E3_sg E3_hi E3_lo E3_pl E3_mo, cY h_Y h_O h_N h_B h_G h_K Y_lo Y_ie Y_ra Y_to Y_te Y_re, cL h_O k_O 8 O_f, cI h_N k_N 8 N_f, cI h_B k_B 8 B_f, cI h_G k_G 30 G_f, cI h_K k_K 30 K_f] H → va_D A [cX h_X h_M h_P h_E1 h_E2 h_E3 X_lo X_ro X_rc, cL h_M k_M 8 M_f, cI h_P k_P 8 P_f, cE h_E1 E1_sg E1_hi E1_lo E1_pl E1_mo, cE h_E2 E2_sg E2_hi E2_lo E2_pl E2_mo, cE h_E3 E3_sg E3_hi E3_lo E3_pl E3_mo, cY h_Y h_O h_N h_B h_G h_K Y_lo Y_ie Y_ra Y_to Y_te Y_re, cL h_O k_O 8 O_f, cI h_N k_N 8 N_f, cI h_B k_B 8 B_f, cI h_G k_G 30 G_f, cI h_K k_K 30 K_f] → va_S A s.heap H locs → lv_has ls 4 [(0, .ref h_S), (1, .ref h_X), (2, .ref h_Y), (3, .int x3)] → f_law_522 L xs k_18 x3 X_lo X_ro X_rc M_f P_f E1_sg E1_hi E1_lo E1_pl E1_mo E2_sg E2_hi E2_lo E2_pl E2_mo E3_sg E3_hi E3_lo E3_pl E3_mo Y_lo Y_ie Y_ra Y_to Y_te Y_re O_f N_f B_f G_f K_f = some 1 → W p l e room_1 s m #[Value.ref h_S] below meth c H locs 12 134 (lw_Z below #[Value.ref h_S] s) (F0 m 522 ls []) := by
  obtain ⟨hx, hb, hr, hml, hown, hts1, hX, hbl, hlocks, hgv⟩ := id C0
  have hts : ∀ w ∈ tb, w.before _ s = true := fun w h => hts1 w (List.mem_filter.mp h).1
  clear hts1
  have hbA : ¬ A h_S := fun q => Nat.not_le.mpr hbl (hA2 _ q)
  intro k_18 hk_18 x3 X_lo X_ro X_rc M_f P_f E1_sg E1_hi E1_lo E1_pl E1_mo E2_sg E2_hi E2_lo E2_pl E2_mo E3_sg E3_hi E3_lo E3_pl E3_mo Y_lo Y_ie Y_ra Y_to Y_te Y_re O_f N_f B_f G_f K_f H locs ls hP hD hS hl hF
  unfold f_law_522 at hF
  refine lv_aload_n hx hb d_L_law_522 rfl (lv_at hl 1 rfl) ?_
  refine lv_aload_n hx hb d_L_law_523 rfl (lv_at hl 0 rfl) ?_
  refine lv_iload_n hx hb d_L_law_524 rfl (lv_at hl 3 rfl) ?_
  refine lv_iconst (v := (1 : Int32)) hx hb d_L_law_525 (by decide) ?_
  refine lv_iadd hx hb d_L_law_526 ?_
  have c_527 : ¬ ((x3 + (1 : Int32)) < 0 ∨ L ≤ (x3 + (1 : Int32)).toNatClampNeg) := hif_n hF
  replace hF := hif_f c_527 hF
  refine va_sld hx hb hX hbl hbA hS c_527 d_L_law_527 ?_
  refine lv_aload_n hx hb d_L_law_528 rfl (lv_at hl 0 rfl) ?_
  refine lv_iload_n hx hb d_L_law_529 rfl (lv_at hl 3 rfl) ?_
  refine lv_iconst (v := (2 : Int32)) hx hb d_L_law_530 (by decide) ?_
  refine lv_iadd hx hb d_L_law_531 ?_
  have c_532 : ¬ ((x3 + (2 : Int32)) < 0 ∨ L ≤ (x3 + (2 : Int32)).toNatClampNeg) := hif_n hF
  replace hF := hif_f c_532 hF
  refine va_sld hx hb hX hbl hbA hS c_532 d_L_law_532 ?_
  refine lv_aload_n hx hb d_L_law_533 rfl (lv_at hl 0 rfl) ?_
  refine lv_iload_n hx hb d_L_law_534 rfl (lv_at hl 3 rfl) ?_
  refine lv_iconst (v := (3 : Int32)) hx hb d_L_law_535 (by decide) ?_
  refine lv_iadd hx hb d_L_law_536 ?_
  have c_537 : ¬ ((x3 + (3 : Int32)) < 0 ∨ L ≤ (x3 + (3 : Int32)).toNatClampNeg) := hif_n hF
  replace hF := hif_f c_537 hF
  refine va_sld hx hb hX hbl hbA hS c_537 d_L_law_537 ?_
  refine lv_aload_n hx hb d_L_law_538 rfl (lv_at hl 0 rfl) ?_
  refine lv_iload_n hx hb d_L_law_539 rfl (lv_at hl 3 rfl) ?_
  refine lv_iconst (v := (4 : Int32)) hx hb d_L_law_540 (by decide) ?_
  refine lv_iadd hx hb d_L_law_541 ?_
  have c_542 : ¬ ((x3 + (4 : Int32)) < 0 ∨ L ≤ (x3 + (4 : Int32)).toNatClampNeg) := hif_n hF
  replace hF := hif_f c_542 hF
  refine va_sld hx hb hX hbl hbA hS c_542 d_L_law_542 ?_
  obtain ⟨q_543, hC_543, hF⟩ := hbd hF
  have hPc := hP.sub (ws' := [cX h_X h_M h_P h_E1 h_E2 h_E3 X_lo X_ro X_rc, cL h_M k_M 8 M_f, cI h_P k_P 8 P_f, cE h_E1 E1_sg E1_hi E1_lo E1_pl E1_mo, cE h_E2 E2_sg E2_hi E2_lo E2_pl E2_mo]) [0, 1, 2, 3, 4] rfl
  have hDc := hD.sub (ws' := [cX h_X h_M h_P h_E1 h_E2 h_E3 X_lo X_ro X_rc, cL h_M k_M 8 M_f, cI h_P k_P 8 P_f, cE h_E1 E1_sg E1_hi E1_lo E1_pl E1_mo, cE h_E2 E2_sg E2_hi E2_lo E2_pl E2_mo]) [0, 1, 2, 3, 4] (by decide) rfl
  have hKc := hK.sub (tys' := [(k_M, .long), (k_P, .int)]) [0, 1] rfl
  have hFc := va_free (wc := [cX h_X h_M h_P h_E1 h_E2 h_E3 X_lo X_ro X_rc, cL h_M k_M 8 M_f, cI h_P k_P 8 P_f, cE h_E1 E1_sg E1_hi E1_lo E1_pl E1_mo, cE h_E2 E2_sg E2_hi E2_lo E2_pl E2_mo]) hD hS hA [0, 1, 2, 3, 4] rfl
  refine va_calli (va_runV (As := [.int (xs (x3 + (1 : Int32)).toNatClampNeg), .int (xs (x3 + (2 : Int32)).toNatClampNeg), .int (xs (x3 + (3 : Int32)).toNatClampNeg), .int (xs (x3 + (4 : Int32)).toNatClampNeg)]) (rest := []) ⟨hx, hb, hml, hown, hts⟩ (c_X_fuseNarrow l dC dI h_X h_M h_P h_E1 h_E2 h_E3 k_M k_P H.size X_lo X_ro X_rc M_f P_f E1_sg E1_hi E1_lo E1_pl E1_mo E2_sg E2_hi E2_lo E2_pl E2_mo (xs (x3 + (1 : Int32)).toNatClampNeg) (xs (x3 + (2 : Int32)).toNatClampNeg) (xs (x3 + (3 : Int32)).toNatClampNeg) (xs (x3 + (4 : Int32)).toNatClampNeg) q_543 hC_543) (cwV 4 hts g_L_42_X_fuseNarrow rfl rfl rfl (by decide +kernel) ⟨Nat.le_of_ble_eq_true rfl, Nat.le_of_ble_eq_true rfl⟩) ⟨fun a U g mk q => by obtain ⟨q0, q1, qP, qK, qD⟩ := q; exact ⟨q0, q1, qP, va_K.moved (u := U) (U := U.calling g mk a) (Vm.Alike.refl U.vm) qK, qD⟩, va_recv hKc hPc (ci := 1) (q0 := 0) rfl rfl, fun U hU hW => ⟨rfl, by rw [hU], by rw [hU]; exact hPc, va_K.moved hW.alike hKc, hDc.weaken (fun _ _ _ _ => trivial)⟩⟩ rfl rfl hl.1 rfl (lv_room (Nat.le_of_ble_eq_true rfl)) d_L_law_543 ⟨Nat.le_of_ble_eq_true rfl, Nat.le_of_ble_eq_true rfl⟩) hS (fun q _ h => hFc q h) hFc (fun r u t H1 locs ht hvm hw hB hz1 hk1 hS => ?_)
  obtain ⟨hP1, hK1, hD1⟩ := hB
  replace hw := hw.symm
  subst hw
  rw [ht] at hP1
  obtain ⟨hP, hD⟩ := va_join (wr := [cE h_E3 E3_sg E3_hi E3_lo E3_pl E3_mo, cY h_Y h_O h_N h_B h_G h_K Y_lo Y_ie Y_ra Y_to Y_te Y_re, cL h_O k_O 8 O_f, cI h_N k_N 8 N_f, cI h_B k_B 8 B_f, cI h_G k_G 30 G_f, cI h_K k_K 30 K_f]) (w1 := [cX h_X h_M h_P h_E1 h_E2 h_E3 q_543.2.1 q_543.2.2.1 q_543.2.2.2.1, cL h_M k_M 8 q_543.2.2.2.2.1, cI h_P k_P 8 q_543.2.2.2.2.2.1, cE h_E1 q_543.2.2.2.2.2.2.1 q_543.2.2.2.2.2.2.2.1 q_543.2.2.2.2.2.2.2.2.1 q_543.2.2.2.2.2.2.2.2.2.1 q_543.2.2.2.2.2.2.2.2.2.2.1, cE h_E2 q_543.2.2.2.2.2.2.2.2.2.2.2.1 q_543.2.2.2.2.2.2.2.2.2.2.2.2.1 q_543.2.2.2.2.2.2.2.2.2.2.2.2.2.1 q_543.2.2.2.2.2.2.2.2.2.2.2.2.2.2.1 q_543.2.2.2.2.2.2.2.2.2.2.2.2.2.2.2]) hP hD [0, 1, 2, 3, 4] [5, 6, 7, 8, 9, 10, 11] rfl rfl (by decide) (by decide) hk1 hFc hP1 hD1
  generalize H1 = H at hP hS ⊢
  have hP := hP.sub (ws' := [cX h_X h_M h_P h_E1 h_E2 h_E3 q_543.2.1 q_543.2.2.1 q_543.2.2.2.1, cL h_M k_M 8 q_543.2.2.2.2.1, cI h_P k_P 8 q_543.2.2.2.2.2.1, cE h_E1 q_543.2.2.2.2.2.2.1 q_543.2.2.2.2.2.2.2.1 q_543.2.2.2.2.2.2.2.2.1 q_543.2.2.2.2.2.2.2.2.2.1 q_543.2.2.2.2.2.2.2.2.2.2.1, cE h_E2 q_543.2.2.2.2.2.2.2.2.2.2.2.1 q_543.2.2.2.2.2.2.2.2.2.2.2.2.1 q_543.2.2.2.2.2.2.2.2.2.2.2.2.2.1 q_543.2.2.2.2.2.2.2.2.2.2.2.2.2.2.1 q_543.2.2.2.2.2.2.2.2.2.2.2.2.2.2.2, cE h_E3 E3_sg E3_hi E3_lo E3_pl E3_mo, cY h_Y h_O h_N h_B h_G h_K Y_lo Y_ie Y_ra Y_to Y_te Y_re, cL h_O k_O 8 O_f, cI h_N k_N 8 N_f, cI h_B k_B 8 B_f, cI h_G k_G 30 G_f, cI h_K k_K 30 K_f]) [7, 8, 9, 10, 11, 0, 1, 2, 3, 4, 5, 6] rfl
  have hD := hD.sub (ws' := [cX h_X h_M h_P h_E1 h_E2 h_E3 q_543.2.1 q_543.2.2.1 q_543.2.2.2.1, cL h_M k_M 8 q_543.2.2.2.2.1, cI h_P k_P 8 q_543.2.2.2.2.2.1, cE h_E1 q_543.2.2.2.2.2.2.1 q_543.2.2.2.2.2.2.2.1 q_543.2.2.2.2.2.2.2.2.1 q_543.2.2.2.2.2.2.2.2.2.1 q_543.2.2.2.2.2.2.2.2.2.2.1, cE h_E2 q_543.2.2.2.2.2.2.2.2.2.2.2.1 q_543.2.2.2.2.2.2.2.2.2.2.2.2.1 q_543.2.2.2.2.2.2.2.2.2.2.2.2.2.1 q_543.2.2.2.2.2.2.2.2.2.2.2.2.2.2.1 q_543.2.2.2.2.2.2.2.2.2.2.2.2.2.2.2, cE h_E3 E3_sg E3_hi E3_lo E3_pl E3_mo, cY h_Y h_O h_N h_B h_G h_K Y_lo Y_ie Y_ra Y_to Y_te Y_re, cL h_O k_O 8 O_f, cI h_N k_N 8 N_f, cI h_B k_B 8 B_f, cI h_G k_G 30 G_f, cI h_K k_K 30 K_f]) [7, 8, 9, 10, 11, 0, 1, 2, 3, 4, 5, 6] (by decide) rfl
  refine lv_aload_n hx hb d_L_law_546 rfl (lv_at hl 2 rfl) ?_
  refine lv_aload_n hx hb d_L_law_547 rfl (lv_at hl 0 rfl) ?_
  refine lv_iload_n hx hb d_L_law_548 rfl (lv_at hl 3 rfl) ?_
  refine lv_iconst (v := (1 : Int32)) hx hb d_L_law_549 (by decide) ?_
  refine lv_iadd hx hb d_L_law_550 ?_
  have c_551 : ¬ ((x3 + (1 : Int32)) < 0 ∨ L ≤ (x3 + (1 : Int32)).toNatClampNeg) := hif_n hF
  replace hF := hif_f c_551 hF
  refine va_sld hx hb hX hbl hbA hS c_551 d_L_law_551 ?_
  refine lv_aload_n hx hb d_L_law_552 rfl (lv_at hl 0 rfl) ?_
  refine lv_iload_n hx hb d_L_law_553 rfl (lv_at hl 3 rfl) ?_
  refine lv_iconst (v := (2 : Int32)) hx hb d_L_law_554 (by decide) ?_
  refine lv_iadd hx hb d_L_law_555 ?_
  have c_556 : ¬ ((x3 + (2 : Int32)) < 0 ∨ L ≤ (x3 + (2 : Int32)).toNatClampNeg) := hif_n hF
  replace hF := hif_f c_556 hF
  refine va_sld hx hb hX hbl hbA hS c_556 d_L_law_556 ?_
  refine lv_aload_n hx hb d_L_law_557 rfl (lv_at hl 0 rfl) ?_
  refine lv_iload_n hx hb d_L_law_558 rfl (lv_at hl 3 rfl) ?_
  refine lv_iconst (v := (3 : Int32)) hx hb d_L_law_559 (by decide) ?_
  refine lv_iadd hx hb d_L_law_560 ?_
  have c_561 : ¬ ((x3 + (3 : Int32)) < 0 ∨ L ≤ (x3 + (3 : Int32)).toNatClampNeg) := hif_n hF
  replace hF := hif_f c_561 hF
  refine va_sld hx hb hX hbl hbA hS c_561 d_L_law_561 ?_
  refine lv_aload_n hx hb d_L_law_562 rfl (lv_at hl 0 rfl) ?_
  refine lv_iload_n hx hb d_L_law_563 rfl (lv_at hl 3 rfl) ?_
  refine lv_iconst (v := (4 : Int32)) hx hb d_L_law_564 (by decide) ?_
  refine lv_iadd hx hb d_L_law_565 ?_
  have c_566 : ¬ ((x3 + (4 : Int32)) < 0 ∨ L ≤ (x3 + (4 : Int32)).toNatClampNeg) := hif_n hF
  replace hF := hif_f c_566 hF
  refine va_sld hx hb hX hbl hbA hS c_566 d_L_law_566 ?_
  obtain ⟨q_567, hC_567, hF⟩ := hbd hF
  have hPc := hP.sub (ws' := [cY h_Y h_O h_N h_B h_G h_K Y_lo Y_ie Y_ra Y_to Y_te Y_re, cL h_O k_O 8 O_f, cI h_N k_N 8 N_f, cI h_B k_B 8 B_f, cI h_G k_G 30 G_f, cI h_K k_K 30 K_f]) [6, 7, 8, 9, 10, 11] rfl
  have hDc := hD.sub (ws' := [cY h_Y h_O h_N h_B h_G h_K Y_lo Y_ie Y_ra Y_to Y_te Y_re, cL h_O k_O 8 O_f, cI h_N k_N 8 N_f, cI h_B k_B 8 B_f, cI h_G k_G 30 G_f, cI h_K k_K 30 K_f]) [6, 7, 8, 9, 10, 11] (by decide) rfl
  have hKc := hK.sub (tys' := [(k_O, .long), (k_N, .int), (k_B, .boolean), (k_G, .int), (k_K, .int)]) [2, 3, 4, 5, 6] rfl
  have hFc := va_free (wc := [cY h_Y h_O h_N h_B h_G h_K Y_lo Y_ie Y_ra Y_to Y_te Y_re, cL h_O k_O 8 O_f, cI h_N k_N 8 N_f, cI h_B k_B 8 B_f, cI h_G k_G 30 G_f, cI h_K k_K 30 K_f]) hD hS hA [6, 7, 8, 9, 10, 11] rfl
  refine va_calli (va_runV (As := [.int (xs (x3 + (1 : Int32)).toNatClampNeg), .int (xs (x3 + (2 : Int32)).toNatClampNeg), .int (xs (x3 + (3 : Int32)).toNatClampNeg), .int (xs (x3 + (4 : Int32)).toNatClampNeg)]) (rest := [.int q_543.1]) ⟨hx, hb, hml, hown, hts⟩ (c_Y_fuseNarrow l dC dI h_Y h_O h_N h_B h_G h_K k_O k_N k_B k_G k_K H.size Y_lo Y_ie Y_ra Y_to Y_te Y_re O_f N_f B_f G_f K_f (xs (x3 + (1 : Int32)).toNatClampNeg) (xs (x3 + (2 : Int32)).toNatClampNeg) (xs (x3 + (3 : Int32)).toNatClampNeg) (xs (x3 + (4 : Int32)).toNatClampNeg) q_567 hC_567) (cwV 4 hts g_L_45_Y_fuseNarrow rfl rfl rfl (by decide +kernel) ⟨Nat.le_of_ble_eq_true rfl, Nat.le_of_ble_eq_true rfl⟩) ⟨fun a U g mk q => by obtain ⟨q0, q1, qP, qK, qD⟩ := q; exact ⟨q0, q1, qP, va_K.moved (u := U) (U := U.calling g mk a) (Vm.Alike.refl U.vm) qK, qD⟩, va_recv hKc hPc (ci := 2) (q0 := 0) rfl rfl, fun U hU hW => ⟨rfl, by rw [hU], by rw [hU]; exact hPc, va_K.moved hW.alike hKc, hDc.weaken (fun _ _ _ _ => trivial)⟩⟩ rfl rfl hl.1 rfl (lv_room (Nat.le_of_ble_eq_true rfl)) d_L_law_567 ⟨Nat.le_of_ble_eq_true rfl, Nat.le_of_ble_eq_true rfl⟩) hS (fun q _ h => hFc q h) hFc (fun r u t H1 locs ht hvm hw hB hz1 hk1 hS => ?_)
  obtain ⟨hP1, hK1, hD1⟩ := hB
  replace hw := hw.symm
  subst hw
  rw [ht] at hP1
  obtain ⟨hP, hD⟩ := va_join (wr := [cX h_X h_M h_P h_E1 h_E2 h_E3 q_543.2.1 q_543.2.2.1 q_543.2.2.2.1, cL h_M k_M 8 q_543.2.2.2.2.1, cI h_P k_P 8 q_543.2.2.2.2.2.1, cE h_E1 q_543.2.2.2.2.2.2.1 q_543.2.2.2.2.2.2.2.1 q_543.2.2.2.2.2.2.2.2.1 q_543.2.2.2.2.2.2.2.2.2.1 q_543.2.2.2.2.2.2.2.2.2.2.1, cE h_E2 q_543.2.2.2.2.2.2.2.2.2.2.2.1 q_543.2.2.2.2.2.2.2.2.2.2.2.2.1 q_543.2.2.2.2.2.2.2.2.2.2.2.2.2.1 q_543.2.2.2.2.2.2.2.2.2.2.2.2.2.2.1 q_543.2.2.2.2.2.2.2.2.2.2.2.2.2.2.2, cE h_E3 E3_sg E3_hi E3_lo E3_pl E3_mo]) (w1 := [cY h_Y h_O h_N h_B h_G h_K q_567.2.1 q_567.2.2.1 q_567.2.2.2.1 q_567.2.2.2.2.1 q_567.2.2.2.2.2.1 q_567.2.2.2.2.2.2.1, cL h_O k_O 8 q_567.2.2.2.2.2.2.2.1, cI h_N k_N 8 q_567.2.2.2.2.2.2.2.2.1, cI h_B k_B 8 q_567.2.2.2.2.2.2.2.2.2.1, cI h_G k_G 30 q_567.2.2.2.2.2.2.2.2.2.2.1, cI h_K k_K 30 q_567.2.2.2.2.2.2.2.2.2.2.2]) hP hD [6, 7, 8, 9, 10, 11] [0, 1, 2, 3, 4, 5] rfl rfl (by decide) (by decide) hk1 hFc hP1 hD1
  generalize H1 = H at hP hS ⊢
  have hP := hP.sub (ws' := [cX h_X h_M h_P h_E1 h_E2 h_E3 q_543.2.1 q_543.2.2.1 q_543.2.2.2.1, cL h_M k_M 8 q_543.2.2.2.2.1, cI h_P k_P 8 q_543.2.2.2.2.2.1, cE h_E1 q_543.2.2.2.2.2.2.1 q_543.2.2.2.2.2.2.2.1 q_543.2.2.2.2.2.2.2.2.1 q_543.2.2.2.2.2.2.2.2.2.1 q_543.2.2.2.2.2.2.2.2.2.2.1, cE h_E2 q_543.2.2.2.2.2.2.2.2.2.2.2.1 q_543.2.2.2.2.2.2.2.2.2.2.2.2.1 q_543.2.2.2.2.2.2.2.2.2.2.2.2.2.1 q_543.2.2.2.2.2.2.2.2.2.2.2.2.2.2.1 q_543.2.2.2.2.2.2.2.2.2.2.2.2.2.2.2, cE h_E3 E3_sg E3_hi E3_lo E3_pl E3_mo, cY h_Y h_O h_N h_B h_G h_K q_567.2.1 q_567.2.2.1 q_567.2.2.2.1 q_567.2.2.2.2.1 q_567.2.2.2.2.2.1 q_567.2.2.2.2.2.2.1, cL h_O k_O 8 q_567.2.2.2.2.2.2.2.1, cI h_N k_N 8 q_567.2.2.2.2.2.2.2.2.1, cI h_B k_B 8 q_567.2.2.2.2.2.2.2.2.2.1, cI h_G k_G 30 q_567.2.2.2.2.2.2.2.2.2.2.1, cI h_K k_K 30 q_567.2.2.2.2.2.2.2.2.2.2.2]) [0, 1, 2, 3, 4, 5, 6, 7, 8, 9, 10, 11] rfl
  have hD := hD.sub (ws' := [cX h_X h_M h_P h_E1 h_E2 h_E3 q_543.2.1 q_543.2.2.1 q_543.2.2.2.1, cL h_M k_M 8 q_543.2.2.2.2.1, cI h_P k_P 8 q_543.2.2.2.2.2.1, cE h_E1 q_543.2.2.2.2.2.2.1 q_543.2.2.2.2.2.2.2.1 q_543.2.2.2.2.2.2.2.2.1 q_543.2.2.2.2.2.2.2.2.2.1 q_543.2.2.2.2.2.2.2.2.2.2.1, cE h_E2 q_543.2.2.2.2.2.2.2.2.2.2.2.1 q_543.2.2.2.2.2.2.2.2.2.2.2.2.1 q_543.2.2.2.2.2.2.2.2.2.2.2.2.2.1 q_543.2.2.2.2.2.2.2.2.2.2.2.2.2.2.1 q_543.2.2.2.2.2.2.2.2.2.2.2.2.2.2.2, cE h_E3 E3_sg E3_hi E3_lo E3_pl E3_mo, cY h_Y h_O h_N h_B h_G h_K q_567.2.1 q_567.2.2.1 q_567.2.2.2.1 q_567.2.2.2.2.1 q_567.2.2.2.2.2.1 q_567.2.2.2.2.2.2.1, cL h_O k_O 8 q_567.2.2.2.2.2.2.2.1, cI h_N k_N 8 q_567.2.2.2.2.2.2.2.2.1, cI h_B k_B 8 q_567.2.2.2.2.2.2.2.2.2.1, cI h_G k_G 30 q_567.2.2.2.2.2.2.2.2.2.2.1, cI h_K k_K 30 q_567.2.2.2.2.2.2.2.2.2.2.2]) [0, 1, 2, 3, 4, 5, 6, 7, 8, 9, 10, 11] (by decide) rfl
  refine lv_icmp_eq (tgt := 1051) hx hb d_L_law_570 (by decide) (fun c_570 => ?_) (fun c_570 => ?_)
  · replace hF := hif_t c_570 hF
    refine lv_iinc (v := (x3 + (5 : Int32))) (lv' := [(3, .int (x3 + (5 : Int32))), (0, .ref h_S), (1, .ref h_X), (2, .ref h_Y)]) hx hb d_L_law_1051 hl (k := 3) rfl rfl (by decide) rfl (fun ls hl => ?_)
    refine lv_goto (tgt := 18) hx hb d_L_law_1054 (by decide) ?_
    exact hk_18 (x3 + (5 : Int32)) q_543.2.1 q_543.2.2.1 q_543.2.2.2.1 q_543.2.2.2.2.1 q_543.2.2.2.2.2.1 q_543.2.2.2.2.2.2.1 q_543.2.2.2.2.2.2.2.1 q_543.2.2.2.2.2.2.2.2.1 q_543.2.2.2.2.2.2.2.2.2.1 q_543.2.2.2.2.2.2.2.2.2.2.1 q_543.2.2.2.2.2.2.2.2.2.2.2.1 q_543.2.2.2.2.2.2.2.2.2.2.2.2.1 q_543.2.2.2.2.2.2.2.2.2.2.2.2.2.1 q_543.2.2.2.2.2.2.2.2.2.2.2.2.2.2.1 q_543.2.2.2.2.2.2.2.2.2.2.2.2.2.2.2 E3_sg E3_hi E3_lo E3_pl E3_mo q_567.2.1 q_567.2.2.1 q_567.2.2.2.1 q_567.2.2.2.2.1 q_567.2.2.2.2.2.1 q_567.2.2.2.2.2.2.1 q_567.2.2.2.2.2.2.2.1 q_567.2.2.2.2.2.2.2.2.1 q_567.2.2.2.2.2.2.2.2.2.1 q_567.2.2.2.2.2.2.2.2.2.2.1 q_567.2.2.2.2.2.2.2.2.2.2.2 _ _ _ hP hD hS (lv_sub hl [1, 2, 3, 0] rfl) hF
  · replace hF := hif_f c_570 hF
    refine lv_iconst (v := (0 : Int32)) hx hb d_L_law_573 (by decide) ?_
    exact absurd (Option.some.inj hF) (by decide)
