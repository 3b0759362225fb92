def law_ok : Prop := ∀ (L : Nat) (xs : Nat → Int32), L ≤ 2560 → f_law_18 L xs 1000 0 0 0 0 (fun _ => 0) (fun _ => 0) 0 0 0 0 0 0 0 0 0 0 0 0 0 0 0 0 0 0 0 0 0 (fun _ => 0) (fun _ => 0) (fun _ => 0) (fun _ => 0) (fun _ => 0) = some 1
set_option maxHeartbeats 4000000 in
set_option maxRecDepth 100000 in
theorem whole_go (HT : law_ok) {p : Program} {e : Env} {s : State} {m : MethodId} {below : List Frame} {meth : Method} {c : Code} (l : Launch) {b L : Nat} {xs : Nat → Int32} (hL : L ≤ 2560) (C0 : lw_At p s m meth c b L xs) : W p l e room_1 s m #[Value.ref b] below meth c s.heap [] 0 0 (lw_Z below #[Value.ref b] s) (entryFrame m ([Value.ref b] : List Value).toArray 4) := by
  obtain ⟨hx, hb, hr, hml, hown, hts1, hX, hbl, hlocks, hgv⟩ := id C0
  have hts : ∀ w ∈ tb, w.before _ s = true := fun w h => hts1 w (List.mem_filter.mp h).1
  have hNw := va_Nw.of (w := (Jvm.Cond.methodLinkNest "RoundedNumbers" (19 : Nat) ({ cls := "RoundedNumbers$Exact", name := "<init>", desc := "()V" } : Jvm.MethodName) "RoundedNumbers")) rfl (hts1 _ tw_17)
  obtain ⟨A, hA, hA2⟩ : ∃ A : Nat → Prop, (∀ q : Nat, s.heap.size ≤ q → A q) ∧ (∀ q : Nat, A q → s.heap.size ≤ q) := ⟨fun q => s.heap.size ≤ q, fun _ h => h, fun _ h => h⟩
  obtain ⟨c0, iS0, hKn0⟩ := u_known (C := "RoundedNumbers$Exact") (T := F_E) (N := 5) (n := 5) hts in_E (hts _ tw_16)
  obtain ⟨c1, iS1, hKn1⟩ := u_known (C := "RoundedNumbers") (T := F_X) (N := 8) (n := 8) hts in_X (hts _ tw_8)
  obtain ⟨c2, iS2, hKn2⟩ := u_known (C := "RoundedNumbersModel") (T := F_Y) (N := 11) (n := 11) hts in_Y (hts _ tw_309)
  obtain ⟨dC, dI, hKc⟩ : ∃ (dC : Nat → ClassId) (dI : Nat → Nat → Nat), ∀ (k : Nat) (q : vw_C), classes[k]? = some q → u_Kn s q.1 q.2.1 q.2.2 (dC k) (dI k) := by
    refine ⟨fun k => if k = 0 then c0 else if k = 1 then c1 else c2, fun k => if k = 0 then iS0 else if k = 1 then iS1 else iS2, ?_⟩
    intro k q hq
    match k, hq with
    | 0, hq => cases hq; exact hKn0
    | 1, hq => cases hq; exact hKn1
    | 2, hq => cases hq; exact hKn2
    | k + 3, hq => simp [classes] at hq
  have hS : va_S A s.heap s.heap [] := va_S.rf
  have hK : va_K (dC, dI) classes [] s := ⟨hKc, fun k q h => by simp at h⟩
  have hP : va_P (dC, dI) classes [] s.heap := fun k q h => by simp at h
  have hD : va_D A [] := ⟨fun i j p q h => by simp at h, fun k q h => by simp at h⟩
  have hl := lv_entry ([.ref b]) (n := 4) (Nat.le_of_ble_eq_true rfl)
  rw [lg_entry_eq]
  generalize (lg_sl ([.ref b]) ++ List.replicate (4 - (lg_sl ([.ref b])).length) Slot.unset).toArray = ls at hl ⊢
  have hl : lv_has ls 4 [(0, .ref b)] := hl
  refine va_new (ci := 1) (fs := [.null, .null, .int 0, .int 0, .int 0, .null, .null, .null]) (C := "RoundedNumbers") (T := F_X) (N := 8) hx hb hts in_X t_X t_X_ok hown (hts _ tw_7) (hts _ tw_8) (hts _ tw_1) hK hP hD hS hA rfl (fun j hj => by rcases (show j = 0 ∨ j = 1 ∨ j = 2 ∨ j = 3 ∨ j = 4 ∨ j = 5 ∨ j = 6 ∨ j = 7 by omega) with rfl | rfl | rfl | rfl | rfl | rfl | rfl | rfl <;> rfl) (Nat.le_of_ble_eq_true rfl) (Nat.le_of_ble_eq_true rfl) d_L_law_0 (fun h_X H hP hD hS => ?_)
  have hP : va_P (dC, dI) classes [(h_X, .inr (1, [.null, .null, .int 0, .int 0, .int 0, .null, .null, .null]))] H := hP
  have hD : va_D A [(h_X, .inr (1, [.null, .null, .int 0, .int 0, .int 0, .null, .null, .null]))] := hD
  refine W.widen (k := 1) (n := 8) (Nat.le_refl _) (Nat.le_refl _) ?_
  refine lv_dup hx hb d_L_law_3 rfl ?_
  have hPc := hP.sub (ws' := [(h_X, .inr (1, [.null, .null, .int 0, .int 0, .int 0, .null, .null, .null]))]) [0] rfl
  have hDc := hD.sub (ws' := [(h_X, .inr (1, [.null, .null, .int 0, .int 0, .int 0, .null, .null, .null]))]) [0] (by decide) rfl
  have hKc := hK.sub (tys' := []) [] rfl
  have hFc := va_free (wc := [(h_X, .inr (1, [.null, .null, .int 0, .int 0, .int 0, .null, .null, .null]))]) hD hS hA [0] rfl
  refine va_callv (va_runI (As := []) (rest := [.ref h_X]) ⟨hx, hb, hml, hown, hts⟩ (c_X_init l dC dI h_X H.size) (cwI 0 hts (gw tw_11) rfl rfl rfl (hts _ tw_1) (hts _ tw_9) (hts _ tw_10) rfl (by decide +kernel) ⟨Nat.le_of_ble_eq_true rfl, Nat.le_of_ble_eq_true rfl⟩) ⟨fun a U g mk q => by obtain ⟨q0, q1, qP, qK, qD, qN⟩ := q; exact ⟨q0, q1, qP, va_K.moved (u := U) (U := U.calling g mk a) (Vm.Alike.refl U.vm) qK, qD, va_Nw.same rfl (u := U) (U := U.calling g mk a) rfl qN⟩, fun U hU hW => ⟨rfl, by rw [hU], by rw [hU]; exact hPc, va_K.moved hW.alike hKc, hDc.weaken (fun _ _ _ _ => trivial), va_Nw.warmM hW hNw⟩⟩ rfl rfl hl.1 rfl (lv_room (Nat.le_of_ble_eq_true rfl)) d_L_law_4 ⟨Nat.le_of_ble_eq_true rfl, Nat.le_of_ble_eq_true rfl⟩) hS (fun q _ h => hFc q h) hFc (fun u t H1 locs ht hvm hw hB hz1 hk1 hS => ?_)
  obtain ⟨h_M, h_P, h_E1, h_E2, h_E3, k_M, k_P, hP1, hK1, hD1⟩ := hB
  rw [ht] at hP1
  have hK1 := va_K.moved hvm.symm hK1
  obtain ⟨hP, hD⟩ := va_join (wr := []) (w1 := [cX h_X h_M h_P h_E1 h_E2 h_E3 0 0 0, cL h_M k_M 8 (fun _ => 0), cI h_P k_P 8 (fun _ => 0), cE h_E1 0 0 0 0 0, cE h_E2 0 0 0 0 0, cE h_E3 0 0 0 0 0]) hP hD [0] [] rfl rfl (by decide) (by decide) hk1 hFc hP1 hD1
  generalize H1 = H at hP hS ⊢
  have hP : va_P (dC, dI) classes [cX h_X h_M h_P h_E1 h_E2 h_E3 0 0 0, cL h_M k_M 8 (fun _ => 0), cI h_P k_P 8 (fun _ => 0), cE h_E1 0 0 0 0 0, cE h_E2 0 0 0 0 0, cE h_E3 0 0 0 0 0] H := hP
  have hD : va_D A [cX h_X h_M h_P h_E1 h_E2 h_E3 0 0 0, cL h_M k_M 8 (fun _ => 0), cI h_P k_P 8 (fun _ => 0), cE h_E1 0 0 0 0 0, cE h_E2 0 0 0 0 0, cE h_E3 0 0 0 0 0] := hD
  have hK := (hK.sub (tys' := []) [] rfl).app hK1
  have hK : va_K (dC, dI) classes [(k_M, .long), (k_P, .int)] s := hK
  refine W.widen (k := 6) (n := 39) (Nat.le_refl _) (Nat.le_refl _) ?_
  refine lv_astore_n (lv' := [(1, .ref h_X), (0, .ref b)]) hx hb d_L_law_7 rfl hl (by decide) rfl (fun ls hl => ?_)
  refine va_new (ci := 2) (fs := [.null, .null, .null, .int 0, .int 0, .int 0, .null, .null, .long 0, .int 0, .int 0]) (C := "RoundedNumbersModel") (T := F_Y) (N := 11) hx hb hts in_Y t_Y t_Y_ok hown (hts _ tw_308) (hts _ tw_309) (hts _ tw_3) hK hP hD hS hA rfl (fun j hj => by rcases (show j = 0 ∨ j = 1 ∨ j = 2 ∨ j = 3 ∨ j = 4 ∨ j = 5 ∨ j = 6 ∨ j = 7 ∨ j = 8 ∨ j = 9 ∨ j = 10 by omega) with rfl | rfl | rfl | rfl | rfl | rfl | rfl | rfl | rfl | rfl | rfl <;> rfl) (Nat.le_of_ble_eq_true rfl) (Nat.le_of_ble_eq_true rfl) d_L_law_8 (fun h_Y H hP hD hS => ?_)
  have hP : va_P (dC, dI) classes [cX h_X h_M h_P h_E1 h_E2 h_E3 0 0 0, cL h_M k_M 8 (fun _ => 0), cI h_P k_P 8 (fun _ => 0), cE h_E1 0 0 0 0 0, cE h_E2 0 0 0 0 0, cE h_E3 0 0 0 0 0, (h_Y, .inr (2, [.null, .null, .null, .int 0, .int 0, .int 0, .null, .null, .long 0, .int 0, .int 0]))] H := hP
  have hD : va_D A [cX h_X h_M h_P h_E1 h_E2 h_E3 0 0 0, cL h_M k_M 8 (fun _ => 0), cI h_P k_P 8 (fun _ => 0), cE h_E1 0 0 0 0 0, cE h_E2 0 0 0 0 0, cE h_E3 0 0 0 0 0, (h_Y, .inr (2, [.null, .null, .null, .int 0, .int 0, .int 0, .null, .null, .long 0, .int 0, .int 0]))] := hD
  refine W.widen (k := 7) (n := 50) (Nat.le_refl _) (Nat.le_refl _) ?_
  refine lv_dup hx hb d_L_law_11 rfl ?_
  have hPc := hP.sub (ws' := [(h_Y, .inr (2, [.null, .null, .null, .int 0, .int 0, .int 0, .null, .null, .long 0, .int 0, .int 0]))]) [6] rfl
  have hDc := hD.sub (ws' := [(h_Y, .inr (2, [.null, .null, .null, .int 0, .int 0, .int 0, .null, .null, .long 0, .int 0, .int 0]))]) [6] (by decide) rfl
  have hKc := hK.sub (tys' := []) [] rfl
  have hFc := va_free (wc := [(h_Y, .inr (2, [.null, .null, .null, .int 0, .int 0, .int 0, .null, .null, .long 0, .int 0, .int 0]))]) hD hS hA [6] rfl
  refine va_callv (va_runI (As := []) (rest := [.ref h_Y]) ⟨hx, hb, hml, hown, hts⟩ (c_Y_init l dC dI h_Y H.size) (cwI 0 hts (gw tw_312) rfl rfl rfl (hts _ tw_3) (hts _ tw_310) (hts _ tw_311) rfl (by decide +kernel) ⟨Nat.le_of_ble_eq_true rfl, Nat.le_of_ble_eq_true rfl⟩) ⟨fun a U g mk q => by obtain ⟨q0, q1, qP, qK, qD⟩ := q; exact ⟨q0, q1, qP, va_K.moved (u := U) (U := U.calling g mk a) (Vm.Alike.refl U.vm) qK, qD⟩, fun U hU hW => ⟨rfl, by rw [hU], by rw [hU]; exact hPc, va_K.moved hW.alike hKc, hDc.weaken (fun _ _ _ _ => trivial)⟩⟩ rfl rfl hl.1 rfl (lv_room (Nat.le_of_ble_eq_true rfl)) d_L_law_12 ⟨Nat.le_of_ble_eq_true rfl, Nat.le_of_ble_eq_true rfl⟩) hS (fun q _ h => hFc q h) hFc (fun u t H1 locs ht hvm hw hB hz1 hk1 hS => ?_)
  obtain ⟨h_O, h_N, h_B, h_G, h_K, k_O, k_N, k_B, k_G, k_K, hP1, hK1, hD1⟩ := hB
  rw [ht] at hP1
  have hK1 := va_K.moved hvm.symm hK1
  obtain ⟨hP, hD⟩ := va_join (wr := [cX h_X h_M h_P h_E1 h_E2 h_E3 0 0 0, cL h_M k_M 8 (fun _ => 0), cI h_P k_P 8 (fun _ => 0), cE h_E1 0 0 0 0 0, cE h_E2 0 0 0 0 0, cE h_E3 0 0 0 0 0]) (w1 := [cY h_Y h_O h_N h_B h_G h_K 0 0 0 0 0 0, cL h_O k_O 8 (fun _ => 0), cI h_N k_N 8 (fun _ => 0), cI h_B k_B 8 (fun _ => 0), cI h_G k_G 30 (fun _ => 0), cI h_K k_K 30 (fun _ => 0)]) hP hD [6] [0, 1, 2, 3, 4, 5] rfl rfl (by decide) (by decide) hk1 hFc hP1 hD1
  generalize H1 = H at hP hS ⊢
  have hP : va_P (dC, dI) classes [cX h_X h_M h_P h_E1 h_E2 h_E3 0 0 0, cL h_M k_M 8 (fun _ => 0), cI h_P k_P 8 (fun _ => 0), cE h_E1 0 0 0 0 0, cE h_E2 0 0 0 0 0, cE h_E3 0 0 0 0 0, cY h_Y h_O h_N h_B h_G h_K 0 0 0 0 0 0, cL h_O k_O 8 (fun _ => 0), cI h_N k_N 8 (fun _ => 0), cI h_B k_B 8 (fun _ => 0), cI h_G k_G 30 (fun _ => 0), cI h_K k_K 30 (fun _ => 0)] H := hP
  have hD : va_D A [cX h_X h_M h_P h_E1 h_E2 h_E3 0 0 0, cL h_M k_M 8 (fun _ => 0), cI h_P k_P 8 (fun _ => 0), cE h_E1 0 0 0 0 0, cE h_E2 0 0 0 0 0, cE h_E3 0 0 0 0 0, cY h_Y h_O h_N h_B h_G h_K 0 0 0 0 0 0, cL h_O k_O 8 (fun _ => 0), cI h_N k_N 8 (fun _ => 0), cI h_B k_B 8 (fun _ => 0), cI h_G k_G 30 (fun _ => 0), cI h_K k_K 30 (fun _ => 0)] := hD
  have hK := (hK.sub (tys' := [(k_M, .long), (k_P, .int)]) [0, 1] rfl).app hK1
  have hK : va_K (dC, dI) classes [(k_M, .long), (k_P, .int), (k_O, .long), (k_N, .int), (k_B, .boolean), (k_G, .int), (k_K, .int)] s := hK
  refine W.widen (k := 12) (n := 134) (Nat.le_refl _) (Nat.le_refl _) ?_
  refine lv_astore_n (lv' := [(2, .ref h_Y), (1, .ref h_X), (0, .ref b)]) hx hb d_L_law_15 rfl hl (by decide) rfl (fun ls hl => ?_)
  refine lv_iconst (v := (0 : Int32)) hx hb d_L_law_16 (by decide) ?_
  refine lv_istore_n (lv' := [(3, .int (0 : Int32)), (2, .ref h_Y), (1, .ref h_X), (0, .ref b)]) hx hb d_L_law_17 rfl hl (by decide) rfl (fun ls hl => ?_)
  exact lb_18 C0 hA hA2 hK 1000 0 0 0 0 (fun _ => 0) (fun _ => 0) 0 0 0 0 0 0 0 0 0 0 0 0 0 0 0 0 0 0 0 0 0 (fun _ => 0) (fun _ => 0) (fun _ => 0) (fun _ => 0) (fun _ => 0) _ _ _ hP hD hS (lv_sub hl [3, 2, 1, 0] rfl) (HT L xs hL)
