set_option maxHeartbeats 4000000 in
set_option maxRecDepth 100000 in
theorem c_E_roundTo (l : Launch) (dC : Nat → ClassId) (dI : Nat → Nat → Nat) (h_T : Nat) (sz : Nat) (T_sg : Int32) (T_hi : Int64) (T_lo : Int64) (T_pl : Int32) (T_mo : Int32) (a1 : Int32) (o : Int32 × Int64 × Int64 × Int32 × Int32) (hF : f_E_roundTo T_sg T_hi T_lo T_pl T_mo a1 = some o) : Met l y_E_roundTo w_E_roundTo ({ frames := 3, cells := 0, slots := 0, locals := 63 } : Room) (va_Pc [.ref h_T, .int a1] (fun U => U.heap.size = sz ∧ va_P (dC, dI) classes [cE h_T T_sg T_hi T_lo T_pl T_mo] U.heap ∧ va_K (dC, dI) classes [] U ∧ va_D (fun _ => True) [cE h_T T_sg T_hi T_lo T_pl T_mo])) (va_Qi (fun (r : Int32) (_ : Unit) => r = o.1) (fun (_ : Unit) (t : State) => va_P (dC, dI) classes [cE h_T T_sg o.2.1 o.2.2.1 o.2.2.2.1 o.2.2.2.2] t.heap ∧ va_K (dC, dI) classes [] t ∧ va_D (va_A [cE h_T T_sg T_hi T_lo T_pl T_mo] sz) [cE h_T T_sg o.2.1 o.2.2.1 o.2.2.2.1 o.2.2.2.2]) (va_A [cE h_T T_sg T_hi T_lo T_pl T_mo] sz)) 0 0 (va_A [cE h_T T_sg T_hi T_lo T_pl T_mo] sz) := by
  refine Met.ofW (cc := prog_2_method_9_code) (maxL := 9) (ret := (some .int)) (by decide) rfl ?_
  intro p e s m args below meth c s₁ B hml hv
  obtain ⟨rfl, hsz, hP, hK, hD0⟩ := hv
  have hx := B.exec
  have hb := B.bytes
  have hr := B.returns
  have hts0 := atoms_spec (ws := w_E_roundTo) B.pre
  have hts : ∀ w ∈ tb, w.before _ s = true := fun w h => hts0 w (List.mem_cons_of_mem _ h)
  clear hts0
  have hown : s.vm.findClass "RoundedNumbers$Exact" = some m.cls := findClass_of_methodNamed B.named
  have hlocks := B.notSynchronized
  subst hsz
  have hD := hD0.self (sz := s.heap.size)
  generalize hAe : va_A [cE h_T T_sg T_hi T_lo T_pl T_mo] s.heap.size = A at hD ⊢
  have hA : ∀ q : Nat, s.heap.size ≤ q → A q := fun q h => by rw [← hAe]; exact Or.inr h
  clear hAe
  have hS : va_S A s.heap s.heap [] := va_S.rf
  have hP : va_P (dC, dI) classes [cE h_T T_sg T_hi T_lo T_pl T_mo] s.heap := hP
  have hl := lv_entry ([.ref h_T, .int a1]) (n := 9) (Nat.le_of_ble_eq_true rfl)
  rw [lg_entry_eq]
  generalize (lg_sl ([.ref h_T, .int a1]) ++ List.replicate (9 - (lg_sl ([.ref h_T, .int a1])).length) Slot.unset).toArray = ls at hl ⊢
  have hl : lv_has ls 9 [(0, .ref h_T), (1, .int a1)] := hl
  have b_122 : ∀ (x7 : Int32) (y0 : Int32) (T_sg : Int32) (T_hi : Int64) (T_lo : Int64) (T_pl : Int32) (T_mo : Int32) (H : Heap) (locs : List Loc) (ls : Array Slot), va_P (dC, dI) classes [cE h_T T_sg T_hi T_lo T_pl T_mo] H → va_D A [cE h_T T_sg T_hi T_lo T_pl T_mo] → va_S A s.heap H locs → lv_has ls 9 [(0, .ref h_T), (7, .int x7)] → f_E_roundTo_122  x7 y0 T_sg T_hi T_lo T_pl T_mo = some o → W p l e (headSpec w_E_roundTo ({ frames := 3, cells := 0, slots := 0, locals := 63 } : Room)).room s m ([.ref h_T, .int a1] : List Value).toArray below meth c H locs 0 0 (MQ below (va_Qi (fun (r : Int32) (_ : Unit) => r = o.1) (fun (_ : Unit) (t : State) => va_P (dC, dI) classes [cE h_T T_sg o.2.1 o.2.2.1 o.2.2.2.1 o.2.2.2.2] t.heap ∧ va_K (dC, dI) classes [] t ∧ va_D A [cE h_T T_sg o.2.1 o.2.2.1 o.2.2.2.1 o.2.2.2.2]) A) ([.ref h_T, .int a1] : List Value).toArray s 0 0 A) (F0 m 122 ls [.int y0]) := by
    intro x7 y0 T_sg T_hi T_lo T_pl T_mo H locs ls hP hD hS hl hF
    unfold f_E_roundTo_122 at hF
    refine lv_istore (lv' := [(8, .int y0), (0, .ref h_T), (7, .int x7)]) hx hb d_E_roundTo_122 hl (by decide) rfl (fun ls hl => ?_)
    refine lv_aload_n hx hb d_E_roundTo_124 rfl (lv_at hl 1 rfl) ?_
    refine lv_iconst (v := (0 : Int32)) hx hb d_E_roundTo_125 (by decide) ?_
    refine va_put (D := (dC, dI)) (ci := 0) (v := .int (0 : Int32)) (ty := .boolean) (C := "RoundedNumbers$Exact") (T := F_E) (N := 5) hx hb hts in_E t_E t_E_ok n_E hown hK hP hD hS 0 rfl rfl 4 (by decide) (hts _ tw_29) (fun _ h9 => h9) rfl (by decide +kernel) rfl rfl (Nat.le_of_ble_eq_true rfl) d_E_roundTo_126 (fun H locs hP hD hS => ?_)
    have hP : va_P (dC, dI) classes [cE h_T T_sg T_hi T_lo T_pl (0 : Int32)] H := hP
    have hD : va_D A [cE h_T T_sg T_hi T_lo T_pl (0 : Int32)] := hD
    refine lv_iload hx hb d_E_roundTo_129 (lv_at hl 0 rfl) ?_
    refine lv_if_eq (tgt := 149) hx hb d_E_roundTo_131 (by decide) (fun c_131 => ?_) (fun c_131 => ?_)
    · replace hF := hif_t c_131 hF
      refine lv_iload hx hb d_E_roundTo_149 (lv_at hl 2 rfl) ?_
      refine lv_if_eq (tgt := 158) hx hb d_E_roundTo_151 (by decide) (fun c_151 => ?_) (fun c_151 => ?_)
      · replace hF := hif_t c_151 hF
        refine lv_aload_n hx hb d_E_roundTo_158 rfl (lv_at hl 1 rfl) ?_
        refine va_get (D := (dC, dI)) (ci := 0) (v := .int T_sg) (C := "RoundedNumbers$Exact") (T := F_E) (N := 5) hx hb hts in_E hown hK hP 0 rfl rfl 0 (by decide) (hts _ tw_21) (fun _ h9 => h9) rfl d_E_roundTo_159 ?_
        refine lv_ineg hx hb d_E_roundTo_162 ?_
        obtain rfl := Option.some.inj hF
        exact W.iret (v := (-T_sg)) hx hb hr (fun t ht hW => ⟨⟨(-T_sg), (), rfl, rfl, by rw [ht]; exact hP, va_K.moved hW.alike hK, hD⟩, hS.F ht⟩) hS.2.2 d_E_roundTo_163
      · replace hF := hif_f c_151 hF
        refine lv_iconst (v := (0 : Int32)) hx hb d_E_roundTo_154 (by decide) ?_
        refine lv_goto (tgt := 163) hx hb d_E_roundTo_155 (by decide) ?_
        obtain rfl := Option.some.inj hF
        exact W.iret (v := (0 : Int32)) hx hb hr (fun t ht hW => ⟨⟨(0 : Int32), (), rfl, rfl, by rw [ht]; exact hP, va_K.moved hW.alike hK, hD⟩, hS.F ht⟩) hS.2.2 d_E_roundTo_163
    · replace hF := hif_f c_131 hF
      refine lv_aload_n hx hb d_E_roundTo_134 rfl (lv_at hl 1 rfl) ?_
      refine lv_dup hx hb d_E_roundTo_135 rfl ?_
      refine va_get (D := (dC, dI)) (ci := 0) (v := .long T_lo) (C := "RoundedNumbers$Exact") (T := F_E) (N := 5) hx hb hts in_E hown hK hP 0 rfl rfl 2 (by decide) (hts _ tw_25) (fun _ h9 => h9) rfl d_E_roundTo_136 ?_
      refine lv_lconst (v := (1 : Int64)) hx hb d_E_roundTo_139 (by decide) ?_
      refine lv_ladd hx hb d_E_roundTo_140 ?_
      refine va_put (D := (dC, dI)) (ci := 0) (v := .long (T_lo + (1 : Int64))) (ty := .long) (C := "RoundedNumbers$Exact") (T := F_E) (N := 5) hx hb hts in_E t_E t_E_ok n_E hown hK hP hD hS 0 rfl rfl 2 (by decide) (hts _ tw_25) (fun _ h9 => h9) rfl (by decide +kernel) rfl rfl (Nat.le_of_ble_eq_true rfl) d_E_roundTo_141 (fun H locs hP hD hS => ?_)
      have hP : va_P (dC, dI) classes [cE h_T T_sg T_hi (T_lo + (1 : Int64)) T_pl (0 : Int32)] H := hP
      have hD : va_D A [cE h_T T_sg T_hi (T_lo + (1 : Int64)) T_pl (0 : Int32)] := hD
      refine lv_aload_n hx hb d_E_roundTo_144 rfl (lv_at hl 1 rfl) ?_
      refine va_get (D := (dC, dI)) (ci := 0) (v := .int T_sg) (C := "RoundedNumbers$Exact") (T := F_E) (N := 5) hx hb hts in_E hown hK hP 0 rfl rfl 0 (by decide) (hts _ tw_21) (fun _ h9 => h9) rfl d_E_roundTo_145 ?_
      obtain rfl := Option.some.inj hF
      exact W.iret (v := T_sg) hx hb hr (fun t ht hW => ⟨⟨T_sg, (), rfl, rfl, by rw [ht]; exact hP, va_K.moved hW.alike hK, hD⟩, hS.F ht⟩) hS.2.2 d_E_roundTo_148
  have b_63 : ∀ (x2 : Int32) (x3 : Int64) (x5 : Int64) (y0 : Int32) (T_sg : Int32) (T_hi : Int64) (T_lo : Int64) (T_pl : Int32) (T_mo : Int32) (H : Heap) (locs : List Loc) (ls : Array Slot), va_P (dC, dI) classes [cE h_T T_sg T_hi T_lo T_pl T_mo] H → va_D A [cE h_T T_sg T_hi T_lo T_pl T_mo] → va_S A s.heap H locs → lv_has ls 9 [(0, .ref h_T), (2, .int x2), (3, .long x3), (5, .long x5)] → f_E_roundTo_63  x2 x3 x5 y0 T_sg T_hi T_lo T_pl T_mo = some o → W p l e (headSpec w_E_roundTo ({ frames := 3, cells := 0, slots := 0, locals := 63 } : Room)).room s m ([.ref h_T, .int a1] : List Value).toArray below meth c H locs 0 0 (MQ below (va_Qi (fun (r : Int32) (_ : Unit) => r = o.1) (fun (_ : Unit) (t : State) => va_P (dC, dI) classes [cE h_T T_sg o.2.1 o.2.2.1 o.2.2.2.1 o.2.2.2.2] t.heap ∧ va_K (dC, dI) classes [] t ∧ va_D A [cE h_T T_sg o.2.1 o.2.2.1 o.2.2.2.1 o.2.2.2.2]) A) ([.ref h_T, .int a1] : List Value).toArray s 0 0 A) (F0 m 63 ls [.int y0]) := by
    intro x2 x3 x5 y0 T_sg T_hi T_lo T_pl T_mo H locs ls hP hD hS hl hF
    unfold f_E_roundTo_63 at hF
    refine lv_istore (lv' := [(7, .int y0), (0, .ref h_T), (2, .int x2), (3, .long x3), (5, .long x5)]) hx hb d_E_roundTo_63 hl (by decide) rfl (fun ls hl => ?_)
    refine lv_aload_n hx hb d_E_roundTo_65 rfl (lv_at hl 1 rfl) ?_
    refine lv_dup hx hb d_E_roundTo_66 rfl ?_
    refine va_get (D := (dC, dI)) (ci := 0) (v := .long T_lo) (C := "RoundedNumbers$Exact") (T := F_E) (N := 5) hx hb hts in_E hown hK hP 0 rfl rfl 2 (by decide) (hts _ tw_25) (fun _ h9 => h9) rfl d_E_roundTo_67 ?_
    refine lv_iload_n hx hb d_E_roundTo_70 rfl (lv_at hl 2 rfl) ?_
    refine lv_lushr (v := (jushr T_lo x2)) hx hb d_E_roundTo_71 rfl ?_
    refine va_put (D := (dC, dI)) (ci := 0) (v := .long (jushr T_lo x2)) (ty := .long) (C := "RoundedNumbers$Exact") (T := F_E) (N := 5) hx hb hts in_E t_E t_E_ok n_E hown hK hP hD hS 0 rfl rfl 2 (by decide) (hts _ tw_25) (fun _ h9 => h9) rfl (by decide +kernel) rfl rfl (Nat.le_of_ble_eq_true rfl) d_E_roundTo_72 (fun H locs hP hD hS => ?_)
    have hP : va_P (dC, dI) classes [cE h_T T_sg T_hi (jushr T_lo x2) T_pl T_mo] H := hP
    have hD : va_D A [cE h_T T_sg T_hi (jushr T_lo x2) T_pl T_mo] := hD
    refine lv_aload_n hx hb d_E_roundTo_75 rfl (lv_at hl 1 rfl) ?_
    refine lv_dup hx hb d_E_roundTo_76 rfl ?_
    refine va_get (D := (dC, dI)) (ci := 0) (v := .int T_pl) (C := "RoundedNumbers$Exact") (T := F_E) (N := 5) hx hb hts in_E hown hK hP 0 rfl rfl 3 (by decide) (hts _ tw_27) (fun _ h9 => h9) rfl d_E_roundTo_77 ?_
    refine lv_iload_n hx hb d_E_roundTo_80 rfl (lv_at hl 2 rfl) ?_
    refine lv_iadd hx hb d_E_roundTo_81 ?_
    refine va_put (D := (dC, dI)) (ci := 0) (v := .int (T_pl + x2)) (ty := .int) (C := "RoundedNumbers$Exact") (T := F_E) (N := 5) hx hb hts in_E t_E t_E_ok n_E hown hK hP hD hS 0 rfl rfl 3 (by decide) (hts _ tw_27) (fun _ h9 => h9) rfl (by decide +kernel) rfl rfl (Nat.le_of_ble_eq_true rfl) d_E_roundTo_82 (fun H locs hP hD hS => ?_)
    have hP : va_P (dC, dI) classes [cE h_T T_sg T_hi (jushr T_lo x2) (T_pl + x2) T_mo] H := hP
    have hD : va_D A [cE h_T T_sg T_hi (jushr T_lo x2) (T_pl + x2) T_mo] := hD
    refine lv_lload hx hb d_E_roundTo_85 (lv_at hl 4 rfl) ?_
    refine lv_lload_n hx hb d_E_roundTo_87 rfl (lv_at hl 3 rfl) ?_
    refine W.lcmp hx hb d_E_roundTo_88 ?_
    refine lv_if_gt (tgt := 117) hx hb d_E_roundTo_89 (by decide) (fun c_89 => ?_) (fun c_89 => ?_)
    · replace hF := hif_t c_89 hF
      refine lv_iconst (v := (1 : Int32)) hx hb d_E_roundTo_117 (by decide) ?_
      refine lv_goto (tgt := 122) hx hb d_E_roundTo_118 (by decide) ?_
      exact b_122 y0 (1 : Int32) T_sg T_hi (jushr T_lo x2) (T_pl + x2) T_mo _ _ _ hP hD hS (lv_sub hl [1, 0] rfl) hF
    · replace hF := hif_f c_89 hF
      refine lv_lload hx hb d_E_roundTo_92 (lv_at hl 4 rfl) ?_
      refine lv_lload_n hx hb d_E_roundTo_94 rfl (lv_at hl 3 rfl) ?_
      refine W.lcmp hx hb d_E_roundTo_95 ?_
      refine lv_if_ne (tgt := 121) hx hb d_E_roundTo_96 (by decide) (fun c_96 => ?_) (fun c_96 => ?_)
      · replace hF := hif_f c_96 hF
        refine lv_iconst (v := (0 : Int32)) hx hb d_E_roundTo_121 (by decide) ?_
        exact b_122 y0 (0 : Int32) T_sg T_hi (jushr T_lo x2) (T_pl + x2) T_mo _ _ _ hP hD hS (lv_sub hl [1, 0] rfl) hF
      · replace hF := hif_t c_96 hF
        refine lv_aload_n hx hb d_E_roundTo_99 rfl (lv_at hl 1 rfl) ?_
        refine va_get (D := (dC, dI)) (ci := 0) (v := .int T_mo) (C := "RoundedNumbers$Exact") (T := F_E) (N := 5) hx hb hts in_E hown hK hP 0 rfl rfl 4 (by decide) (hts _ tw_29) (fun _ h9 => h9) rfl d_E_roundTo_100 ?_
        refine lv_if_ne (tgt := 117) hx hb d_E_roundTo_103 (by decide) (fun c_103 => ?_) (fun c_103 => ?_)
        · replace hF := hif_f c_103 hF
          refine lv_iconst (v := (1 : Int32)) hx hb d_E_roundTo_117 (by decide) ?_
          refine lv_goto (tgt := 122) hx hb d_E_roundTo_118 (by decide) ?_
          exact b_122 y0 (1 : Int32) T_sg T_hi (jushr T_lo x2) (T_pl + x2) T_mo _ _ _ hP hD hS (lv_sub hl [1, 0] rfl) hF
        · replace hF := hif_t c_103 hF
          refine lv_aload_n hx hb d_E_roundTo_106 rfl (lv_at hl 1 rfl) ?_
          refine va_get (D := (dC, dI)) (ci := 0) (v := .long (jushr T_lo x2)) (C := "RoundedNumbers$Exact") (T := F_E) (N := 5) hx hb hts in_E hown hK hP 0 rfl rfl 2 (by decide) (hts _ tw_25) (fun _ h9 => h9) rfl d_E_roundTo_107 ?_
          refine lv_lconst (v := (1 : Int64)) hx hb d_E_roundTo_110 (by decide) ?_
          refine lv_land hx hb d_E_roundTo_111 ?_
          refine lv_lconst (v := (1 : Int64)) hx hb d_E_roundTo_112 (by decide) ?_
          refine W.lcmp hx hb d_E_roundTo_113 ?_
          refine lv_if_ne (tgt := 121) hx hb d_E_roundTo_114 (by decide) (fun c_114 => ?_) (fun c_114 => ?_)
          · replace hF := hif_f c_114 hF
            refine lv_iconst (v := (0 : Int32)) hx hb d_E_roundTo_121 (by decide) ?_
            exact b_122 y0 (0 : Int32) T_sg T_hi (jushr T_lo x2) (T_pl + x2) T_mo _ _ _ hP hD hS (lv_sub hl [1, 0] rfl) hF
          · replace hF := hif_t c_114 hF
            refine lv_iconst (v := (1 : Int32)) hx hb d_E_roundTo_117 (by decide) ?_
            refine lv_goto (tgt := 122) hx hb d_E_roundTo_118 (by decide) ?_
            exact b_122 y0 (1 : Int32) T_sg T_hi (jushr T_lo x2) (T_pl + x2) T_mo _ _ _ hP hD hS (lv_sub hl [1, 0] rfl) hF
  unfold f_E_roundTo at hF
  refine lv_aload_n hx hb d_E_roundTo_0 rfl (lv_at hl 0 rfl) ?_
  refine lv_aload_n hx hb d_E_roundTo_1 rfl (lv_at hl 0 rfl) ?_
  obtain ⟨q_2, hC_2, hF⟩ := hbd hF
  have hPc := hP.sub (ws' := [cE h_T T_sg T_hi T_lo T_pl T_mo]) [0] rfl
  have hDc := hD.sub (ws' := [cE h_T T_sg T_hi T_lo T_pl T_mo]) [0] (by decide) rfl
  have hKc := hK.sub (tys' := []) [] rfl
  have hFc := va_free (wc := [cE h_T T_sg T_hi T_lo T_pl T_mo]) hD hS hA [0] rfl
  refine va_calli (va_runV (As := []) (rest := [.ref h_T]) ⟨hx, hb, hml, hown, hts⟩ (c_E_length l dC dI h_T s.heap.size T_sg T_hi T_lo T_pl T_mo q_2 hC_2) (cwV 0 hts g_E_62_E_length rfl rfl rfl (by decide +kernel) ⟨Nat.le_of_ble_eq_true rfl, Nat.le_of_ble_eq_true rfl⟩) ⟨fun a U g mk q => by obtain ⟨q0, q1, qP, qK, qD⟩ := q; exact ⟨q0, q1, qP, va_K.moved (u := U) (U := U.calling g mk a) (Vm.Alike.refl U.vm) qK, qD⟩, va_recv hKc hPc (ci := 0) (q0 := 0) rfl rfl, fun U hU hW => ⟨rfl, by rw [hU], by rw [hU]; exact hPc, va_K.moved hW.alike hKc, hDc.weaken (fun _ _ _ _ => trivial)⟩⟩ rfl rfl hl.1 rfl (lv_room (Nat.le_of_ble_eq_true rfl)) d_E_roundTo_2 ⟨Nat.zero_le _, Nat.zero_le _⟩) hS (fun q _ h => hFc q h) hFc (fun r u t H1 locs ht hvm hw hB hz1 hk1 hS => ?_)
  obtain ⟨hP1, hK1, hD1⟩ := hB
  replace hw := hw.symm
  subst hw
  rw [ht] at hP1
  obtain ⟨hP, hD⟩ := va_join (wr := []) (w1 := [cE h_T T_sg T_hi T_lo T_pl T_mo]) hP hD [0] [] rfl rfl (by decide) (by decide) hk1 hFc hP1 hD1
  generalize H1 = H at hP hS ⊢
  have hP := hP.sub (ws' := [cE h_T T_sg T_hi T_lo T_pl T_mo]) [0] rfl
  have hD := hD.sub (ws' := [cE h_T T_sg T_hi T_lo T_pl T_mo]) [0] (by decide) rfl
  refine lv_bipush (v := (62 : Int32)) hx hb d_E_roundTo_5 (by decide) ?_
  refine lv_isub hx hb d_E_roundTo_7 ?_
  obtain ⟨q_8, hC_8, hF⟩ := hbd hF
  have hPc := hP.sub (ws' := [cE h_T T_sg T_hi T_lo T_pl T_mo]) [0] rfl
  have hDc := hD.sub (ws' := [cE h_T T_sg T_hi T_lo T_pl T_mo]) [0] (by decide) rfl
  have hKc := hK.sub (tys' := []) [] rfl
  have hFc := va_free (wc := [cE h_T T_sg T_hi T_lo T_pl T_mo]) hD hS hA [0] rfl
  refine va_callv (va_runV (As := [.int (q_2 - (62 : Int32))]) (rest := []) ⟨hx, hb, hml, hown, hts⟩ (c_E_shiftDown l dC dI h_T H.size T_sg T_hi T_lo T_pl T_mo (q_2 - (62 : Int32)) q_8 hC_8) (cwV 1 hts g_E_58_E_shiftDown rfl rfl rfl (by decide +kernel) ⟨Nat.le_of_ble_eq_true rfl, Nat.le_of_ble_eq_true rfl⟩) ⟨fun a U g mk q => by obtain ⟨q0, q1, qP, qK, qD⟩ := q; exact ⟨q0, q1, qP, va_K.moved (u := U) (U := U.calling g mk a) (Vm.Alike.refl U.vm) qK, qD⟩, va_recv hKc hPc (ci := 0) (q0 := 0) rfl rfl, fun U hU hW => ⟨rfl, by rw [hU], by rw [hU]; exact hPc, va_K.moved hW.alike hKc, hDc.weaken (fun _ _ _ _ => trivial)⟩⟩ rfl rfl hl.1 rfl (lv_room (Nat.le_of_ble_eq_true rfl)) d_E_roundTo_8 ⟨Nat.zero_le _, Nat.zero_le _⟩) hS (fun q _ h => hFc q h) hFc (fun u t H1 locs ht hvm hw hB hz1 hk1 hS => ?_)
  obtain ⟨hP1, hK1, hD1⟩ := hB
  rw [ht] at hP1
  obtain ⟨hP, hD⟩ := va_join (wr := []) (w1 := [cE h_T T_sg q_8.1 q_8.2.1 q_8.2.2.1 q_8.2.2.2]) hP hD [0] [] rfl rfl (by decide) (by decide) hk1 hFc hP1 hD1
  generalize H1 = H at hP hS ⊢
  have hP := hP.sub (ws' := [cE h_T T_sg q_8.1 q_8.2.1 q_8.2.2.1 q_8.2.2.2]) [0] rfl
  have hD := hD.sub (ws' := [cE h_T T_sg q_8.1 q_8.2.1 q_8.2.2.1 q_8.2.2.2]) [0] (by decide) rfl
  refine lv_aload_n hx hb d_E_roundTo_11 rfl (lv_at hl 0 rfl) ?_
  obtain ⟨q_12, hC_12, hF⟩ := hbd hF
  have hPc := hP.sub (ws' := [cE h_T T_sg q_8.1 q_8.2.1 q_8.2.2.1 q_8.2.2.2]) [0] rfl
  have hDc := hD.sub (ws' := [cE h_T T_sg q_8.1 q_8.2.1 q_8.2.2.1 q_8.2.2.2]) [0] (by decide) rfl
  have hKc := hK.sub (tys' := []) [] rfl
  have hFc := va_free (wc := [cE h_T T_sg q_8.1 q_8.2.1 q_8.2.2.1 q_8.2.2.2]) hD hS hA [0] rfl
  refine va_calli (va_runV (As := []) (rest := []) ⟨hx, hb, hml, hown, hts⟩ (c_E_length l dC dI h_T H.size T_sg q_8.1 q_8.2.1 q_8.2.2.1 q_8.2.2.2 q_12 hC_12) (cwV 0 hts g_E_62_E_length rfl rfl rfl (by decide +kernel) ⟨Nat.le_of_ble_eq_true rfl, Nat.le_of_ble_eq_true rfl⟩) ⟨fun a U g mk q => by obtain ⟨q0, q1, qP, qK, qD⟩ := q; exact ⟨q0, q1, qP, va_K.moved (u := U) (U := U.calling g mk a) (Vm.Alike.refl U.vm) qK, qD⟩, va_recv hKc hPc (ci := 0) (q0 := 0) rfl rfl, fun U hU hW => ⟨rfl, by rw [hU], by rw [hU]; exact hPc, va_K.moved hW.alike hKc, hDc.weaken (fun _ _ _ _ => trivial)⟩⟩ rfl rfl hl.1 rfl (lv_room (Nat.le_of_ble_eq_true rfl)) d_E_roundTo_12 ⟨Nat.zero_le _, Nat.zero_le _⟩) hS (fun q _ h => hFc q h) hFc (fun r u t H1 locs ht hvm hw hB hz1 hk1 hS => ?_)
  obtain ⟨hP1, hK1, hD1⟩ := hB
  replace hw := hw.symm
  subst hw
  rw [ht] at hP1
  obtain ⟨hP, hD⟩ := va_join (wr := []) (w1 := [cE h_T T_sg q_8.1 q_8.2.1 q_8.2.2.1 q_8.2.2.2]) hP hD [0] [] rfl rfl (by decide) (by decide) hk1 hFc hP1 hD1
  generalize H1 = H at hP hS ⊢
  have hP := hP.sub (ws' := [cE h_T T_sg q_8.1 q_8.2.1 q_8.2.2.1 q_8.2.2.2]) [0] rfl
  have hD := hD.sub (ws' := [cE h_T T_sg q_8.1 q_8.2.1 q_8.2.2.1 q_8.2.2.2]) [0] (by decide) rfl
  refine lv_iload_n hx hb d_E_roundTo_15 rfl (lv_at hl 1 rfl) ?_
  refine lv_isub hx hb d_E_roundTo_16 ?_
  refine lv_istore_n (lv' := [(2, .int (q_12 - a1)), (0, .ref h_T), (1, .int a1)]) hx hb d_E_roundTo_17 rfl hl (by decide) rfl (fun ls hl => ?_)
  refine lv_iload_n hx hb d_E_roundTo_18 rfl (lv_at hl 0 rfl) ?_
  refine lv_if_gt (tgt := 24) hx hb d_E_roundTo_19 (by decide) (fun c_19 => ?_) (fun c_19 => ?_)
  · replace hF := hif_t c_19 hF
    refine lv_lconst (v := (1 : Int64)) hx hb d_E_roundTo_24 (by decide) ?_
    refine lv_iload_n hx hb d_E_roundTo_25 rfl (lv_at hl 0 rfl) ?_
    refine lv_iconst (v := (1 : Int32)) hx hb d_E_roundTo_26 (by decide) ?_
    refine lv_isub hx hb d_E_roundTo_27 ?_
    refine lv_lshl (v := (jshl (1 : Int64) ((q_12 - a1) - (1 : Int32)))) hx hb d_E_roundTo_28 rfl ?_
    refine lv_lstore_n (lv' := [(3, .long (jshl (1 : Int64) ((q_12 - a1) - (1 : Int32)))), (2, .int (q_12 - a1)), (0, .ref h_T), (1, .int a1)]) hx hb d_E_roundTo_29 rfl hl (by decide) rfl (fun ls hl => ?_)
    refine lv_aload_n hx hb d_E_roundTo_30 rfl (lv_at hl 2 rfl) ?_
    refine va_get (D := (dC, dI)) (ci := 0) (v := .long q_8.2.1) (C := "RoundedNumbers$Exact") (T := F_E) (N := 5) hx hb hts in_E hown hK hP 0 rfl rfl 2 (by decide) (hts _ tw_25) (fun _ h9 => h9) rfl d_E_roundTo_31 ?_
    refine lv_ldc2 (v := (2 : Int64)) hx hb hown (hts _ tw_165) d_E_roundTo_34 ?_
    refine lv_lload_n hx hb d_E_roundTo_37 rfl (lv_at hl 0 rfl) ?_
    refine lv_lmul hx hb d_E_roundTo_38 ?_
    refine lv_lconst (v := (1 : Int64)) hx hb d_E_roundTo_39 (by decide) ?_
    refine lv_lsub hx hb d_E_roundTo_40 ?_
    refine lv_land hx hb d_E_roundTo_41 ?_
    refine lv_lstore (lv' := [(5, .long (q_8.2.1 &&& (((2 : Int64) * (jshl (1 : Int64) ((q_12 - a1) - (1 : Int32)))) - (1 : Int64)))), (3, .long (jshl (1 : Int64) ((q_12 - a1) - (1 : Int32)))), (2, .int (q_12 - a1)), (0, .ref h_T), (1, .int a1)]) hx hb d_E_roundTo_42 hl (by decide) rfl (fun ls hl => ?_)
    refine lv_lload hx hb d_E_roundTo_44 (lv_at hl 0 rfl) ?_
    refine lv_lconst (v := (0 : Int64)) hx hb d_E_roundTo_46 (by decide) ?_
    refine W.lcmp hx hb d_E_roundTo_47 ?_
    refine lv_if_ne (tgt := 62) hx hb d_E_roundTo_48 (by decide) (fun c_48 => ?_) (fun c_48 => ?_)
    · replace hF := hif_f c_48 hF
      refine lv_iconst (v := (0 : Int32)) hx hb d_E_roundTo_62 (by decide) ?_
      exact b_63 (q_12 - a1) (jshl (1 : Int64) ((q_12 - a1) - (1 : Int32))) (q_8.2.1 &&& (((2 : Int64) * (jshl (1 : Int64) ((q_12 - a1) - (1 : Int32)))) - (1 : Int64))) (0 : Int32) T_sg q_8.1 q_8.2.1 q_8.2.2.1 q_8.2.2.2 _ _ _ hP hD hS (lv_sub hl [3, 2, 1, 0] rfl) hF
    · replace hF := hif_t c_48 hF
      refine lv_aload_n hx hb d_E_roundTo_51 rfl (lv_at hl 3 rfl) ?_
      refine va_get (D := (dC, dI)) (ci := 0) (v := .int q_8.2.2.2) (C := "RoundedNumbers$Exact") (T := F_E) (N := 5) hx hb hts in_E hown hK hP 0 rfl rfl 4 (by decide) (hts _ tw_29) (fun _ h9 => h9) rfl d_E_roundTo_52 ?_
      refine lv_if_ne (tgt := 62) hx hb d_E_roundTo_55 (by decide) (fun c_55 => ?_) (fun c_55 => ?_)
      · replace hF := hif_f c_55 hF
        refine lv_iconst (v := (0 : Int32)) hx hb d_E_roundTo_62 (by decide) ?_
        exact b_63 (q_12 - a1) (jshl (1 : Int64) ((q_12 - a1) - (1 : Int32))) (q_8.2.1 &&& (((2 : Int64) * (jshl (1 : Int64) ((q_12 - a1) - (1 : Int32)))) - (1 : Int64))) (0 : Int32) T_sg q_8.1 q_8.2.1 q_8.2.2.1 q_8.2.2.2 _ _ _ hP hD hS (lv_sub hl [3, 2, 1, 0] rfl) hF
      · replace hF := hif_t c_55 hF
        refine lv_iconst (v := (1 : Int32)) hx hb d_E_roundTo_58 (by decide) ?_
        refine lv_goto (tgt := 63) hx hb d_E_roundTo_59 (by decide) ?_
        exact b_63 (q_12 - a1) (jshl (1 : Int64) ((q_12 - a1) - (1 : Int32))) (q_8.2.1 &&& (((2 : Int64) * (jshl (1 : Int64) ((q_12 - a1) - (1 : Int32)))) - (1 : Int64))) (1 : Int32) T_sg q_8.1 q_8.2.1 q_8.2.2.1 q_8.2.2.2 _ _ _ hP hD hS (lv_sub hl [3, 2, 1, 0] rfl) hF
  · replace hF := hif_f c_19 hF
    refine lv_iconst (v := (0 : Int32)) hx hb d_E_roundTo_22 (by decide) ?_
    obtain rfl := Option.some.inj hF
    exact W.iret (v := (0 : Int32)) hx hb hr (fun t ht hW => ⟨⟨(0 : Int32), (), rfl, rfl, by rw [ht]; exact hP, va_K.moved hW.alike hK, hD⟩, hS.F ht⟩) hS.2.2 d_E_roundTo_23
set_option maxHeartbeats 4000000 in
set_option maxRecDepth 100000 in
theorem c_E_sizeOrder (l : Launch) (dC : Nat → ClassId) (dI : Nat → Nat → Nat) (h_T : Nat) (h_U : Nat) (sz : Nat) (T_sg : Int32) (T_hi : Int64) (T_lo : Int64) (T_pl : Int32) (T_mo : Int32) (U_sg : Int32) (U_hi : Int64) (U_lo : Int64) (U_pl : Int32) (U_mo : Int32) (o : Int32 × Int64 × Int64 × Int32 × Int32 × Int64 × Int64 × Int32 × Int32) (hF : f_E_sizeOrder T_hi T_lo T_pl T_mo U_hi U_lo U_pl U_mo = some o) : Met l y_E_sizeOrder w_E_sizeOrder ({ frames := 4, cells := 0, slots := 0, locals := 84 } : Room) (va_Pc [.ref h_T, .ref h_U] (fun U => U.heap.size = sz ∧ va_P (dC, dI) classes [cE h_T T_sg T_hi T_lo T_pl T_mo, cE h_U U_sg U_hi U_lo U_pl U_mo] U.heap ∧ va_K (dC, dI) classes [] U ∧ va_D (fun _ => True) [cE h_T T_sg T_hi T_lo T_pl T_mo, cE h_U U_sg U_hi U_lo U_pl U_mo])) (va_Qi (fun (r : Int32) (_ : Unit) => r = o.1) (fun (_ : Unit) (t : State) => va_P (dC, dI) classes [cE h_T T_sg o.2.1 o.2.2.1 o.2.2.2.1 o.2.2.2.2.1, cE h_U U_sg o.2.2.2.2.2.1 o.2.2.2.2.2.2.1 o.2.2.2.2.2.2.2.1 o.2.2.2.2.2.2.2.2] t.heap ∧ va_K (dC, dI) classes [] t ∧ va_D (va_A [cE h_T T_sg T_hi T_lo T_pl T_mo, cE h_U U_sg U_hi U_lo U_pl U_mo] sz) [cE h_T T_sg o.2.1 o.2.2.1 o.2.2.2.1 o.2.2.2.2.1, cE h_U U_sg o.2.2.2.2.2.1 o.2.2.2.2.2.2.1 o.2.2.2.2.2.2.2.1 o.2.2.2.2.2.2.2.2]) (va_A [cE h_T T_sg T_hi T_lo T_pl T_mo, cE h_U U_sg U_hi U_lo U_pl U_mo] sz)) 0 0 (va_A [cE h_T T_sg T_hi T_lo T_pl T_mo, cE h_U U_sg U_hi U_lo U_pl U_mo] sz) := by
  refine Met.ofW (cc := prog_2_method_7_code) (maxL := 2) (ret := (some .int)) (by decide) rfl ?_
  intro p e s m args below meth c s₁ B hml hv
  obtain ⟨rfl, hsz, hP, hK, hD0⟩ := hv
  have hx := B.exec
  have hb := B.bytes
  have hr := B.returns
  have hts0 := atoms_spec (ws := w_E_sizeOrder) B.pre
  have hts : ∀ w ∈ tb, w.before _ s = true := fun w h => hts0 w (List.mem_cons_of_mem _ h)
  clear hts0
  have hown : s.vm.findClass "RoundedNumbers$Exact" = some m.cls := findClass_of_methodNamed B.named
  have hlocks := B.notSynchronized
  subst hsz
  have hD := hD0.self (sz := s.heap.size)
  generalize hAe : va_A [cE h_T T_sg T_hi T_lo T_pl T_mo, cE h_U U_sg U_hi U_lo U_pl U_mo] s.heap.size = A at hD ⊢
  have hA : ∀ q : Nat, s.heap.size ≤ q → A q := fun q h => by rw [← hAe]; exact Or.inr h
  clear hAe
  have hS : va_S A s.heap s.heap [] := va_S.rf
  have hP : va_P (dC, dI) classes [cE h_T T_sg T_hi T_lo T_pl T_mo, cE h_U U_sg U_hi U_lo U_pl U_mo] s.heap := hP
  have hl := lv_entry ([.ref h_T, .ref h_U]) (n := 2) (Nat.le_of_ble_eq_true rfl)
  rw [lg_entry_eq]
  generalize (lg_sl ([.ref h_T, .ref h_U]) ++ List.replicate (2 - (lg_sl ([.ref h_T, .ref h_U])).length) Slot.unset).toArray = ls at hl ⊢
  have hl : lv_has ls 2 [(0, .ref h_T), (1, .ref h_U)] := hl
  unfold f_E_sizeOrder at hF
  refine lv_aload_n hx hb d_E_sizeOrder_0 rfl (lv_at hl 0 rfl) ?_
  obtain ⟨q_1, hC_1, hF⟩ := hbd hF
  have hPc := hP.sub (ws' := [cE h_T T_sg T_hi T_lo T_pl T_mo]) [0] rfl
  have hDc := hD.sub (ws' := [cE h_T T_sg T_hi T_lo T_pl T_mo]) [0] (by decide) rfl
  have hKc := hK.sub (tys' := []) [] rfl
  have hFc := va_free (wc := [cE h_T T_sg T_hi T_lo T_pl T_mo]) hD hS hA [0] rfl
  refine va_callv (va_runV (As := []) (rest := []) ⟨hx, hb, hml, hown, hts⟩ (c_E_lift l dC dI h_T s.heap.size T_sg T_hi T_lo T_pl T_mo q_1 hC_1) (cwV 0 hts g_E_51_E_lift rfl rfl rfl (by decide +kernel) ⟨Nat.le_of_ble_eq_true rfl, Nat.le_of_ble_eq_true rfl⟩) ⟨fun a U g mk q => by obtain ⟨q0, q1, qP, qK, qD⟩ := q; exact ⟨q0, q1, qP, va_K.moved (u := U) (U := U.calling g mk a) (Vm.Alike.refl U.vm) qK, qD⟩, va_recv hKc hPc (ci := 0) (q0 := 0) rfl rfl, fun U hU hW => ⟨rfl, by rw [hU], by rw [hU]; exact hPc, va_K.moved hW.alike hKc, hDc.weaken (fun _ _ _ _ => trivial)⟩⟩ rfl rfl hl.1 rfl (lv_room (Nat.le_of_ble_eq_true rfl)) d_E_sizeOrder_1 ⟨Nat.zero_le _, Nat.zero_le _⟩) hS (fun q _ h => hFc q h) hFc (fun u t H1 locs ht hvm hw hB hz1 hk1 hS => ?_)
  obtain ⟨hP1, hK1, hD1⟩ := hB
  rw [ht] at hP1
  obtain ⟨hP, hD⟩ := va_join (wr := [cE h_U U_sg U_hi U_lo U_pl U_mo]) (w1 := [cE h_T T_sg q_1.1 q_1.2.1 q_1.2.2.1 q_1.2.2.2]) hP hD [0] [1] rfl rfl (by decide) (by decide) hk1 hFc hP1 hD1
  generalize H1 = H at hP hS ⊢
  have hP := hP.sub (ws' := [cE h_T T_sg q_1.1 q_1.2.1 q_1.2.2.1 q_1.2.2.2, cE h_U U_sg U_hi U_lo U_pl U_mo]) [1, 0] rfl
  have hD := hD.sub (ws' := [cE h_T T_sg q_1.1 q_1.2.1 q_1.2.2.1 q_1.2.2.2, cE h_U U_sg U_hi U_lo U_pl U_mo]) [1, 0] (by decide) rfl
  refine lv_aload_n hx hb d_E_sizeOrder_4 rfl (lv_at hl 1 rfl) ?_
  obtain ⟨q_5, hC_5, hF⟩ := hbd hF
  have hPc := hP.sub (ws' := [cE h_U U_sg U_hi U_lo U_pl U_mo]) [1] rfl
  have hDc := hD.sub (ws' := [cE h_U U_sg U_hi U_lo U_pl U_mo]) [1] (by decide) rfl
  have hKc := hK.sub (tys' := []) [] rfl
  have hFc := va_free (wc := [cE h_U U_sg U_hi U_lo U_pl U_mo]) hD hS hA [1] rfl
  refine va_callv (va_runV (As := []) (rest := []) ⟨hx, hb, hml, hown, hts⟩ (c_E_lift l dC dI h_U H.size U_sg U_hi U_lo U_pl U_mo q_5 hC_5) (cwV 0 hts g_E_51_E_lift rfl rfl rfl (by decide +kernel) ⟨Nat.le_of_ble_eq_true rfl, Nat.le_of_ble_eq_true rfl⟩) ⟨fun a U g mk q => by obtain ⟨q0, q1, qP, qK, qD⟩ := q; exact ⟨q0, q1, qP, va_K.moved (u := U) (U := U.calling g mk a) (Vm.Alike.refl U.vm) qK, qD⟩, va_recv hKc hPc (ci := 0) (q0 := 0) rfl rfl, fun U hU hW => ⟨rfl, by rw [hU], by rw [hU]; exact hPc, va_K.moved hW.alike hKc, hDc.weaken (fun _ _ _ _ => trivial)⟩⟩ rfl rfl hl.1 rfl (lv_room (Nat.le_of_ble_eq_true rfl)) d_E_sizeOrder_5 ⟨Nat.zero_le _, Nat.zero_le _⟩) hS (fun q _ h => hFc q h) hFc (fun u t H1 locs ht hvm hw hB hz1 hk1 hS => ?_)
  obtain ⟨hP1, hK1, hD1⟩ := hB
  rw [ht] at hP1
  obtain ⟨hP, hD⟩ := va_join (wr := [cE h_T T_sg q_1.1 q_1.2.1 q_1.2.2.1 q_1.2.2.2]) (w1 := [cE h_U U_sg q_5.1 q_5.2.1 q_5.2.2.1 q_5.2.2.2]) hP hD [1] [0] rfl rfl (by decide) (by decide) hk1 hFc hP1 hD1
  generalize H1 = H at hP hS ⊢
  have hP := hP.sub (ws' := [cE h_T T_sg q_1.1 q_1.2.1 q_1.2.2.1 q_1.2.2.2, cE h_U U_sg q_5.1 q_5.2.1 q_5.2.2.1 q_5.2.2.2]) [0, 1] rfl
  have hD := hD.sub (ws' := [cE h_T T_sg q_1.1 q_1.2.1 q_1.2.2.1 q_1.2.2.2, cE h_U U_sg q_5.1 q_5.2.1 q_5.2.2.1 q_5.2.2.2]) [0, 1] (by decide) rfl
  refine lv_aload_n hx hb d_E_sizeOrder_8 rfl (lv_at hl 0 rfl) ?_
  refine va_get (D := (dC, dI)) (ci := 0) (v := .int q_1.2.2.1) (C := "RoundedNumbers$Exact") (T := F_E) (N := 5) hx hb hts in_E hown hK hP 0 rfl rfl 3 (by decide) (hts _ tw_27) (fun _ h9 => h9) rfl d_E_sizeOrder_9 ?_
  refine lv_aload_n hx hb d_E_sizeOrder_12 rfl (lv_at hl 1 rfl) ?_
  refine va_get (D := (dC, dI)) (ci := 0) (v := .int q_5.2.2.1) (C := "RoundedNumbers$Exact") (T := F_E) (N := 5) hx hb hts in_E hown hK hP 1 rfl rfl 3 (by decide) (hts _ tw_27) (fun _ h9 => h9) rfl d_E_sizeOrder_13 ?_
  refine lv_icmp_eq (tgt := 36) hx hb d_E_sizeOrder_16 (by decide) (fun c_16 => ?_) (fun c_16 => ?_)
  · replace hF := hif_t c_16 hF
    refine lv_aload_n hx hb d_E_sizeOrder_36 rfl (lv_at hl 0 rfl) ?_
    refine va_get (D := (dC, dI)) (ci := 0) (v := .long q_1.1) (C := "RoundedNumbers$Exact") (T := F_E) (N := 5) hx hb hts in_E hown hK hP 0 rfl rfl 1 (by decide) (hts _ tw_23) (fun _ h9 => h9) rfl d_E_sizeOrder_37 ?_
    refine lv_aload_n hx hb d_E_sizeOrder_40 rfl (lv_at hl 1 rfl) ?_
    refine va_get (D := (dC, dI)) (ci := 0) (v := .long q_5.1) (C := "RoundedNumbers$Exact") (T := F_E) (N := 5) hx hb hts in_E hown hK hP 1 rfl rfl 1 (by decide) (hts _ tw_23) (fun _ h9 => h9) rfl d_E_sizeOrder_41 ?_
    refine W.lcmp hx hb d_E_sizeOrder_44 ?_
    refine lv_if_eq (tgt := 66) hx hb d_E_sizeOrder_45 (by decide) (fun c_45 => ?_) (fun c_45 => ?_)
    · replace hF := hif_t c_45 hF
      refine lv_aload_n hx hb d_E_sizeOrder_66 rfl (lv_at hl 0 rfl) ?_
      refine va_get (D := (dC, dI)) (ci := 0) (v := .long q_1.2.1) (C := "RoundedNumbers$Exact") (T := F_E) (N := 5) hx hb hts in_E hown hK hP 0 rfl rfl 2 (by decide) (hts _ tw_25) (fun _ h9 => h9) rfl d_E_sizeOrder_67 ?_
      refine lv_aload_n hx hb d_E_sizeOrder_70 rfl (lv_at hl 1 rfl) ?_
      refine va_get (D := (dC, dI)) (ci := 0) (v := .long q_5.2.1) (C := "RoundedNumbers$Exact") (T := F_E) (N := 5) hx hb hts in_E hown hK hP 1 rfl rfl 2 (by decide) (hts _ tw_25) (fun _ h9 => h9) rfl d_E_sizeOrder_71 ?_
      refine W.lcmp hx hb d_E_sizeOrder_74 ?_
      refine lv_if_eq (tgt := 98) hx hb d_E_sizeOrder_75 (by decide) (fun c_75 => ?_) (fun c_75 => ?_)
      · replace hF := hif_t c_75 hF
        refine lv_aload_n hx hb d_E_sizeOrder_98 rfl (lv_at hl 0 rfl) ?_
        refine va_get (D := (dC, dI)) (ci := 0) (v := .int q_1.2.2.2) (C := "RoundedNumbers$Exact") (T := F_E) (N := 5) hx hb hts in_E hown hK hP 0 rfl rfl 4 (by decide) (hts _ tw_29) (fun _ h9 => h9) rfl d_E_sizeOrder_99 ?_
        refine lv_aload_n hx hb d_E_sizeOrder_102 rfl (lv_at hl 1 rfl) ?_
        refine va_get (D := (dC, dI)) (ci := 0) (v := .int q_5.2.2.2) (C := "RoundedNumbers$Exact") (T := F_E) (N := 5) hx hb hts in_E hown hK hP 1 rfl rfl 4 (by decide) (hts _ tw_29) (fun _ h9 => h9) rfl d_E_sizeOrder_103 ?_
        refine lv_icmp_ne (tgt := 113) hx hb d_E_sizeOrder_106 (by decide) (fun c_106 => ?_) (fun c_106 => ?_)
        · replace hF := hif_f c_106 hF
          refine lv_aload_n hx hb d_E_sizeOrder_113 rfl (lv_at hl 0 rfl) ?_
          refine va_get (D := (dC, dI)) (ci := 0) (v := .int q_1.2.2.2) (C := "RoundedNumbers$Exact") (T := F_E) (N := 5) hx hb hts in_E hown hK hP 0 rfl rfl 4 (by decide) (hts _ tw_29) (fun _ h9 => h9) rfl d_E_sizeOrder_114 ?_
          refine lv_if_eq (tgt := 124) hx hb d_E_sizeOrder_117 (by decide) (fun c_117 => ?_) (fun c_117 => ?_)
          · replace hF := hif_t c_117 hF
            refine lv_iconst (v := (-1 : Int32)) hx hb d_E_sizeOrder_124 (by decide) ?_
            obtain rfl := Option.some.inj hF
            exact W.iret (v := (-1 : Int32)) hx hb hr (fun t ht hW => ⟨⟨(-1 : Int32), (), rfl, rfl, by rw [ht]; exact hP, va_K.moved hW.alike hK, hD⟩, hS.F ht⟩) hS.2.2 d_E_sizeOrder_125
          · replace hF := hif_f c_117 hF
            refine lv_iconst (v := (1 : Int32)) hx hb d_E_sizeOrder_120 (by decide) ?_
            refine lv_goto (tgt := 125) hx hb d_E_sizeOrder_121 (by decide) ?_
            obtain rfl := Option.some.inj hF
            exact W.iret (v := (1 : Int32)) hx hb hr (fun t ht hW => ⟨⟨(1 : Int32), (), rfl, rfl, by rw [ht]; exact hP, va_K.moved hW.alike hK, hD⟩, hS.F ht⟩) hS.2.2 d_E_sizeOrder_125
        · replace hF := hif_t c_106 hF
          refine lv_iconst (v := (0 : Int32)) hx hb d_E_sizeOrder_109 (by decide) ?_
          refine lv_goto (tgt := 125) hx hb d_E_sizeOrder_110 (by decide) ?_
          obtain rfl := Option.some.inj hF
          exact W.iret (v := (0 : Int32)) hx hb hr (fun t ht hW => ⟨⟨(0 : Int32), (), rfl, rfl, by rw [ht]; exact hP, va_K.moved hW.alike hK, hD⟩, hS.F ht⟩) hS.2.2 d_E_sizeOrder_125
      · replace hF := hif_f c_75 hF
        refine lv_aload_n hx hb d_E_sizeOrder_78 rfl (lv_at hl 0 rfl) ?_
        refine va_get (D := (dC, dI)) (ci := 0) (v := .long q_1.2.1) (C := "RoundedNumbers$Exact") (T := F_E) (N := 5) hx hb hts in_E hown hK hP 0 rfl rfl 2 (by decide) (hts _ tw_25) (fun _ h9 => h9) rfl d_E_sizeOrder_79 ?_
        refine lv_aload_n hx hb d_E_sizeOrder_82 rfl (lv_at hl 1 rfl) ?_
        refine va_get (D := (dC, dI)) (ci := 0) (v := .long q_5.2.1) (C := "RoundedNumbers$Exact") (T := F_E) (N := 5) hx hb hts in_E hown hK hP 1 rfl rfl 2 (by decide) (hts _ tw_25) (fun _ h9 => h9) rfl d_E_sizeOrder_83 ?_
        obtain ⟨q_86, hC_86, hF⟩ := hbd hF
        have hPc := hP.sub (ws' := []) [] rfl
        have hDc := hD.sub (ws' := []) [] (by decide) rfl
        have hKc := hK.sub (tys' := []) [] rfl
        have hFc := va_free (wc := []) hD hS hA [] rfl
        refine va_calli (va_runS (As := [.long q_1.2.1, .long q_5.2.1]) (rest := []) ⟨hx, hb, hml, hown, hts⟩ (c_J_compareUnsigned l dC dI H.size q_1.2.1 q_5.2.1 q_86 hC_86) (va_cwS 2 hts g_E_54_JL_compareUnsigned rfl rfl rfl (by decide +kernel) ⟨Nat.le_of_ble_eq_true rfl, Nat.le_of_ble_eq_true rfl⟩) ⟨fun a U g mk q => by obtain ⟨q0, q1, qP, qK, qD⟩ := q; exact ⟨q0, q1, qP, va_K.moved (u := U) (U := U.calling g mk a) (Vm.Alike.refl U.vm) qK, qD⟩, fun U hU hW => ⟨rfl, by rw [hU], by rw [hU]; exact hPc, va_K.moved hW.alike hKc, hDc.weaken (fun _ _ _ _ => trivial)⟩⟩ rfl rfl hl.1 rfl (lv_room (Nat.le_of_ble_eq_true rfl)) d_E_sizeOrder_86 ⟨Nat.zero_le _, Nat.zero_le _⟩) hS (fun q _ h => hFc q h) hFc (fun r u t H1 locs ht hvm hw hB hz1 hk1 hS => ?_)
        obtain ⟨hP1, hK1, hD1⟩ := hB
        replace hw := hw.symm
        subst hw
        rw [ht] at hP1
        obtain ⟨hP, hD⟩ := va_join (wr := [cE h_T T_sg q_1.1 q_1.2.1 q_1.2.2.1 q_1.2.2.2, cE h_U U_sg q_5.1 q_5.2.1 q_5.2.2.1 q_5.2.2.2]) (w1 := []) hP hD [] [0, 1] rfl rfl (by decide) (by decide) hk1 hFc hP1 hD1
        generalize H1 = H at hP hS ⊢
        have hP := hP.sub (ws' := [cE h_T T_sg q_1.1 q_1.2.1 q_1.2.2.1 q_1.2.2.2, cE h_U U_sg q_5.1 q_5.2.1 q_5.2.2.1 q_5.2.2.2]) [0, 1] rfl
        have hD := hD.sub (ws' := [cE h_T T_sg q_1.1 q_1.2.1 q_1.2.2.1 q_1.2.2.2, cE h_U U_sg q_5.1 q_5.2.1 q_5.2.2.1 q_5.2.2.2]) [0, 1] (by decide) rfl
        refine lv_if_ge (tgt := 96) hx hb d_E_sizeOrder_89 (by decide) (fun c_89 => ?_) (fun c_89 => ?_)
        · replace hF := hif_t c_89 hF
          refine lv_iconst (v := (1 : Int32)) hx hb d_E_sizeOrder_96 (by decide) ?_
          obtain rfl := Option.some.inj hF
          exact W.iret (v := (1 : Int32)) hx hb hr (fun t ht hW => ⟨⟨(1 : Int32), (), rfl, rfl, by rw [ht]; exact hP, va_K.moved hW.alike hK, hD⟩, hS.F ht⟩) hS.2.2 d_E_sizeOrder_97
        · replace hF := hif_f c_89 hF
          refine lv_iconst (v := (-1 : Int32)) hx hb d_E_sizeOrder_92 (by decide) ?_
          refine lv_goto (tgt := 97) hx hb d_E_sizeOrder_93 (by decide) ?_
          obtain rfl := Option.some.inj hF
          exact W.iret (v := (-1 : Int32)) hx hb hr (fun t ht hW => ⟨⟨(-1 : Int32), (), rfl, rfl, by rw [ht]; exact hP, va_K.moved hW.alike hK, hD⟩, hS.F ht⟩) hS.2.2 d_E_sizeOrder_97
    · replace hF := hif_f c_45 hF
      refine lv_aload_n hx hb d_E_sizeOrder_48 rfl (lv_at hl 0 rfl) ?_
      refine va_get (D := (dC, dI)) (ci := 0) (v := .long q_1.1) (C := "RoundedNumbers$Exact") (T := F_E) (N := 5) hx hb hts in_E hown hK hP 0 rfl rfl 1 (by decide) (hts _ tw_23) (fun _ h9 => h9) rfl d_E_sizeOrder_49 ?_
      refine lv_aload_n hx hb d_E_sizeOrder_52 rfl (lv_at hl 1 rfl) ?_
      refine va_get (D := (dC, dI)) (ci := 0) (v := .long q_5.1) (C := "RoundedNumbers$Exact") (T := F_E) (N := 5) hx hb hts in_E hown hK hP 1 rfl rfl 1 (by decide) (hts _ tw_23) (fun _ h9 => h9) rfl d_E_sizeOrder_53 ?_
      refine W.lcmp hx hb d_E_sizeOrder_56 ?_
      refine lv_if_ge (tgt := 64) hx hb d_E_sizeOrder_57 (by decide) (fun c_57 => ?_) (fun c_57 => ?_)
      · replace hF := hif_t c_57 hF
        refine lv_iconst (v := (1 : Int32)) hx hb d_E_sizeOrder_64 (by decide) ?_
        obtain rfl := Option.some.inj hF
        exact W.iret (v := (1 : Int32)) hx hb hr (fun t ht hW => ⟨⟨(1 : Int32), (), rfl, rfl, by rw [ht]; exact hP, va_K.moved hW.alike hK, hD⟩, hS.F ht⟩) hS.2.2 d_E_sizeOrder_65
      · replace hF := hif_f c_57 hF
        refine lv_iconst (v := (-1 : Int32)) hx hb d_E_sizeOrder_60 (by decide) ?_
        refine lv_goto (tgt := 65) hx hb d_E_sizeOrder_61 (by decide) ?_
        obtain rfl := Option.some.inj hF
        exact W.iret (v := (-1 : Int32)) hx hb hr (fun t ht hW => ⟨⟨(-1 : Int32), (), rfl, rfl, by rw [ht]; exact hP, va_K.moved hW.alike hK, hD⟩, hS.F ht⟩) hS.2.2 d_E_sizeOrder_65
  · replace hF := hif_f c_16 hF
    refine lv_aload_n hx hb d_E_sizeOrder_19 rfl (lv_at hl 0 rfl) ?_
    refine va_get (D := (dC, dI)) (ci := 0) (v := .int q_1.2.2.1) (C := "RoundedNumbers$Exact") (T := F_E) (N := 5) hx hb hts in_E hown hK hP 0 rfl rfl 3 (by decide) (hts _ tw_27) (fun _ h9 => h9) rfl d_E_sizeOrder_20 ?_
    refine lv_aload_n hx hb d_E_sizeOrder_23 rfl (lv_at hl 1 rfl) ?_
    refine va_get (D := (dC, dI)) (ci := 0) (v := .int q_5.2.2.1) (C := "RoundedNumbers$Exact") (T := F_E) (N := 5) hx hb hts in_E hown hK hP 1 rfl rfl 3 (by decide) (hts _ tw_27) (fun _ h9 => h9) rfl d_E_sizeOrder_24 ?_
    refine lv_icmp_ge (tgt := 34) hx hb d_E_sizeOrder_27 (by decide) (fun c_27 => ?_) (fun c_27 => ?_)
    · replace hF := hif_t c_27 hF
      refine lv_iconst (v := (1 : Int32)) hx hb d_E_sizeOrder_34 (by decide) ?_
      obtain rfl := Option.some.inj hF
      exact W.iret (v := (1 : Int32)) hx hb hr (fun t ht hW => ⟨⟨(1 : Int32), (), rfl, rfl, by rw [ht]; exact hP, va_K.moved hW.alike hK, hD⟩, hS.F ht⟩) hS.2.2 d_E_sizeOrder_35
    · replace hF := hif_f c_27 hF
      refine lv_iconst (v := (-1 : Int32)) hx hb d_E_sizeOrder_30 (by decide) ?_
      refine lv_goto (tgt := 35) hx hb d_E_sizeOrder_31 (by decide) ?_
      obtain rfl := Option.some.inj hF
      exact W.iret (v := (-1 : Int32)) hx hb hr (fun t ht hW => ⟨⟨(-1 : Int32), (), rfl, rfl, by rw [ht]; exact hP, va_K.moved hW.alike hK, hD⟩, hS.F ht⟩) hS.2.2 d_E_sizeOrder_35
set_option maxHeartbeats 4000000 in
set_option maxRecDepth 100000 in
theorem c_E_takeLesser (l : Launch) (dC : Nat → ClassId) (dI : Nat → Nat → Nat) (h_T : Nat) (h_U : Nat) (sz : Nat) (T_sg : Int32) (T_hi : Int64) (T_lo : Int64) (T_pl : Int32) (T_mo : Int32) (U_sg : Int32) (U_hi : Int64) (U_lo : Int64) (U_pl : Int32) (U_mo : Int32) (o : Int32 × Int64 × Int64 × Int32 × Int64 × Int64 × Int32 × Int32) (hF : f_E_takeLesser T_sg T_hi T_lo T_pl T_mo U_sg U_hi U_lo U_pl U_mo = some o) : Met l y_E_takeLesser w_E_takeLesser ({ frames := 2, cells := 0, slots := 0, locals := 46 } : Room) (va_Pc [.ref h_T, .ref h_U] (fun U => U.heap.size = sz ∧ va_P (dC, dI) classes [cE h_T T_sg T_hi T_lo T_pl T_mo, cE h_U U_sg U_hi U_lo U_pl U_mo] U.heap ∧ va_K (dC, dI) classes [] U ∧ va_D (fun _ => True) [cE h_T T_sg T_hi T_lo T_pl T_mo, cE h_U U_sg U_hi U_lo U_pl U_mo])) (va_Qv (fun _ : Unit => True) (fun (_ : Unit) (t : State) => va_P (dC, dI) classes [cE h_T o.1 o.2.1 o.2.2.1 T_pl o.2.2.2.1, cE h_U U_sg o.2.2.2.2.1 o.2.2.2.2.2.1 o.2.2.2.2.2.2.1 o.2.2.2.2.2.2.2] t.heap ∧ va_K (dC, dI) classes [] t ∧ va_D (va_A [cE h_T T_sg T_hi T_lo T_pl T_mo, cE h_U U_sg U_hi U_lo U_pl U_mo] sz) [cE h_T o.1 o.2.1 o.2.2.1 T_pl o.2.2.2.1, cE h_U U_sg o.2.2.2.2.1 o.2.2.2.2.2.1 o.2.2.2.2.2.2.1 o.2.2.2.2.2.2.2]) (va_A [cE h_T T_sg T_hi T_lo T_pl T_mo, cE h_U U_sg U_hi U_lo U_pl U_mo] sz)) 0 0 (va_A [cE h_T T_sg T_hi T_lo T_pl T_mo, cE h_U U_sg U_hi U_lo U_pl U_mo] sz) := by
  refine Met.ofW (cc := prog_2_method_8_code) (maxL := 2) (ret := none) (by decide) rfl ?_
  intro p e s m args below meth c s₁ B hml hv
  obtain ⟨rfl, hsz, hP, hK, hD0⟩ := hv
  have hx := B.exec
  have hb := B.bytes
  have hr := B.returns
  have hts0 := atoms_spec (ws := w_E_takeLesser) B.pre
  have hts : ∀ w ∈ tb, w.before _ s = true := fun w h => hts0 w (List.mem_cons_of_mem _ h)
  clear hts0
  have hown : s.vm.findClass "RoundedNumbers$Exact" = some m.cls := findClass_of_methodNamed B.named
  have hlocks := B.notSynchronized
  subst hsz
  have hD := hD0.self (sz := s.heap.size)
  generalize hAe : va_A [cE h_T T_sg T_hi T_lo T_pl T_mo, cE h_U U_sg U_hi U_lo U_pl U_mo] s.heap.size = A at hD ⊢
  have hA : ∀ q : Nat, s.heap.size ≤ q → A q := fun q h => by rw [← hAe]; exact Or.inr h
  clear hAe
  have hS : va_S A s.heap s.heap [] := va_S.rf
  have hP : va_P (dC, dI) classes [cE h_T T_sg T_hi T_lo T_pl T_mo, cE h_U U_sg U_hi U_lo U_pl U_mo] s.heap := hP
  have hl := lv_entry ([.ref h_T, .ref h_U]) (n := 2) (Nat.le_of_ble_eq_true rfl)
  rw [lg_entry_eq]
  generalize (lg_sl ([.ref h_T, .ref h_U]) ++ List.replicate (2 - (lg_sl ([.ref h_T, .ref h_U])).length) Slot.unset).toArray = ls at hl ⊢
  have hl : lv_has ls 2 [(0, .ref h_T), (1, .ref h_U)] := hl
  have b_167 : ∀ (T_sg : Int32) (T_hi : Int64) (T_lo : Int64) (T_pl : Int32) (T_mo : Int32) (U_sg : Int32) (U_hi : Int64) (U_lo : Int64) (U_pl : Int32) (U_mo : Int32) (H : Heap) (locs : List Loc) (ls : Array Slot), va_P (dC, dI) classes [cE h_T T_sg T_hi T_lo T_pl T_mo, cE h_U U_sg U_hi U_lo U_pl U_mo] H → va_D A [cE h_T T_sg T_hi T_lo T_pl T_mo, cE h_U U_sg U_hi U_lo U_pl U_mo] → va_S A s.heap H locs → lv_has ls 2 [(0, .ref h_T)] → f_E_takeLesser_167  T_sg T_hi T_lo T_pl T_mo U_sg U_hi U_lo U_pl U_mo = some o → W p l e (headSpec w_E_takeLesser ({ frames := 2, cells := 0, slots := 0, locals := 46 } : Room)).room s m ([.ref h_T, .ref h_U] : List Value).toArray below meth c H locs 0 0 (MQ below (va_Qv (fun _ : Unit => True) (fun (_ : Unit) (t : State) => va_P (dC, dI) classes [cE h_T o.1 o.2.1 o.2.2.1 T_pl o.2.2.2.1, cE h_U U_sg o.2.2.2.2.1 o.2.2.2.2.2.1 o.2.2.2.2.2.2.1 o.2.2.2.2.2.2.2] t.heap ∧ va_K (dC, dI) classes [] t ∧ va_D A [cE h_T o.1 o.2.1 o.2.2.1 T_pl o.2.2.2.1, cE h_U U_sg o.2.2.2.2.1 o.2.2.2.2.2.1 o.2.2.2.2.2.2.1 o.2.2.2.2.2.2.2]) A) ([.ref h_T, .ref h_U] : List Value).toArray s 0 0 A) (F0 m 167 ls []) := by
    intro T_sg T_hi T_lo T_pl T_mo U_sg U_hi U_lo U_pl U_mo H locs ls hP hD hS hl hF
    unfold f_E_takeLesser_167 at hF
    refine lv_aload_n hx hb d_E_takeLesser_167 rfl (lv_at hl 0 rfl) ?_
    refine va_get (D := (dC, dI)) (ci := 0) (v := .long T_hi) (C := "RoundedNumbers$Exact") (T := F_E) (N := 5) hx hb hts in_E hown hK hP 0 rfl rfl 1 (by decide) (hts _ tw_23) (fun _ h9 => h9) rfl d_E_takeLesser_168 ?_
    refine lv_lconst (v := (0 : Int64)) hx hb d_E_takeLesser_171 (by decide) ?_
    refine W.lcmp hx hb d_E_takeLesser_172 ?_
    refine lv_if_ne (tgt := 190) hx hb d_E_takeLesser_173 (by decide) (fun c_173 => ?_) (fun c_173 => ?_)
    · replace hF := hif_f c_173 hF
      obtain rfl := Option.some.inj hF
      exact W.vret hx hb hr (fun t ht hW => ⟨⟨(), rfl, trivial, by rw [ht]; exact hP, va_K.moved hW.alike hK, hD⟩, hS.F ht⟩) hS.2.2 d_E_takeLesser_190
    · replace hF := hif_t c_173 hF
      refine lv_aload_n hx hb d_E_takeLesser_176 rfl (lv_at hl 0 rfl) ?_
      refine va_get (D := (dC, dI)) (ci := 0) (v := .long T_lo) (C := "RoundedNumbers$Exact") (T := F_E) (N := 5) hx hb hts in_E hown hK hP 0 rfl rfl 2 (by decide) (hts _ tw_25) (fun _ h9 => h9) rfl d_E_takeLesser_177 ?_
      refine lv_lconst (v := (0 : Int64)) hx hb d_E_takeLesser_180 (by decide) ?_
      refine W.lcmp hx hb d_E_takeLesser_181 ?_
      refine lv_if_ne (tgt := 190) hx hb d_E_takeLesser_182 (by decide) (fun c_182 => ?_) (fun c_182 => ?_)
      · replace hF := hif_f c_182 hF
        obtain rfl := Option.some.inj hF
        exact W.vret hx hb hr (fun t ht hW => ⟨⟨(), rfl, trivial, by rw [ht]; exact hP, va_K.moved hW.alike hK, hD⟩, hS.F ht⟩) hS.2.2 d_E_takeLesser_190
      · replace hF := hif_t c_182 hF
        refine lv_aload_n hx hb d_E_takeLesser_185 rfl (lv_at hl 0 rfl) ?_
        refine lv_iconst (v := (0 : Int32)) hx hb d_E_takeLesser_186 (by decide) ?_
        refine va_put (D := (dC, dI)) (ci := 0) (v := .int (0 : Int32)) (ty := .int) (C := "RoundedNumbers$Exact") (T := F_E) (N := 5) hx hb hts in_E t_E t_E_ok n_E hown hK hP hD hS 0 rfl rfl 0 (by decide) (hts _ tw_21) (fun _ h9 => h9) rfl (by decide +kernel) rfl rfl (Nat.le_of_ble_eq_true rfl) d_E_takeLesser_187 (fun H locs hP hD hS => ?_)
        have hP : va_P (dC, dI) classes [cE h_T (0 : Int32) T_hi T_lo T_pl T_mo, cE h_U U_sg U_hi U_lo U_pl U_mo] H := hP
        have hD : va_D A [cE h_T (0 : Int32) T_hi T_lo T_pl T_mo, cE h_U U_sg U_hi U_lo U_pl U_mo] := hD
        obtain rfl := Option.some.inj hF
        exact W.vret hx hb hr (fun t ht hW => ⟨⟨(), rfl, trivial, by rw [ht]; exact hP, va_K.moved hW.alike hK, hD⟩, hS.F ht⟩) hS.2.2 d_E_takeLesser_190
  have b_153 : ∀ (y0 : Int64) (y1 : Int64) (T_sg : Int32) (T_hi : Int64) (T_lo : Int64) (T_pl : Int32) (T_mo : Int32) (U_sg : Int32) (U_hi : Int64) (U_lo : Int64) (U_pl : Int32) (U_mo : Int32) (H : Heap) (locs : List Loc) (ls : Array Slot), va_P (dC, dI) classes [cE h_T T_sg T_hi T_lo T_pl T_mo, cE h_U U_sg U_hi U_lo U_pl U_mo] H → va_D A [cE h_T T_sg T_hi T_lo T_pl T_mo, cE h_U U_sg U_hi U_lo U_pl U_mo] → va_S A s.heap H locs → lv_has ls 2 [(0, .ref h_T)] → f_E_takeLesser_153  y0 y1 T_sg T_hi T_lo T_pl T_mo U_sg U_hi U_lo U_pl U_mo = some o → W p l e (headSpec w_E_takeLesser ({ frames := 2, cells := 0, slots := 0, locals := 46 } : Room)).room s m ([.ref h_T, .ref h_U] : List Value).toArray below meth c H locs 0 0 (MQ below (va_Qv (fun _ : Unit => True) (fun (_ : Unit) (t : State) => va_P (dC, dI) classes [cE h_T o.1 o.2.1 o.2.2.1 T_pl o.2.2.2.1, cE h_U U_sg o.2.2.2.2.1 o.2.2.2.2.2.1 o.2.2.2.2.2.2.1 o.2.2.2.2.2.2.2] t.heap ∧ va_K (dC, dI) classes [] t ∧ va_D A [cE h_T o.1 o.2.1 o.2.2.1 T_pl o.2.2.2.1, cE h_U U_sg o.2.2.2.2.1 o.2.2.2.2.2.1 o.2.2.2.2.2.2.1 o.2.2.2.2.2.2.2]) A) ([.ref h_T, .ref h_U] : List Value).toArray s 0 0 A) (F0 m 153 ls [.long y0, .long y1, .ref h_T]) := by
    intro y0 y1 T_sg T_hi T_lo T_pl T_mo U_sg U_hi U_lo U_pl U_mo H locs ls hP hD hS hl hF
    unfold f_E_takeLesser_153 at hF
    refine lv_lsub hx hb d_E_takeLesser_153 ?_
    refine va_put (D := (dC, dI)) (ci := 0) (v := .long (y1 - y0)) (ty := .long) (C := "RoundedNumbers$Exact") (T := F_E) (N := 5) hx hb hts in_E t_E t_E_ok n_E hown hK hP hD hS 0 rfl rfl 1 (by decide) (hts _ tw_23) (fun _ h9 => h9) rfl (by decide +kernel) rfl rfl (Nat.le_of_ble_eq_true rfl) d_E_takeLesser_154 (fun H locs hP hD hS => ?_)
    have hP : va_P (dC, dI) classes [cE h_T T_sg (y1 - y0) T_lo T_pl T_mo, cE h_U U_sg U_hi U_lo U_pl U_mo] H := hP
    have hD : va_D A [cE h_T T_sg (y1 - y0) T_lo T_pl T_mo, cE h_U U_sg U_hi U_lo U_pl U_mo] := hD
    refine lv_aload_n hx hb d_E_takeLesser_157 rfl (lv_at hl 0 rfl) ?_
    refine lv_dup hx hb d_E_takeLesser_158 rfl ?_
    refine va_get (D := (dC, dI)) (ci := 0) (v := .long T_lo) (C := "RoundedNumbers$Exact") (T := F_E) (N := 5) hx hb hts in_E hown hK hP 0 rfl rfl 2 (by decide) (hts _ tw_25) (fun _ h9 => h9) rfl d_E_takeLesser_159 ?_
    refine lv_lconst (v := (1 : Int64)) hx hb d_E_takeLesser_162 (by decide) ?_
    refine lv_lsub hx hb d_E_takeLesser_163 ?_
    refine va_put (D := (dC, dI)) (ci := 0) (v := .long (T_lo - (1 : Int64))) (ty := .long) (C := "RoundedNumbers$Exact") (T := F_E) (N := 5) hx hb hts in_E t_E t_E_ok n_E hown hK hP hD hS 0 rfl rfl 2 (by decide) (hts _ tw_25) (fun _ h9 => h9) rfl (by decide +kernel) rfl rfl (Nat.le_of_ble_eq_true rfl) d_E_takeLesser_164 (fun H locs hP hD hS => ?_)
    have hP : va_P (dC, dI) classes [cE h_T T_sg (y1 - y0) (T_lo - (1 : Int64)) T_pl T_mo, cE h_U U_sg U_hi U_lo U_pl U_mo] H := hP
    have hD : va_D A [cE h_T T_sg (y1 - y0) (T_lo - (1 : Int64)) T_pl T_mo, cE h_U U_sg U_hi U_lo U_pl U_mo] := hD
    exact b_167 T_sg (y1 - y0) (T_lo - (1 : Int64)) T_pl T_mo U_sg U_hi U_lo U_pl U_mo _ _ _ hP hD hS (lv_sub hl [0] rfl) hF
  have b_108 : ∀ (y0 : Int32) (y1 : Int64) (y2 : Int64) (T_sg : Int32) (T_hi : Int64) (T_lo : Int64) (T_pl : Int32) (T_mo : Int32) (U_sg : Int32) (U_hi : Int64) (U_lo : Int64) (U_pl : Int32) (U_mo : Int32) (H : Heap) (locs : List Loc) (ls : Array Slot), va_P (dC, dI) classes [cE h_T T_sg T_hi T_lo T_pl T_mo, cE h_U U_sg U_hi U_lo U_pl U_mo] H → va_D A [cE h_T T_sg T_hi T_lo T_pl T_mo, cE h_U U_sg U_hi U_lo U_pl U_mo] → va_S A s.heap H locs → lv_has ls 2 [(0, .ref h_T), (1, .ref h_U)] → f_E_takeLesser_108  y0 y1 y2 T_sg T_hi T_lo T_pl T_mo U_sg U_hi U_lo U_pl U_mo = some o → W p l e (headSpec w_E_takeLesser ({ frames := 2, cells := 0, slots := 0, locals := 46 } : Room)).room s m ([.ref h_T, .ref h_U] : List Value).toArray below meth c H locs 0 0 (MQ below (va_Qv (fun _ : Unit => True) (fun (_ : Unit) (t : State) => va_P (dC, dI) classes [cE h_T o.1 o.2.1 o.2.2.1 T_pl o.2.2.2.1, cE h_U U_sg o.2.2.2.2.1 o.2.2.2.2.2.1 o.2.2.2.2.2.2.1 o.2.2.2.2.2.2.2] t.heap ∧ va_K (dC, dI) classes [] t ∧ va_D A [cE h_T o.1 o.2.1 o.2.2.1 T_pl o.2.2.2.1, cE h_U U_sg o.2.2.2.2.1 o.2.2.2.2.2.1 o.2.2.2.2.2.2.1 o.2.2.2.2.2.2.2]) A) ([.ref h_T, .ref h_U] : List Value).toArray s 0 0 A) (F0 m 108 ls [.int y0, .long y1, .long y2, .ref h_T]) := by
    intro y0 y1 y2 T_sg T_hi T_lo T_pl T_mo U_sg U_hi U_lo U_pl U_mo H locs ls hP hD hS hl hF
    unfold f_E_takeLesser_108 at hF
    refine lv_i2l (v := y0.toInt64) hx hb d_E_takeLesser_108 rfl ?_
    refine lv_ladd hx hb d_E_takeLesser_109 ?_
    refine lv_lsub hx hb d_E_takeLesser_110 ?_
    refine va_put (D := (dC, dI)) (ci := 0) (v := .long (y2 - (y1 + y0.toInt64))) (ty := .long) (C := "RoundedNumbers$Exact") (T := F_E) (N := 5) hx hb hts in_E t_E t_E_ok n_E hown hK hP hD hS 0 rfl rfl 1 (by decide) (hts _ tw_23) (fun _ h9 => h9) rfl (by decide +kernel) rfl rfl (Nat.le_of_ble_eq_true rfl) d_E_takeLesser_111 (fun H locs hP hD hS => ?_)
    have hP : va_P (dC, dI) classes [cE h_T T_sg (y2 - (y1 + y0.toInt64)) T_lo T_pl T_mo, cE h_U U_sg U_hi U_lo U_pl U_mo] H := hP
    have hD : va_D A [cE h_T T_sg (y2 - (y1 + y0.toInt64)) T_lo T_pl T_mo, cE h_U U_sg U_hi U_lo U_pl U_mo] := hD
    refine lv_aload_n hx hb d_E_takeLesser_114 rfl (lv_at hl 0 rfl) ?_
    refine lv_dup hx hb d_E_takeLesser_115 rfl ?_
    refine va_get (D := (dC, dI)) (ci := 0) (v := .long T_lo) (C := "RoundedNumbers$Exact") (T := F_E) (N := 5) hx hb hts in_E hown hK hP 0 rfl rfl 2 (by decide) (hts _ tw_25) (fun _ h9 => h9) rfl d_E_takeLesser_116 ?_
    refine lv_aload_n hx hb d_E_takeLesser_119 rfl (lv_at hl 1 rfl) ?_
    refine va_get (D := (dC, dI)) (ci := 0) (v := .long U_lo) (C := "RoundedNumbers$Exact") (T := F_E) (N := 5) hx hb hts in_E hown hK hP 1 rfl rfl 2 (by decide) (hts _ tw_25) (fun _ h9 => h9) rfl d_E_takeLesser_120 ?_
    refine lv_lsub hx hb d_E_takeLesser_123 ?_
    refine va_put (D := (dC, dI)) (ci := 0) (v := .long (T_lo - U_lo)) (ty := .long) (C := "RoundedNumbers$Exact") (T := F_E) (N := 5) hx hb hts in_E t_E t_E_ok n_E hown hK hP hD hS 0 rfl rfl 2 (by decide) (hts _ tw_25) (fun _ h9 => h9) rfl (by decide +kernel) rfl rfl (Nat.le_of_ble_eq_true rfl) d_E_takeLesser_124 (fun H locs hP hD hS => ?_)
    have hP : va_P (dC, dI) classes [cE h_T T_sg (y2 - (y1 + y0.toInt64)) (T_lo - U_lo) T_pl T_mo, cE h_U U_sg U_hi U_lo U_pl U_mo] H := hP
    have hD : va_D A [cE h_T T_sg (y2 - (y1 + y0.toInt64)) (T_lo - U_lo) T_pl T_mo, cE h_U U_sg U_hi U_lo U_pl U_mo] := hD
    refine lv_aload_n hx hb d_E_takeLesser_127 rfl (lv_at hl 0 rfl) ?_
    refine va_get (D := (dC, dI)) (ci := 0) (v := .int T_mo) (C := "RoundedNumbers$Exact") (T := F_E) (N := 5) hx hb hts in_E hown hK hP 0 rfl rfl 4 (by decide) (hts _ tw_29) (fun _ h9 => h9) rfl d_E_takeLesser_128 ?_
    refine lv_if_eq (tgt := 167) hx hb d_E_takeLesser_131 (by decide) (fun c_131 => ?_) (fun c_131 => ?_)
    · replace hF := hif_t c_131 hF
      exact b_167 T_sg (y2 - (y1 + y0.toInt64)) (T_lo - U_lo) T_pl T_mo U_sg U_hi U_lo U_pl U_mo _ _ _ hP hD hS (lv_sub hl [0] rfl) hF
    · replace hF := hif_f c_131 hF
      refine lv_aload_n hx hb d_E_takeLesser_134 rfl (lv_at hl 0 rfl) ?_
      refine lv_dup hx hb d_E_takeLesser_135 rfl ?_
      refine va_get (D := (dC, dI)) (ci := 0) (v := .long (y2 - (y1 + y0.toInt64))) (C := "RoundedNumbers$Exact") (T := F_E) (N := 5) hx hb hts in_E hown hK hP 0 rfl rfl 1 (by decide) (hts _ tw_23) (fun _ h9 => h9) rfl d_E_takeLesser_136 ?_
      refine lv_aload_n hx hb d_E_takeLesser_139 rfl (lv_at hl 0 rfl) ?_
      refine va_get (D := (dC, dI)) (ci := 0) (v := .long (T_lo - U_lo)) (C := "RoundedNumbers$Exact") (T := F_E) (N := 5) hx hb hts in_E hown hK hP 0 rfl rfl 2 (by decide) (hts _ tw_25) (fun _ h9 => h9) rfl d_E_takeLesser_140 ?_
      refine lv_lconst (v := (0 : Int64)) hx hb d_E_takeLesser_143 (by decide) ?_
      refine W.lcmp hx hb d_E_takeLesser_144 ?_
      refine lv_if_ne (tgt := 152) hx hb d_E_takeLesser_145 (by decide) (fun c_145 => ?_) (fun c_145 => ?_)
      · replace hF := hif_f c_145 hF
        refine lv_lconst (v := (0 : Int64)) hx hb d_E_takeLesser_152 (by decide) ?_
        exact b_153 (0 : Int64) (y2 - (y1 + y0.toInt64)) T_sg (y2 - (y1 + y0.toInt64)) (T_lo - U_lo) T_pl T_mo U_sg U_hi U_lo U_pl U_mo _ _ _ hP hD hS (lv_sub hl [0] rfl) hF
      · replace hF := hif_t c_145 hF
        refine lv_lconst (v := (1 : Int64)) hx hb d_E_takeLesser_148 (by decide) ?_
        refine lv_goto (tgt := 153) hx hb d_E_takeLesser_149 (by decide) ?_
        exact b_153 (1 : Int64) (y2 - (y1 + y0.toInt64)) T_sg (y2 - (y1 + y0.toInt64)) (T_lo - U_lo) T_pl T_mo U_sg U_hi U_lo U_pl U_mo _ _ _ hP hD hS (lv_sub hl [0] rfl) hF
  unfold f_E_takeLesser at hF
  refine lv_aload_n hx hb d_E_takeLesser_0 rfl (lv_at hl 1 rfl) ?_
  refine lv_aload_n hx hb d_E_takeLesser_1 rfl (lv_at hl 0 rfl) ?_
  refine va_get (D := (dC, dI)) (ci := 0) (v := .int T_pl) (C := "RoundedNumbers$Exact") (T := F_E) (N := 5) hx hb hts in_E hown hK hP 0 rfl rfl 3 (by decide) (hts _ tw_27) (fun _ h9 => h9) rfl d_E_takeLesser_2 ?_
  refine lv_aload_n hx hb d_E_takeLesser_5 rfl (lv_at hl 1 rfl) ?_
  refine va_get (D := (dC, dI)) (ci := 0) (v := .int U_pl) (C := "RoundedNumbers$Exact") (T := F_E) (N := 5) hx hb hts in_E hown hK hP 1 rfl rfl 3 (by decide) (hts _ tw_27) (fun _ h9 => h9) rfl d_E_takeLesser_6 ?_
  refine lv_isub hx hb d_E_takeLesser_9 ?_
  obtain ⟨q_10, hC_10, hF⟩ := hbd hF
  have hPc := hP.sub (ws' := [cE h_U U_sg U_hi U_lo U_pl U_mo]) [1] rfl
  have hDc := hD.sub (ws' := [cE h_U U_sg U_hi U_lo U_pl U_mo]) [1] (by decide) rfl
  have hKc := hK.sub (tys' := []) [] rfl
  have hFc := va_free (wc := [cE h_U U_sg U_hi U_lo U_pl U_mo]) hD hS hA [1] rfl
  refine va_callv (va_runV (As := [.int (T_pl - U_pl)]) (rest := []) ⟨hx, hb, hml, hown, hts⟩ (c_E_shiftDown l dC dI h_U s.heap.size U_sg U_hi U_lo U_pl U_mo (T_pl - U_pl) q_10 hC_10) (cwV 1 hts g_E_58_E_shiftDown rfl rfl rfl (by decide +kernel) ⟨Nat.le_of_ble_eq_true rfl, Nat.le_of_ble_eq_true rfl⟩) ⟨fun a U g mk q => by obtain ⟨q0, q1, qP, qK, qD⟩ := q; exact ⟨q0, q1, qP, va_K.moved (u := U) (U := U.calling g mk a) (Vm.Alike.refl U.vm) qK, qD⟩, va_recv hKc hPc (ci := 0) (q0 := 0) rfl rfl, fun U hU hW => ⟨rfl, by rw [hU], by rw [hU]; exact hPc, va_K.moved hW.alike hKc, hDc.weaken (fun _ _ _ _ => trivial)⟩⟩ rfl rfl hl.1 rfl (lv_room (Nat.le_of_ble_eq_true rfl)) d_E_takeLesser_10 ⟨Nat.zero_le _, Nat.zero_le _⟩) hS (fun q _ h => hFc q h) hFc (fun u t H1 locs ht hvm hw hB hz1 hk1 hS => ?_)
  obtain ⟨hP1, hK1, hD1⟩ := hB
  rw [ht] at hP1
  obtain ⟨hP, hD⟩ := va_join (wr := [cE h_T T_sg T_hi T_lo T_pl T_mo]) (w1 := [cE h_U U_sg q_10.1 q_10.2.1 q_10.2.2.1 q_10.2.2.2]) hP hD [1] [0] rfl rfl (by decide) (by decide) hk1 hFc hP1 hD1
  generalize H1 = H at hP hS ⊢
  have hP := hP.sub (ws' := [cE h_T T_sg T_hi T_lo T_pl T_mo, cE h_U U_sg q_10.1 q_10.2.1 q_10.2.2.1 q_10.2.2.2]) [0, 1] rfl
  have hD := hD.sub (ws' := [cE h_T T_sg T_hi T_lo T_pl T_mo, cE h_U U_sg q_10.1 q_10.2.1 q_10.2.2.1 q_10.2.2.2]) [0, 1] (by decide) rfl
  refine lv_aload_n hx hb d_E_takeLesser_13 rfl (lv_at hl 0 rfl) ?_
  refine lv_aload_n hx hb d_E_takeLesser_14 rfl (lv_at hl 1 rfl) ?_
  refine va_get (D := (dC, dI)) (ci := 0) (v := .int q_10.2.2.2) (C := "RoundedNumbers$Exact") (T := F_E) (N := 5) hx hb hts in_E hown hK hP 1 rfl rfl 4 (by decide) (hts _ tw_29) (fun _ h9 => h9) rfl d_E_takeLesser_15 ?_
  have c_18 : q_10.2.2.2 = 0 ∨ q_10.2.2.2 = 1 := hif_y hF
  replace hF := hif_t c_18 hF
  refine va_put (D := (dC, dI)) (ci := 0) (v := .int q_10.2.2.2) (ty := .boolean) (C := "RoundedNumbers$Exact") (T := F_E) (N := 5) hx hb hts in_E t_E t_E_ok n_E hown hK hP hD hS 0 rfl rfl 4 (by decide) (hts _ tw_29) (fun _ h9 => h9) rfl (by decide +kernel) (zb_nar c_18) (zb_fit c_18) (Nat.le_of_ble_eq_true rfl) d_E_takeLesser_18 (fun H locs hP hD hS => ?_)
  have hP : va_P (dC, dI) classes [cE h_T T_sg T_hi T_lo T_pl q_10.2.2.2, cE h_U U_sg q_10.1 q_10.2.1 q_10.2.2.1 q_10.2.2.2] H := hP
  have hD : va_D A [cE h_T T_sg T_hi T_lo T_pl q_10.2.2.2, cE h_U U_sg q_10.1 q_10.2.1 q_10.2.2.1 q_10.2.2.2] := hD
  refine lv_aload_n hx hb d_E_takeLesser_21 rfl (lv_at hl 0 rfl) ?_
  refine va_get (D := (dC, dI)) (ci := 0) (v := .int T_sg) (C := "RoundedNumbers$Exact") (T := F_E) (N := 5) hx hb hts in_E hown hK hP 0 rfl rfl 0 (by decide) (hts _ tw_21) (fun _ h9 => h9) rfl d_E_takeLesser_22 ?_
  refine lv_aload_n hx hb d_E_takeLesser_25 rfl (lv_at hl 1 rfl) ?_
  refine va_get (D := (dC, dI)) (ci := 0) (v := .int U_sg) (C := "RoundedNumbers$Exact") (T := F_E) (N := 5) hx hb hts in_E hown hK hP 1 rfl rfl 0 (by decide) (hts _ tw_21) (fun _ h9 => h9) rfl d_E_takeLesser_26 ?_
  refine lv_icmp_ne (tgt := 80) hx hb d_E_takeLesser_29 (by decide) (fun c_29 => ?_) (fun c_29 => ?_)
  · replace hF := hif_f c_29 hF
    refine lv_aload_n hx hb d_E_takeLesser_80 rfl (lv_at hl 0 rfl) ?_
    refine lv_dup hx hb d_E_takeLesser_81 rfl ?_
    refine va_get (D := (dC, dI)) (ci := 0) (v := .long T_hi) (C := "RoundedNumbers$Exact") (T := F_E) (N := 5) hx hb hts in_E hown hK hP 0 rfl rfl 1 (by decide) (hts _ tw_23) (fun _ h9 => h9) rfl d_E_takeLesser_82 ?_
    refine lv_aload_n hx hb d_E_takeLesser_85 rfl (lv_at hl 1 rfl) ?_
    refine va_get (D := (dC, dI)) (ci := 0) (v := .long q_10.1) (C := "RoundedNumbers$Exact") (T := F_E) (N := 5) hx hb hts in_E hown hK hP 1 rfl rfl 1 (by decide) (hts _ tw_23) (fun _ h9 => h9) rfl d_E_takeLesser_86 ?_
    refine lv_aload_n hx hb d_E_takeLesser_89 rfl (lv_at hl 0 rfl) ?_
    refine va_get (D := (dC, dI)) (ci := 0) (v := .long T_lo) (C := "RoundedNumbers$Exact") (T := F_E) (N := 5) hx hb hts in_E hown hK hP 0 rfl rfl 2 (by decide) (hts _ tw_25) (fun _ h9 => h9) rfl d_E_takeLesser_90 ?_
    refine lv_aload_n hx hb d_E_takeLesser_93 rfl (lv_at hl 1 rfl) ?_
    refine va_get (D := (dC, dI)) (ci := 0) (v := .long q_10.2.1) (C := "RoundedNumbers$Exact") (T := F_E) (N := 5) hx hb hts in_E hown hK hP 1 rfl rfl 2 (by decide) (hts _ tw_25) (fun _ h9 => h9) rfl d_E_takeLesser_94 ?_
    obtain ⟨q_97, hC_97, hF⟩ := hbd hF
    have hPc := hP.sub (ws' := []) [] rfl
    have hDc := hD.sub (ws' := []) [] (by decide) rfl
    have hKc := hK.sub (tys' := []) [] rfl
    have hFc := va_free (wc := []) hD hS hA [] rfl
    refine va_calli (va_runS (As := [.long T_lo, .long q_10.2.1]) (rest := [.long q_10.1, .long T_hi, .ref h_T]) ⟨hx, hb, hml, hown, hts⟩ (c_J_compareUnsigned l dC dI H.size T_lo q_10.2.1 q_97 hC_97) (va_cwS 2 hts g_E_54_JL_compareUnsigned rfl rfl rfl (by decide +kernel) ⟨Nat.le_of_ble_eq_true rfl, Nat.le_of_ble_eq_true rfl⟩) ⟨fun a U g mk q => by obtain ⟨q0, q1, qP, qK, qD⟩ := q; exact ⟨q0, q1, qP, va_K.moved (u := U) (U := U.calling g mk a) (Vm.Alike.refl U.vm) qK, qD⟩, fun U hU hW => ⟨rfl, by rw [hU], by rw [hU]; exact hPc, va_K.moved hW.alike hKc, hDc.weaken (fun _ _ _ _ => trivial)⟩⟩ rfl rfl hl.1 rfl (lv_room (Nat.le_of_ble_eq_true rfl)) d_E_takeLesser_97 ⟨Nat.zero_le _, Nat.zero_le _⟩) hS (fun q _ h => hFc q h) hFc (fun r u t H1 locs ht hvm hw hB hz1 hk1 hS => ?_)
    obtain ⟨hP1, hK1, hD1⟩ := hB
    replace hw := hw.symm
    subst hw
    rw [ht] at hP1
    obtain ⟨hP, hD⟩ := va_join (wr := [cE h_T T_sg T_hi T_lo T_pl q_10.2.2.2, cE h_U U_sg q_10.1 q_10.2.1 q_10.2.2.1 q_10.2.2.2]) (w1 := []) hP hD [] [0, 1] rfl rfl (by decide) (by decide) hk1 hFc hP1 hD1
    generalize H1 = H at hP hS ⊢
    have hP := hP.sub (ws' := [cE h_T T_sg T_hi T_lo T_pl q_10.2.2.2, cE h_U U_sg q_10.1 q_10.2.1 q_10.2.2.1 q_10.2.2.2]) [0, 1] rfl
    have hD := hD.sub (ws' := [cE h_T T_sg T_hi T_lo T_pl q_10.2.2.2, cE h_U U_sg q_10.1 q_10.2.1 q_10.2.2.1 q_10.2.2.2]) [0, 1] (by decide) rfl
    refine lv_if_ge (tgt := 107) hx hb d_E_takeLesser_100 (by decide) (fun c_100 => ?_) (fun c_100 => ?_)
    · replace hF := hif_t c_100 hF
      refine lv_iconst (v := (0 : Int32)) hx hb d_E_takeLesser_107 (by decide) ?_
      exact b_108 (0 : Int32) q_10.1 T_hi T_sg T_hi T_lo T_pl q_10.2.2.2 U_sg q_10.1 q_10.2.1 q_10.2.2.1 q_10.2.2.2 _ _ _ hP hD hS (lv_sub hl [0, 1] rfl) hF
    · replace hF := hif_f c_100 hF
      refine lv_iconst (v := (1 : Int32)) hx hb d_E_takeLesser_103 (by decide) ?_
      refine lv_goto (tgt := 108) hx hb d_E_takeLesser_104 (by decide) ?_
      exact b_108 (1 : Int32) q_10.1 T_hi T_sg T_hi T_lo T_pl q_10.2.2.2 U_sg q_10.1 q_10.2.1 q_10.2.2.1 q_10.2.2.2 _ _ _ hP hD hS (lv_sub hl [0, 1] rfl) hF
  · replace hF := hif_t c_29 hF
    refine lv_aload_n hx hb d_E_takeLesser_32 rfl (lv_at hl 0 rfl) ?_
    refine lv_dup hx hb d_E_takeLesser_33 rfl ?_
    refine va_get (D := (dC, dI)) (ci := 0) (v := .long T_lo) (C := "RoundedNumbers$Exact") (T := F_E) (N := 5) hx hb hts in_E hown hK hP 0 rfl rfl 2 (by decide) (hts _ tw_25) (fun _ h9 => h9) rfl d_E_takeLesser_34 ?_
    refine lv_aload_n hx hb d_E_takeLesser_37 rfl (lv_at hl 1 rfl) ?_
    refine va_get (D := (dC, dI)) (ci := 0) (v := .long q_10.2.1) (C := "RoundedNumbers$Exact") (T := F_E) (N := 5) hx hb hts in_E hown hK hP 1 rfl rfl 2 (by decide) (hts _ tw_25) (fun _ h9 => h9) rfl d_E_takeLesser_38 ?_
    refine lv_ladd hx hb d_E_takeLesser_41 ?_
    refine va_put (D := (dC, dI)) (ci := 0) (v := .long (T_lo + q_10.2.1)) (ty := .long) (C := "RoundedNumbers$Exact") (T := F_E) (N := 5) hx hb hts in_E t_E t_E_ok n_E hown hK hP hD hS 0 rfl rfl 2 (by decide) (hts _ tw_25) (fun _ h9 => h9) rfl (by decide +kernel) rfl rfl (Nat.le_of_ble_eq_true rfl) d_E_takeLesser_42 (fun H locs hP hD hS => ?_)
    have hP : va_P (dC, dI) classes [cE h_T T_sg T_hi (T_lo + q_10.2.1) T_pl q_10.2.2.2, cE h_U U_sg q_10.1 q_10.2.1 q_10.2.2.1 q_10.2.2.2] H := hP
    have hD : va_D A [cE h_T T_sg T_hi (T_lo + q_10.2.1) T_pl q_10.2.2.2, cE h_U U_sg q_10.1 q_10.2.1 q_10.2.2.1 q_10.2.2.2] := hD
    refine lv_aload_n hx hb d_E_takeLesser_45 rfl (lv_at hl 0 rfl) ?_
    refine lv_dup hx hb d_E_takeLesser_46 rfl ?_
    refine va_get (D := (dC, dI)) (ci := 0) (v := .long T_hi) (C := "RoundedNumbers$Exact") (T := F_E) (N := 5) hx hb hts in_E hown hK hP 0 rfl rfl 1 (by decide) (hts _ tw_23) (fun _ h9 => h9) rfl d_E_takeLesser_47 ?_
    refine lv_aload_n hx hb d_E_takeLesser_50 rfl (lv_at hl 1 rfl) ?_
    refine va_get (D := (dC, dI)) (ci := 0) (v := .long q_10.1) (C := "RoundedNumbers$Exact") (T := F_E) (N := 5) hx hb hts in_E hown hK hP 1 rfl rfl 1 (by decide) (hts _ tw_23) (fun _ h9 => h9) rfl d_E_takeLesser_51 ?_
    refine lv_aload_n hx hb d_E_takeLesser_54 rfl (lv_at hl 0 rfl) ?_
    refine va_get (D := (dC, dI)) (ci := 0) (v := .long (T_lo + q_10.2.1)) (C := "RoundedNumbers$Exact") (T := F_E) (N := 5) hx hb hts in_E hown hK hP 0 rfl rfl 2 (by decide) (hts _ tw_25) (fun _ h9 => h9) rfl d_E_takeLesser_55 ?_
    refine lv_aload_n hx hb d_E_takeLesser_58 rfl (lv_at hl 1 rfl) ?_
    refine va_get (D := (dC, dI)) (ci := 0) (v := .long q_10.2.1) (C := "RoundedNumbers$Exact") (T := F_E) (N := 5) hx hb hts in_E hown hK hP 1 rfl rfl 2 (by decide) (hts _ tw_25) (fun _ h9 => h9) rfl d_E_takeLesser_59 ?_
    obtain ⟨q_62, hC_62, hF⟩ := hbd hF
    have hPc := hP.sub (ws' := []) [] rfl
    have hDc := hD.sub (ws' := []) [] (by decide) rfl
    have hKc := hK.sub (tys' := []) [] rfl
    have hFc := va_free (wc := []) hD hS hA [] rfl
    refine va_calli (va_runS (As := [.long (T_lo + q_10.2.1), .long q_10.2.1]) (rest := [.long q_10.1, .long T_hi, .ref h_T]) ⟨hx, hb, hml, hown, hts⟩ (c_J_compareUnsigned l dC dI H.size (T_lo + q_10.2.1) q_10.2.1 q_62 hC_62) (va_cwS 2 hts g_E_54_JL_compareUnsigned rfl rfl rfl (by decide +kernel) ⟨Nat.le_of_ble_eq_true rfl, Nat.le_of_ble_eq_true rfl⟩) ⟨fun a U g mk q => by obtain ⟨q0, q1, qP, qK, qD⟩ := q; exact ⟨q0, q1, qP, va_K.moved (u := U) (U := U.calling g mk a) (Vm.Alike.refl U.vm) qK, qD⟩, fun U hU hW => ⟨rfl, by rw [hU], by rw [hU]; exact hPc, va_K.moved hW.alike hKc, hDc.weaken (fun _ _ _ _ => trivial)⟩⟩ rfl rfl hl.1 rfl (lv_room (Nat.le_of_ble_eq_true rfl)) d_E_takeLesser_62 ⟨Nat.zero_le _, Nat.zero_le _⟩) hS (fun q _ h => hFc q h) hFc (fun r u t H1 locs ht hvm hw hB hz1 hk1 hS => ?_)
    obtain ⟨hP1, hK1, hD1⟩ := hB
    replace hw := hw.symm
    subst hw
    rw [ht] at hP1
    obtain ⟨hP, hD⟩ := va_join (wr := [cE h_T T_sg T_hi (T_lo + q_10.2.1) T_pl q_10.2.2.2, cE h_U U_sg q_10.1 q_10.2.1 q_10.2.2.1 q_10.2.2.2]) (w1 := []) hP hD [] [0, 1] rfl rfl (by decide) (by decide) hk1 hFc hP1 hD1
    generalize H1 = H at hP hS ⊢
    have hP := hP.sub (ws' := [cE h_T T_sg T_hi (T_lo + q_10.2.1) T_pl q_10.2.2.2, cE h_U U_sg q_10.1 q_10.2.1 q_10.2.2.1 q_10.2.2.2]) [0, 1] rfl
    have hD := hD.sub (ws' := [cE h_T T_sg T_hi (T_lo + q_10.2.1) T_pl q_10.2.2.2, cE h_U U_sg q_10.1 q_10.2.1 q_10.2.2.1 q_10.2.2.2]) [0, 1] (by decide) rfl
    refine lv_if_ge (tgt := 72) hx hb d_E_takeLesser_65 (by decide) (fun c_65 => ?_) (fun c_65 => ?_)
    · replace hF := hif_t c_65 hF
      refine lv_iconst (v := (0 : Int32)) hx hb d_E_takeLesser_72 (by decide) ?_
      refine lv_i2l (v := (0 : Int32).toInt64) hx hb d_E_takeLesser_73 rfl ?_
      refine lv_ladd hx hb d_E_takeLesser_74 ?_
      refine lv_ladd hx hb d_E_takeLesser_75 ?_
      refine va_put (D := (dC, dI)) (ci := 0) (v := .long (T_hi + (q_10.1 + (0 : Int32).toInt64))) (ty := .long) (C := "RoundedNumbers$Exact") (T := F_E) (N := 5) hx hb hts in_E t_E t_E_ok n_E hown hK hP hD hS 0 rfl rfl 1 (by decide) (hts _ tw_23) (fun _ h9 => h9) rfl (by decide +kernel) rfl rfl (Nat.le_of_ble_eq_true rfl) d_E_takeLesser_76 (fun H locs hP hD hS => ?_)
      have hP : va_P (dC, dI) classes [cE h_T T_sg (T_hi + (q_10.1 + (0 : Int32).toInt64)) (T_lo + q_10.2.1) T_pl q_10.2.2.2, cE h_U U_sg q_10.1 q_10.2.1 q_10.2.2.1 q_10.2.2.2] H := hP
      have hD : va_D A [cE h_T T_sg (T_hi + (q_10.1 + (0 : Int32).toInt64)) (T_lo + q_10.2.1) T_pl q_10.2.2.2, cE h_U U_sg q_10.1 q_10.2.1 q_10.2.2.1 q_10.2.2.2] := hD
      obtain rfl := Option.some.inj hF
      exact W.vret hx hb hr (fun t ht hW => ⟨⟨(), rfl, trivial, by rw [ht]; exact hP, va_K.moved hW.alike hK, hD⟩, hS.F ht⟩) hS.2.2 d_E_takeLesser_79
    · replace hF := hif_f c_65 hF
      refine lv_iconst (v := (1 : Int32)) hx hb d_E_takeLesser_68 (by decide) ?_
      refine lv_goto (tgt := 73) hx hb d_E_takeLesser_69 (by decide) ?_
      refine lv_i2l (v := (1 : Int32).toInt64) hx hb d_E_takeLesser_73 rfl ?_
      refine lv_ladd hx hb d_E_takeLesser_74 ?_
      refine lv_ladd hx hb d_E_takeLesser_75 ?_
      refine va_put (D := (dC, dI)) (ci := 0) (v := .long (T_hi + (q_10.1 + (1 : Int32).toInt64))) (ty := .long) (C := "RoundedNumbers$Exact") (T := F_E) (N := 5) hx hb hts in_E t_E t_E_ok n_E hown hK hP hD hS 0 rfl rfl 1 (by decide) (hts _ tw_23) (fun _ h9 => h9) rfl (by decide +kernel) rfl rfl (Nat.le_of_ble_eq_true rfl) d_E_takeLesser_76 (fun H locs hP hD hS => ?_)
      have hP : va_P (dC, dI) classes [cE h_T T_sg (T_hi + (q_10.1 + (1 : Int32).toInt64)) (T_lo + q_10.2.1) T_pl q_10.2.2.2, cE h_U U_sg q_10.1 q_10.2.1 q_10.2.2.1 q_10.2.2.2] H := hP
      have hD : va_D A [cE h_T T_sg (T_hi + (q_10.1 + (1 : Int32).toInt64)) (T_lo + q_10.2.1) T_pl q_10.2.2.2, cE h_U U_sg q_10.1 q_10.2.1 q_10.2.2.1 q_10.2.2.2] := hD
      obtain rfl := Option.some.inj hF
      exact W.vret hx hb hr (fun t ht hW => ⟨⟨(), rfl, trivial, by rw [ht]; exact hP, va_K.moved hW.alike hK, hD⟩, hS.F ht⟩) hS.2.2 d_E_takeLesser_79
set_option maxHeartbeats 4000000 in
set_option maxRecDepth 100000 in
theorem c_E_sum (l : Launch) (dC : Nat → ClassId) (dI : Nat → Nat → Nat) (h_T : Nat) (h_U : Nat) (sz : Nat) (T_sg : Int32) (T_hi : Int64) (T_lo : Int64) (T_pl : Int32) (T_mo : Int32) (U_sg : Int32) (U_hi : Int64) (U_lo : Int64) (U_pl : Int32) (U_mo : Int32) (o : Bool × Int32 × Int64 × Int64 × Int32 × Int32 × Int32 × Int64 × Int64 × Int32 × Int32) (hF : f_E_sum T_sg T_hi T_lo T_pl T_mo U_sg U_hi U_lo U_pl U_mo = some o) : Met l y_E_sum w_E_sum ({ frames := 5, cells := 0, slots := 0, locals := 105 } : Room) (va_Pc [.ref h_T, .ref h_U] (fun U => U.heap.size = sz ∧ va_P (dC, dI) classes [cE h_T T_sg T_hi T_lo T_pl T_mo, cE h_U U_sg U_hi U_lo U_pl U_mo] U.heap ∧ va_K (dC, dI) classes [] U ∧ va_D (fun _ => True) [cE h_T T_sg T_hi T_lo T_pl T_mo, cE h_U U_sg U_hi U_lo U_pl U_mo])) (va_Qr (fun _ : Unit => True) (fun (_ : Unit) (ra : Nat) (t : State) => ((o.1 = true → ra = h_T) ∧ (o.1 = false → ra = h_U)) ∧ va_P (dC, dI) classes [cE h_T o.2.1 o.2.2.1 o.2.2.2.1 o.2.2.2.2.1 o.2.2.2.2.2.1, cE h_U o.2.2.2.2.2.2.1 o.2.2.2.2.2.2.2.1 o.2.2.2.2.2.2.2.2.1 o.2.2.2.2.2.2.2.2.2.1 o.2.2.2.2.2.2.2.2.2.2] t.heap ∧ va_K (dC, dI) classes [] t ∧ va_D (va_A [cE h_T T_sg T_hi T_lo T_pl T_mo, cE h_U U_sg U_hi U_lo U_pl U_mo] sz) [cE h_T o.2.1 o.2.2.1 o.2.2.2.1 o.2.2.2.2.1 o.2.2.2.2.2.1, cE h_U o.2.2.2.2.2.2.1 o.2.2.2.2.2.2.2.1 o.2.2.2.2.2.2.2.2.1 o.2.2.2.2.2.2.2.2.2.1 o.2.2.2.2.2.2.2.2.2.2]) (va_A [cE h_T T_sg T_hi T_lo T_pl T_mo, cE h_U U_sg U_hi U_lo U_pl U_mo] sz)) 0 0 (va_A [cE h_T T_sg T_hi T_lo T_pl T_mo, cE h_U U_sg U_hi U_lo U_pl U_mo] sz) := by
  refine Met.ofW (cc := prog_2_method_6_code) (maxL := 2) (ret := (some (.object "RoundedNumbers$Exact"))) (by decide) rfl ?_
  intro p e s m args below meth c s₁ B hml hv
  obtain ⟨rfl, hsz, hP, hK, hD0⟩ := hv
  have hx := B.exec
  have hb := B.bytes
  have hr := B.returns
  have hts0 := atoms_spec (ws := w_E_sum) B.pre
  have hts : ∀ w ∈ tb, w.before _ s = true := fun w h => hts0 w (List.mem_cons_of_mem _ h)
  clear hts0
  have hown : s.vm.findClass "RoundedNumbers$Exact" = some m.cls := findClass_of_methodNamed B.named
  have hlocks := B.notSynchronized
  subst hsz
  have hD := hD0.self (sz := s.heap.size)
  generalize hAe : va_A [cE h_T T_sg T_hi T_lo T_pl T_mo, cE h_U U_sg U_hi U_lo U_pl U_mo] s.heap.size = A at hD ⊢
  have hA : ∀ q : Nat, s.heap.size ≤ q → A q := fun q h => by rw [← hAe]; exact Or.inr h
  clear hAe
  have hS : va_S A s.heap s.heap [] := va_S.rf
  have hP : va_P (dC, dI) classes [cE h_T T_sg T_hi T_lo T_pl T_mo, cE h_U U_sg U_hi U_lo U_pl U_mo] s.heap := hP
  have hl := lv_entry ([.ref h_T, .ref h_U]) (n := 2) (Nat.le_of_ble_eq_true rfl)
  rw [lg_entry_eq]
  generalize (lg_sl ([.ref h_T, .ref h_U]) ++ List.replicate (2 - (lg_sl ([.ref h_T, .ref h_U])).length) Slot.unset).toArray = ls at hl ⊢
  have hl : lv_has ls 2 [(0, .ref h_T), (1, .ref h_U)] := hl
  unfold f_E_sum at hF
  refine lv_aload_n hx hb d_E_sum_0 rfl (lv_at hl 1 rfl) ?_
  refine va_get (D := (dC, dI)) (ci := 0) (v := .int U_sg) (C := "RoundedNumbers$Exact") (T := F_E) (N := 5) hx hb hts in_E hown hK hP 1 rfl rfl 0 (by decide) (hts _ tw_21) (fun _ h9 => h9) rfl d_E_sum_1 ?_
  refine lv_if_ne (tgt := 9) hx hb d_E_sum_4 (by decide) (fun c_4 => ?_) (fun c_4 => ?_)
  · replace hF := hif_f c_4 hF
    refine lv_aload_n hx hb d_E_sum_9 rfl (lv_at hl 0 rfl) ?_
    refine va_get (D := (dC, dI)) (ci := 0) (v := .int T_sg) (C := "RoundedNumbers$Exact") (T := F_E) (N := 5) hx hb hts in_E hown hK hP 0 rfl rfl 0 (by decide) (hts _ tw_21) (fun _ h9 => h9) rfl d_E_sum_10 ?_
    refine lv_if_ne (tgt := 18) hx hb d_E_sum_13 (by decide) (fun c_13 => ?_) (fun c_13 => ?_)
    · replace hF := hif_f c_13 hF
      refine lv_aload_n hx hb d_E_sum_18 rfl (lv_at hl 0 rfl) ?_
      refine lv_aload_n hx hb d_E_sum_19 rfl (lv_at hl 1 rfl) ?_
      obtain ⟨q_20, hC_20, hF⟩ := hbd hF
      have hPc := hP.sub (ws' := [cE h_T T_sg T_hi T_lo T_pl T_mo, cE h_U U_sg U_hi U_lo U_pl U_mo]) [0, 1] rfl
      have hDc := hD.sub (ws' := [cE h_T T_sg T_hi T_lo T_pl T_mo, cE h_U U_sg U_hi U_lo U_pl U_mo]) [0, 1] (by decide) rfl
      have hKc := hK.sub (tys' := []) [] rfl
      have hFc := va_free (wc := [cE h_T T_sg T_hi T_lo T_pl T_mo, cE h_U U_sg U_hi U_lo U_pl U_mo]) hD hS hA [0, 1] rfl
      refine va_calli (va_runV (As := [.ref h_U]) (rest := []) ⟨hx, hb, hml, hown, hts⟩ (c_E_sizeOrder l dC dI h_T h_U s.heap.size T_sg T_hi T_lo T_pl T_mo U_sg U_hi U_lo U_pl U_mo q_20 hC_20) (cwV 1 hts g_E_43_E_sizeOrder rfl rfl rfl (by decide +kernel) ⟨Nat.le_of_ble_eq_true rfl, Nat.le_of_ble_eq_true rfl⟩) ⟨fun a U g mk q => by obtain ⟨q0, q1, qP, qK, qD⟩ := q; exact ⟨q0, q1, qP, va_K.moved (u := U) (U := U.calling g mk a) (Vm.Alike.refl U.vm) qK, qD⟩, va_recv hKc hPc (ci := 0) (q0 := 0) rfl rfl, fun U hU hW => ⟨rfl, by rw [hU], by rw [hU]; exact hPc, va_K.moved hW.alike hKc, hDc.weaken (fun _ _ _ _ => trivial)⟩⟩ rfl rfl hl.1 rfl (lv_room (Nat.le_of_ble_eq_true rfl)) d_E_sum_20 ⟨Nat.zero_le _, Nat.zero_le _⟩) hS (fun q _ h => hFc q h) hFc (fun r u t H1 locs ht hvm hw hB hz1 hk1 hS => ?_)
      obtain ⟨hP1, hK1, hD1⟩ := hB
      replace hw := hw.symm
      subst hw
      rw [ht] at hP1
      obtain ⟨hP, hD⟩ := va_join (wr := []) (w1 := [cE h_T T_sg q_20.2.1 q_20.2.2.1 q_20.2.2.2.1 q_20.2.2.2.2.1, cE h_U U_sg q_20.2.2.2.2.2.1 q_20.2.2.2.2.2.2.1 q_20.2.2.2.2.2.2.2.1 q_20.2.2.2.2.2.2.2.2]) hP hD [0, 1] [] rfl rfl (by decide) (by decide) hk1 hFc hP1 hD1
      generalize H1 = H at hP hS ⊢
      have hP := hP.sub (ws' := [cE h_T T_sg q_20.2.1 q_20.2.2.1 q_20.2.2.2.1 q_20.2.2.2.2.1, cE h_U U_sg q_20.2.2.2.2.2.1 q_20.2.2.2.2.2.2.1 q_20.2.2.2.2.2.2.2.1 q_20.2.2.2.2.2.2.2.2]) [0, 1] rfl
      have hD := hD.sub (ws' := [cE h_T T_sg q_20.2.1 q_20.2.2.1 q_20.2.2.2.1 q_20.2.2.2.2.1, cE h_U U_sg q_20.2.2.2.2.2.1 q_20.2.2.2.2.2.2.1 q_20.2.2.2.2.2.2.2.1 q_20.2.2.2.2.2.2.2.2]) [0, 1] (by decide) rfl
      refine lv_if_lt (tgt := 33) hx hb d_E_sum_23 (by decide) (fun c_23 => ?_) (fun c_23 => ?_)
      · replace hF := hif_t c_23 hF
        refine lv_aload_n hx hb d_E_sum_33 rfl (lv_at hl 1 rfl) ?_
        refine lv_aload_n hx hb d_E_sum_34 rfl (lv_at hl 0 rfl) ?_
        obtain ⟨q_35, hC_35, hF⟩ := hbd hF
        have hPc := hP.sub (ws' := [cE h_U U_sg q_20.2.2.2.2.2.1 q_20.2.2.2.2.2.2.1 q_20.2.2.2.2.2.2.2.1 q_20.2.2.2.2.2.2.2.2, cE h_T T_sg q_20.2.1 q_20.2.2.1 q_20.2.2.2.1 q_20.2.2.2.2.1]) [1, 0] rfl
        have hDc := hD.sub (ws' := [cE h_U U_sg q_20.2.2.2.2.2.1 q_20.2.2.2.2.2.2.1 q_20.2.2.2.2.2.2.2.1 q_20.2.2.2.2.2.2.2.2, cE h_T T_sg q_20.2.1 q_20.2.2.1 q_20.2.2.2.1 q_20.2.2.2.2.1]) [1, 0] (by decide) rfl
        have hKc := hK.sub (tys' := []) [] rfl
        have hFc := va_free (wc := [cE h_U U_sg q_20.2.2.2.2.2.1 q_20.2.2.2.2.2.2.1 q_20.2.2.2.2.2.2.2.1 q_20.2.2.2.2.2.2.2.2, cE h_T T_sg q_20.2.1 q_20.2.2.1 q_20.2.2.2.1 q_20.2.2.2.2.1]) hD hS hA [1, 0] rfl
        refine va_callv (va_runV (As := [.ref h_T]) (rest := []) ⟨hx, hb, hml, hown, hts⟩ (c_E_takeLesser l dC dI h_U h_T H.size U_sg q_20.2.2.2.2.2.1 q_20.2.2.2.2.2.2.1 q_20.2.2.2.2.2.2.2.1 q_20.2.2.2.2.2.2.2.2 T_sg q_20.2.1 q_20.2.2.1 q_20.2.2.2.1 q_20.2.2.2.2.1 q_35 hC_35) (cwV 1 hts g_E_47_E_takeLesser rfl rfl rfl (by decide +kernel) ⟨Nat.le_of_ble_eq_true rfl, Nat.le_of_ble_eq_true rfl⟩) ⟨fun a U g mk q => by obtain ⟨q0, q1, qP, qK, qD⟩ := q; exact ⟨q0, q1, qP, va_K.moved (u := U) (U := U.calling g mk a) (Vm.Alike.refl U.vm) qK, qD⟩, va_recv hKc hPc (ci := 0) (q0 := 0) rfl rfl, fun U hU hW => ⟨rfl, by rw [hU], by rw [hU]; exact hPc, va_K.moved hW.alike hKc, hDc.weaken (fun _ _ _ _ => trivial)⟩⟩ rfl rfl hl.1 rfl (lv_room (Nat.le_of_ble_eq_true rfl)) d_E_sum_35 ⟨Nat.zero_le _, Nat.zero_le _⟩) hS (fun q _ h => hFc q h) hFc (fun u t H1 locs ht hvm hw hB hz1 hk1 hS => ?_)
        obtain ⟨hP1, hK1, hD1⟩ := hB
        rw [ht] at hP1
        obtain ⟨hP, hD⟩ := va_join (wr := []) (w1 := [cE h_U q_35.1 q_35.2.1 q_35.2.2.1 q_20.2.2.2.2.2.2.2.1 q_35.2.2.2.1, cE h_T T_sg q_35.2.2.2.2.1 q_35.2.2.2.2.2.1 q_35.2.2.2.2.2.2.1 q_35.2.2.2.2.2.2.2]) hP hD [1, 0] [] rfl rfl (by decide) (by decide) hk1 hFc hP1 hD1
        generalize H1 = H at hP hS ⊢
        have hP := hP.sub (ws' := [cE h_T T_sg q_35.2.2.2.2.1 q_35.2.2.2.2.2.1 q_35.2.2.2.2.2.2.1 q_35.2.2.2.2.2.2.2, cE h_U q_35.1 q_35.2.1 q_35.2.2.1 q_20.2.2.2.2.2.2.2.1 q_35.2.2.2.1]) [1, 0] rfl
        have hD := hD.sub (ws' := [cE h_T T_sg q_35.2.2.2.2.1 q_35.2.2.2.2.2.1 q_35.2.2.2.2.2.2.1 q_35.2.2.2.2.2.2.2, cE h_U q_35.1 q_35.2.1 q_35.2.2.1 q_20.2.2.2.2.2.2.2.1 q_35.2.2.2.1]) [1, 0] (by decide) rfl
        refine lv_aload_n hx hb d_E_sum_38 rfl (lv_at hl 1 rfl) ?_
        obtain rfl := Option.some.inj hF
        exact W.aret (v := .ref h_U) hx hb hr (Or.inl ⟨_, rfl⟩) (Or.inr ⟨_, rfl⟩) (fun t ht hW => ⟨⟨(), h_U, rfl, trivial, ⟨fun h => Bool.noConfusion (show false = true from h), fun _ => rfl⟩, by rw [ht]; exact hP, va_K.moved hW.alike hK, hD⟩, hS.F ht⟩) hS.2.2 d_E_sum_39
      · replace hF := hif_f c_23 hF
        refine lv_aload_n hx hb d_E_sum_26 rfl (lv_at hl 0 rfl) ?_
        refine lv_aload_n hx hb d_E_sum_27 rfl (lv_at hl 1 rfl) ?_
        obtain ⟨q_28, hC_28, hF⟩ := hbd hF
        have hPc := hP.sub (ws' := [cE h_T T_sg q_20.2.1 q_20.2.2.1 q_20.2.2.2.1 q_20.2.2.2.2.1, cE h_U U_sg q_20.2.2.2.2.2.1 q_20.2.2.2.2.2.2.1 q_20.2.2.2.2.2.2.2.1 q_20.2.2.2.2.2.2.2.2]) [0, 1] rfl
        have hDc := hD.sub (ws' := [cE h_T T_sg q_20.2.1 q_20.2.2.1 q_20.2.2.2.1 q_20.2.2.2.2.1, cE h_U U_sg q_20.2.2.2.2.2.1 q_20.2.2.2.2.2.2.1 q_20.2.2.2.2.2.2.2.1 q_20.2.2.2.2.2.2.2.2]) [0, 1] (by decide) rfl
        have hKc := hK.sub (tys' := []) [] rfl
        have hFc := va_free (wc := [cE h_T T_sg q_20.2.1 q_20.2.2.1 q_20.2.2.2.1 q_20.2.2.2.2.1, cE h_U U_sg q_20.2.2.2.2.2.1 q_20.2.2.2.2.2.2.1 q_20.2.2.2.2.2.2.2.1 q_20.2.2.2.2.2.2.2.2]) hD hS hA [0, 1] rfl
        refine va_callv (va_runV (As := [.ref h_U]) (rest := []) ⟨hx, hb, hml, hown, hts⟩ (c_E_takeLesser l dC dI h_T h_U H.size T_sg q_20.2.1 q_20.2.2.1 q_20.2.2.2.1 q_20.2.2.2.2.1 U_sg q_20.2.2.2.2.2.1 q_20.2.2.2.2.2.2.1 q_20.2.2.2.2.2.2.2.1 q_20.2.2.2.2.2.2.2.2 q_28 hC_28) (cwV 1 hts g_E_47_E_takeLesser rfl rfl rfl (by decide +kernel) ⟨Nat.le_of_ble_eq_true rfl, Nat.le_of_ble_eq_true rfl⟩) ⟨fun a U g mk q => by obtain ⟨q0, q1, qP, qK, qD⟩ := q; exact ⟨q0, q1, qP, va_K.moved (u := U) (U := U.calling g mk a) (Vm.Alike.refl U.vm) qK, qD⟩, va_recv hKc hPc (ci := 0) (q0 := 0) rfl rfl, fun U hU hW => ⟨rfl, by rw [hU], by rw [hU]; exact hPc, va_K.moved hW.alike hKc, hDc.weaken (fun _ _ _ _ => trivial)⟩⟩ rfl rfl hl.1 rfl (lv_room (Nat.le_of_ble_eq_true rfl)) d_E_sum_28 ⟨Nat.zero_le _, Nat.zero_le _⟩) hS (fun q _ h => hFc q h) hFc (fun u t H1 locs ht hvm hw hB hz1 hk1 hS => ?_)
        obtain ⟨hP1, hK1, hD1⟩ := hB
        rw [ht] at hP1
        obtain ⟨hP, hD⟩ := va_join (wr := []) (w1 := [cE h_T q_28.1 q_28.2.1 q_28.2.2.1 q_20.2.2.2.1 q_28.2.2.2.1, cE h_U U_sg q_28.2.2.2.2.1 q_28.2.2.2.2.2.1 q_28.2.2.2.2.2.2.1 q_28.2.2.2.2.2.2.2]) hP hD [0, 1] [] rfl rfl (by decide) (by decide) hk1 hFc hP1 hD1
        generalize H1 = H at hP hS ⊢
        have hP := hP.sub (ws' := [cE h_T q_28.1 q_28.2.1 q_28.2.2.1 q_20.2.2.2.1 q_28.2.2.2.1, cE h_U U_sg q_28.2.2.2.2.1 q_28.2.2.2.2.2.1 q_28.2.2.2.2.2.2.1 q_28.2.2.2.2.2.2.2]) [0, 1] rfl
        have hD := hD.sub (ws' := [cE h_T q_28.1 q_28.2.1 q_28.2.2.1 q_20.2.2.2.1 q_28.2.2.2.1, cE h_U U_sg q_28.2.2.2.2.1 q_28.2.2.2.2.2.1 q_28.2.2.2.2.2.2.1 q_28.2.2.2.2.2.2.2]) [0, 1] (by decide) rfl
        refine lv_aload_n hx hb d_E_sum_31 rfl (lv_at hl 0 rfl) ?_
        obtain rfl := Option.some.inj hF
        exact W.aret (v := .ref h_T) hx hb hr (Or.inl ⟨_, rfl⟩) (Or.inr ⟨_, rfl⟩) (fun t ht hW => ⟨⟨(), h_T, rfl, trivial, ⟨fun _ => rfl, fun h => Bool.noConfusion (show true = false from h)⟩, by rw [ht]; exact hP, va_K.moved hW.alike hK, hD⟩, hS.F ht⟩) hS.2.2 d_E_sum_32
    · replace hF := hif_t c_13 hF
      refine lv_aload_n hx hb d_E_sum_16 rfl (lv_at hl 1 rfl) ?_
      obtain rfl := Option.some.inj hF
      exact W.aret (v := .ref h_U) hx hb hr (Or.inl ⟨_, rfl⟩) (Or.inr ⟨_, rfl⟩) (fun t ht hW => ⟨⟨(), h_U, rfl, trivial, ⟨fun h => Bool.noConfusion (show false = true from h), fun _ => rfl⟩, by rw [ht]; exact hP, va_K.moved hW.alike hK, hD⟩, hS.F ht⟩) hS.2.2 d_E_sum_17
  · replace hF := hif_t c_4 hF
    refine lv_aload_n hx hb d_E_sum_7 rfl (lv_at hl 0 rfl) ?_
    obtain rfl := Option.some.inj hF
    exact W.aret (v := .ref h_T) hx hb hr (Or.inl ⟨_, rfl⟩) (Or.inr ⟨_, rfl⟩) (fun t ht hW => ⟨⟨(), h_T, rfl, trivial, ⟨fun _ => rfl, fun h => Bool.noConfusion (show true = false from h)⟩, by rw [ht]; exact hP, va_K.moved hW.alike hK, hD⟩, hS.F ht⟩) hS.2.2 d_E_sum_8
