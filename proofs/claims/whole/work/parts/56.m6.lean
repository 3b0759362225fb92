/-! PURE: roundTo, and the sum of two exact numbers -/
theorem round_ok {V : Nat} {p sg : Int} {s : Bool} {bits : Nat} (hb1 : 1 ≤ bits) (hb2 : bits ≤ 53) (hV : V < 2 ^ 128) (hs : s = false ∨ bits < bl V) (hp1 : -90000 < p) (hp2 : p < 90000) :
    ∃ mo, f_E_roundTo (iI sg) (hW V) (lW V) (iI p) (bI s) (iI bits) = some (iI (sg * (rnd bits V p s).2.2), 0, lN (rnd bits V p s).1, iI (rnd bits V p s).2.1, mo) := by
  -- first cut to 62 bits
  obtain ⟨V1, p1, s1, hsd, hV1, hr, hs1, hq1, hq2⟩ : ∃ (V1 : Nat) (p1 : Int) (s1 : Bool), f_E_shiftDown (hW V) (lW V) (iI p) (bI s) (iI (bl V) - 62) = some (hW V1, lW V1, iI p1, bI s1) ∧ V1 < 2 ^ 62 ∧ rnd bits V p s = rnd bits V1 p1 s1 ∧ (s1 = false ∨ bits < bl V1) ∧ -90000 < p1 ∧ p1 < 90100 := by
    have hbl := bl128 hV
    rw [show (62 : Int32) = iI 62 from rfl, iI_sub]
    by_cases h : bl V ≤ 62
    · exact ⟨V, p, s, sD_none (by omega) (by omega), bl_le_iff.mp h, rfl, hs, hp1, by omega⟩
    · have hk : ((bl V : Int) - 62).toNat = bl V - 62 := by omega
      refine ⟨V / 2 ^ (bl V - 62), p + ((bl V : Int) - 62), s || decide (V % 2 ^ (bl V - 62) ≠ 0), ?_, ?_, ?_, ?_, by omega, by omega⟩
      · rw [sD_ok hV (by omega) (by omega), hk]
      · apply bl_le_iff.mp; rw [bl_div]; omega
      · rw [rnd_cut (k := bl V - 62) (by rw [bl_div]; omega)]
        congr 1; omega
      · right; rw [bl_div]; omega
  have h64 : V1 < 2 ^ 64 := by omega
  have hbl1 : bl V1 ≤ 62 := bl_le_iff.mpr hV1
  unfold f_E_roundTo
  rw [len_ok hV]
  simp only [Option.bind_some]
  rw [hsd]
  simp only [Option.bind_some]
  rw [len_ok (by omega)]
  simp only [Option.bind_some]
  rw [iI_sub, hr, lW_s h64, hW_0 h64]
  by_cases hd : bl V1 ≤ bits
  · have hs0 : s1 = false := by
      rcases hs1 with q | q
      · exact q
      · omega
    subst hs0
    rw [if_neg (fun q => by have := (iI_pos (by omega) (by omega)).mp q; omega)]
    refine ⟨bI false, ?_⟩
    unfold rnd
    rw [if_pos hd]
    show some ((0 : Int32), _) = some (iI (sg * 0), _)
    rw [Int.mul_zero]; rfl
  · rw [if_pos ((iI_pos (by omega) (by omega)).mpr (by omega))]
    obtain ⟨d, hd'⟩ : ∃ d : Nat, d = bl V1 - bits := ⟨_, rfl⟩
    have hdz : (bl V1 : Int) - (bits : Int) = (d : Int) := by omega
    have hpl : (2 : Nat) ^ d < 2 ^ 63 := Nat.pow_lt_pow_right (by decide) (by omega)
    have hpp : (2 : Nat) ^ d = 2 * 2 ^ (d - 1) := by rw [Nat.mul_comm, ← Nat.pow_succ]; congr 1; omega
    have hhalf : jshl (1 : Int64) (iI (bl V1 - bits) - 1) = lN (2 ^ (d - 1)) := by
      rw [show (1 : Int32) = iI 1 from rfl, iI_sub, show (1 : Int64) = lN 1 from rfl, jshl_i _ (by omega) (by omega), Nat.one_mul, show ((bl V1 : Int) - (bits : Int) - 1).toNat = d - 1 by omega]
    have htail : lN V1 &&& ((2 : Int64) * lN (2 ^ (d - 1)) - 1) = lN (V1 % 2 ^ d) := by
      rw [show (2 : Int64) = lN 2 from rfl, show (1 : Int64) = lN 1 from rfl, lN_mul, ← hpp, lN_sub (Nat.two_pow_pos d), wb_mask h64 (by omega)]
    rw [hhalf, htail, hdz]
    have hm := Nat.mod_lt V1 (Nat.two_pow_pos d)
    have hc : lg_cmp (lN (V1 % 2 ^ d)) (0 : Int64) = 0 ↔ V1 % 2 ^ d = 0 := cz (by omega)
    have out : ∀ ex : Bool, ((V1 % 2 ^ d = 0 ∧ s1 = false) ↔ ex = true) → ∃ mo, f_E_roundTo_63 (iI d) (lN (2 ^ (d - 1))) (lN (V1 % 2 ^ d)) (bI ex) (iI sg) 0 (lN V1) (iI p1) (bI s1) = some (iI (sg * (rnd bits V1 p1 s1).2.2), 0, lN (rnd bits V1 p1 s1).1, iI (rnd bits V1 p1 s1).2.1, mo) := by
      intro ex hex
      refine ⟨0, ?_⟩
      rw [rt_63 (by omega) (by omega) hV1 (by omega) (by omega)]
      unfold rnd
      rw [if_neg hd, ← hd']
      show some (iI (sg * (if rup V1 d s1 = true then 1 else if ex = true then 0 else -1)), (0 : Int64), lN (V1 / 2 ^ d + (rup V1 d s1).toNat), iI (p1 + d), (0 : Int32)) = some (iI (sg * (if V1 % 2 ^ d = 0 ∧ s1 = false then 0 else if rup V1 d s1 = true then 1 else -1)), 0, lN (V1 / 2 ^ d + (if rup V1 d s1 = true then 1 else 0)), iI (p1 + d), 0)
      have ri := rup_iff V1 d s1
      by_cases hx : V1 % 2 ^ d = 0 ∧ s1 = false
      · have hu : rup V1 d s1 = false := by
          rw [Bool.eq_false_iff]; intro z
          have := Nat.two_pow_pos d
          rcases ri.mp z with q | ⟨q, -⟩ <;> omega
        rw [if_pos hx, hu, if_neg (by decide), if_pos (hex.mp hx)]; rfl
      · rw [if_neg hx, if_neg (fun q => hx (hex.mpr q))]
        cases rup V1 d s1 <;> rfl
    by_cases ht : V1 % 2 ^ d = 0
    · rw [if_pos (hc.mpr ht)]
      cases s1 with
      | false => rw [if_pos (show bI false = 0 from rfl)]; exact out true ⟨fun _ => rfl, fun _ => ⟨ht, rfl⟩⟩
      | true => rw [if_neg (show ¬ bI true = 0 by decide)]; exact out false ⟨fun q => absurd q.2 (by decide), fun q => absurd q (by decide)⟩
    · rw [if_neg (fun q => ht (hc.mp q))]; exact out false ⟨fun q => absurd q.1 ht, fun q => absurd q (by decide)⟩
theorem bl_cmp {a b : Nat} (h : bl a < bl b) : a < b := by
  have hb : b ≠ 0 := fun z => by subst z; simp [bl] at h
  exact Nat.lt_of_lt_of_le (bl_lt a) (Nat.le_trans (Nat.pow_le_pow_right (by decide) (by omega)) (bl_le hb))
