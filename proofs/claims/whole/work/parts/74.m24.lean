/-! PURE: the reference: its state, bits, narrow, store, finish -/
abbrev yO (st : ASt) : Nat → Int64 := fun i => lN (od (st.2.1 i))
abbrev yN (st : ASt) : Nat → Int32 := fun i => iI (ez (st.2.1 i))
abbrev yB (st : ASt) : Nat → Int32 := fun i => bI (st.1 i)
abbrev YR (g : Int32 × ASt) : Int32 × Int32 × Int32 × Int32 × (Nat → Int64) × (Nat → Int32) × (Nat → Int32) := (g.1, g.2.2.2.1, g.2.2.2.2.1, g.2.2.2.2.2, yO g.2, yN g.2, yB g.2)
theorem cN_le {a b : Nat} (ha : a < 2 ^ 63) (hb : b < 2 ^ 63) : lg_cmp (lN a) (lN b) ≤ 0 ↔ a ≤ b := (lg_cmp_le _ _).trans (pk_lLE ha hb)
theorem cN_ge {a b : Nat} (ha : a < 2 ^ 63) (hb : b < 2 ^ 63) : 0 ≤ lg_cmp (lN a) (lN b) ↔ b ≤ a := (lg_cmp_ge _ _).trans (pk_lLE hb ha)
theorem cN_gt {a b : Nat} (ha : a < 2 ^ 63) (hb : b < 2 ^ 63) : 0 < lg_cmp (lN a) (lN b) ↔ b < a := (lg_cmp_gt _ _).trans (pk_lLT hb ha)
theorem cN_lt {a b : Nat} (ha : a < 2 ^ 63) (hb : b < 2 ^ 63) : lg_cmp (lN a) (lN b) < 0 ↔ a < b := (lg_cmp_lt _ _).trans (pk_lLT ha hb)
theorem cN_eq {a b : Nat} (ha : a < 2 ^ 63) (hb : b < 2 ^ 63) : lg_cmp (lN a) (lN b) = 0 ↔ a = b := (lg_cmp_eq _ _).trans (pk_lEQ ha hb)
theorem c0_le {a : Nat} (ha : a < 2 ^ 63) : lg_cmp (lN a) (0 : Int64) ≤ 0 ↔ a = 0 := (cN_le (b := 0) ha (by decide)).trans (by omega)
theorem c0_eq {a : Nat} (ha : a < 2 ^ 63) : lg_cmp (lN a) (0 : Int64) = 0 ↔ a = 0 := cN_eq (b := 0) ha (by decide)
theorem half {n : Nat} (h : n < 2 ^ 63) : lN n / (2 : Int64) = lN (n / 2) := pk_lDiv (b := 2) h (by decide) (by decide)
theorem par {n : Nat} (h : n < 2 ^ 63) : lN n - lN n / (2 : Int64) * (2 : Int64) = lN (n % 2) := pk_lRem (b := 2) h (by decide) (by decide)
theorem out_ok (a : Int32) : f_Y_out a = some (bI (!decide (okr a))) := by
  unfold f_Y_out
  have e1 : (a < 0) ↔ a.toInt < 0 := by rw [Int32.lt_iff_toInt_lt, Int32.toInt_zero]
  have e2 : (a ≤ (7 : Int32)) ↔ a.toInt ≤ 7 := by rw [Int32.le_iff_toInt_le]; rfl
  by_cases h1 : a.toInt < 0
  · rw [if_pos (e1.mpr h1), decide_eq_false (by omega)]; rfl
  · rw [if_neg (fun q => h1 (e1.mp q))]
    by_cases h2 : a.toInt ≤ 7
    · rw [if_pos (e2.mpr h2), decide_eq_true (by omega)]; rfl
    · rw [if_neg (fun q => h2 (e2.mp q)), decide_eq_false (by omega)]; rfl
theorem out_t {a : Int32} (h : okr a) : f_Y_out a = some 0 := by rw [out_ok, decide_eq_true h]; rfl
theorem out_f {a : Int32} (h : ¬ okr a) : f_Y_out a = some 1 := by rw [out_ok, decide_eq_false h]; rfl
theorem bits_4 : ∀ (k : Nat) (n : Nat) (c : Int), n < 2 ^ 63 → bl n < k → f_Y_bits_4 k (iI c) (lN n) = some (iI (c + bl n)) := by
  intro k
  induction k with
  | zero => intro n c _ h; omega
  | succ k ih =>
    intro n c hn hk
    rw [f_Y_bits_4]
    by_cases h : n = 0
    · subst h; rw [if_pos ((c0_le (by decide)).mpr rfl), bl_0]; congr 2; omega
    · have hb := bl_div n 1
      have hp := bl_pos h
      rw [if_neg (fun q => h ((c0_le hn).mp q)), show (1 : Int32) = iI 1 from rfl, iI_add, jshr_i hn (by decide) (by decide), show (1 : Int).toNat = 1 from rfl, ih _ _ (by omega) (by omega), hb]
      congr 2; omega
theorem bits_ok {n : Nat} (h : n < 2 ^ 63) : f_Y_bits (lN n) = some (iI (bl n)) := by
  unfold f_Y_bits
  have : bl n ≤ 63 := bl_le_iff.mpr h
  rw [show (0 : Int32) = iI 0 from rfl, bits_4 1000 n 0 h (by omega)]; congr 2; omega
theorem inR_ok {m : Nat} {e : Int} (h : m < 2 ^ 63) (he1 : -100000 < e) (he2 : e < 100000) : f_Y_inRange (lN m) (iI e) = some (bI (decide (-100 ≤ (bl m : Int) - 1 + e ∧ (bl m : Int) - 1 + e < 100))) := by
  unfold f_Y_inRange
  have hb : bl m ≤ 63 := bl_le_iff.mpr h
  rw [bits_ok h, Option.bind_some, show (1 : Int32) = iI 1 from rfl, show (0 : Int32) = bI false from rfl, iI_sub, iI_add, show (100 : Int32) = iI 100 from rfl, iI_neg]
  by_cases h1 : (bl m : Int) - 1 + e < -100
  · rw [if_pos ((iI_lt (by omega) (by omega) (by decide) (by decide)).mpr h1), decide_eq_false (by omega)]
  · rw [if_neg (fun q => h1 ((iI_lt (by omega) (by omega) (by decide) (by decide)).mp q))]
    by_cases h2 : 100 ≤ (bl m : Int) - 1 + e
    · rw [if_pos ((iI_le (by decide) (by decide) (by omega) (by omega)).mpr h2), decide_eq_false (by omega)]
    · rw [if_neg (fun q => h2 ((iI_le (by decide) (by decide) (by omega) (by omega)).mp q)), decide_eq_true (by omega)]; rfl
theorem size_Y (a : Int32) : f_Y_size a = some (iI (bitsOf a)) := by
  unfold f_Y_size bitsOf
  by_cases h : a = 0
  · rw [if_pos h, if_pos h]; rfl
  · rw [if_neg h, if_neg h]; rfl
/-- the facts of a register's odd part -/
theorem od_facts {v : Nat} (hv : vok v) : od v < 2 ^ 53 ∧ val (od v) (ez v) = v ∧ -152 ≤ ez v ∧ ez v ≤ 99 ∧ (od v = 0 ↔ v = 0) ∧ (v ≠ 0 → od v % 2 = 1 ∧ (bl v : Int) = bl (od v) + ez v + 2000 ∧ v = od v * 2 ^ tz v ∧ (tz v : Int) = ez v + 2000) := by
  by_cases h0 : v = 0
  · subst h0; decide +kernel
  · obtain ⟨o, s, ho, e1, e2, e3, e4⟩ := mt_odd hv h0
    have hf := reg_facts hv
    have hez : ez v = (tz v : Int) - 2000 := by unfold ez; rw [if_neg h0]
    have ho0 : o ≠ 0 := by omega
    have hs : 1 ≤ 2 ^ s := Nat.one_le_two_pow
    have hole : o ≤ o * 2 ^ s := Nat.le_mul_of_pos_right _ (Nat.two_pow_pos s)
    have hval : val o (ez v) = v := by
      have hw := hf.2.1
      rw [e1] at hw
      refine Eq.trans ?_ hw
      unfold val
      rw [Nat.mul_assoc, ← Nat.pow_add]; congr 2; omega
    have hbl := val_bl (n := o) (e := ez v) ho0
    rw [hval] at hbl
    have hbo : bl (o * 2 ^ s) = bl o + s := bl_mul _ _ ho0
    have hbm : bl (mt v) ≤ 53 := bl_le_iff.mpr hf.1
    rw [e1] at hbm
    have hpo := bl_pos ho0
    rw [e2]
    refine ⟨by omega, hval, by omega, by omega, by omega, fun _ => ⟨ho, by omega, ?_, by omega⟩⟩
    have hw := hval
    unfold val at hw
    rw [show (ez v + 2000).toNat = tz v by omega] at hw
    exact hw.symm
theorem odd_mod {o t k : Nat} (ho : o % 2 = 1) : o * 2 ^ t % 2 ^ k = 0 ↔ k ≤ t := by
  constructor
  · intro h
    refine Nat.le_of_not_lt (fun q => ?_)
    rw [show k = t + (k - t) by omega, cut_mod, Nat.mul_mod_left, Nat.zero_add, Nat.mul_div_cancel _ (Nat.two_pow_pos t)] at h
    have hz : o % 2 ^ (k - t) = 0 := by
      rcases Nat.mul_eq_zero.mp h with y | y
      · have := Nat.two_pow_pos t; omega
      · exact y
    have : o % 2 = 0 := by
      have hd : 2 ∣ 2 ^ (k - t) := by
        rw [show k - t = (k - t - 1) + 1 by omega, Nat.pow_succ]; exact Nat.dvd_mul_left _ _
      have := Nat.dvd_trans hd (Nat.dvd_of_mod_eq_zero hz)
      exact Nat.mod_eq_zero_of_dvd this
    omega
  · intro h; exact mul_pow_mod o h
theorem nrw_od {v : Nat} (hv : vok v) : nrw v ↔ od v < 2 ^ 24 := by
  have hf := od_facts hv
  by_cases h0 : v = 0
  · subst h0; decide +kernel
  · obtain ⟨f1, f2, f3, f4⟩ := hf.2.2.2.2.2 h0
    unfold nrw
    rw [← bl_le_iff]
    have ho : od v ≠ 0 := by omega
    have hp := bl_pos ho
    have hb := bl_mul (od v) (tz v) ho
    rw [← f3] at hb
    have : v % 2 ^ (bl v - 24) = 0 ↔ bl v - 24 ≤ tz v := by
      have := odd_mod (t := tz v) (k := bl v - 24) f1
      rw [← f3] at this; exact this
    rw [this]; omega
theorem nar_Y {st : ASt} (hI : Inv st) {i : Nat} (hi : i < 8) : f_Y_narrow (yO st) (nI i) = some (bI (decide (nrw (st.2.1 i)))) := by
  unfold f_Y_narrow
  have hf := od_facts (hI i).1
  rw [if_neg (in8 hi), cl8 hi, show (16777216 : Int64) = lN (2 ^ 24) from rfl]
  have hc : 0 ≤ lg_cmp (yO st i) (lN (2 ^ 24)) ↔ 2 ^ 24 ≤ od (st.2.1 i) := cN_ge (by omega) (by decide)
  have hn := nrw_od (hI i).1
  by_cases h : 2 ^ 24 ≤ od (st.2.1 i)
  · rw [if_pos (hc.mpr h), decide_eq_false (fun q => by have := hn.mp q; omega)]; rfl
  · rw [if_neg (fun q => h (hc.mp q)), decide_eq_true (hn.mpr (by omega))]; rfl
theorem yO_up (st : ASt) (d : Nat) (b : Bool) (v : Nat) (x : Int32 × Int32 × Int32) : vp_updL (yO st) d (lN (od v)) = yO (va_up st.1 d b, va_up st.2.1 d v, x) := by
  funext j; by_cases h : j = d <;> simp [vp_updL, va_up, yO, h]
theorem yN_up (st : ASt) (d : Nat) (b : Bool) (v : Nat) (x : Int32 × Int32 × Int32) : upd (yN st) d (iI (ez v)) = yN (va_up st.1 d b, va_up st.2.1 d v, x) := by
  funext j; by_cases h : j = d <;> simp [upd, va_up, yN, h]
theorem yB_up (st : ASt) (d : Nat) (b : Bool) (v : Nat) (x : Int32 × Int32 × Int32) : upd (yB st) d (bI b) = yB (va_up st.1 d b, va_up st.2.1 d v, x) := by
  funext j; by_cases h : j = d <;> simp [upd, va_up, yB, h]
theorem nar_b (b : Bool) : vp_nar .boolean (bI b) = bI b := by cases b <;> decide
theorem st_39 {d : Nat} (hd : d < 8) {ng : Bool} {o : Nat} {e : Int} {O : Nat → Int64} {N B : Nat → Int32} (ho : o < 2 ^ 63) : f_Y_store_39 (nI d) (bI ng) (lN o) (iI e) O N B = some (vp_updL O d (lN o), upd N d (iI (if o = 0 then 0 else e)), upd B d (bI (ng && decide (o ≠ 0)))) := by
  unfold f_Y_store_39
  rw [if_neg (in8 hd), cl8 hd]
  have h65 : ∀ y : Int, f_Y_store_65 (nI d) (bI ng) (lN o) (iI y) (nI d) (vp_updL O d (lN o)) N B = some (vp_updL O d (lN o), upd N d (iI y), upd B d (bI (ng && decide (o ≠ 0)))) := by
    intro y
    unfold f_Y_store_65
    simp only [if_neg (in8 hd)]
    rw [cl8 hd, show vp_nar .boolean (0 : Int32) = bI false by decide, show vp_nar .boolean (1 : Int32) = bI true by decide]
    cases ng
    · rw [if_pos (show bI false = 0 from rfl)]; rfl
    · rw [if_neg (show ¬ bI true = 0 by decide)]
      by_cases h : o = 0
      · rw [if_pos ((c0_le ho).mpr h), decide_eq_false (fun q => q h)]; rfl
      · rw [if_neg (fun q => h ((c0_le ho).mp q)), decide_eq_true h]; rfl
  by_cases h : o = 0
  · rw [if_pos ((c0_eq ho).mpr h), if_pos h]; exact h65 0
  · rw [if_neg (fun q => h ((c0_eq ho).mp q)), if_neg h]; exact h65 e
theorem st_7 {d : Nat} {ng : Bool} {o : Nat} {O : Nat → Int64} {N B : Nat → Int32} (ho : o % 2 = 1) : ∀ (k t : Nat) (e : Int), t < k → o * 2 ^ t < 2 ^ 63 → f_Y_store_7 k (nI d) (bI ng) (lN (o * 2 ^ t)) (iI e) O N B = f_Y_store_39 (nI d) (bI ng) (lN o) (iI (e + t)) O N B := by
  intro k
  induction k with
  | zero => intro t e h; omega
  | succ k ih =>
    intro t e hk hw
    rw [f_Y_store_7]
    have h0 : o * 2 ^ t ≠ 0 := Nat.ne_of_gt (Nat.mul_pos (by omega) (Nat.two_pow_pos t))
    rw [if_neg (fun q => h0 ((c0_le hw).mp q)), par hw, half hw]
    cases t with
    | zero =>
      rw [Nat.pow_zero, Nat.mul_one, if_neg (fun q => by have := (c0_eq (by omega)).mp q; omega)]
      rw [show e + ((0 : Nat) : Int) = e by omega]
    | succ t =>
      have e1 : o * 2 ^ (t + 1) = o * 2 ^ t * 2 := by rw [Nat.pow_succ, Nat.mul_assoc]
      rw [e1, if_pos ((c0_eq (by omega)).mpr (Nat.mul_mod_left _ _)), Nat.mul_div_cancel _ (by decide), show (1 : Int32) = iI 1 from rfl, iI_add, ih t (e + 1) (by omega) (by omega)]
      rw [show e + 1 + (t : Int) = e + ((t + 1 : Nat) : Int) by omega]
theorem od_val {o t : Nat} {e : Int} (ho : o % 2 = 1) (he : -2000 ≤ e) : od (val (o * 2 ^ t) e) = o ∧ ez (val (o * 2 ^ t) e) = e + t := by
  have e1 : val (o * 2 ^ t) e = o * 2 ^ (t + (e + 2000).toNat) := by unfold val; rw [Nat.mul_assoc, ← Nat.pow_add]
  have h := tz_eq (t := t + (e + 2000).toNat) ho
  rw [e1]
  refine ⟨h.2, ?_⟩
  unfold ez
  rw [if_neg (Nat.ne_of_gt (Nat.mul_pos (by omega) (Nat.two_pow_pos _))), h.1]; omega
theorem store_Y {st : ASt} {d : Nat} (hd : d < 8) {ng : Bool} {m : Nat} {e : Int} (x : Int32 × Int32 × Int32) (hm : m < 2 ^ 63) (he : m ≠ 0 → -2000 ≤ e) : f_Y_store (yO st) (yN st) (yB st) (nI d) (bI ng) (lN m) (iI e) = some (yO (va_up st.1 d (ng && decide (val m e ≠ 0)), va_up st.2.1 d (val m e), x), yN (va_up st.1 d (ng && decide (val m e ≠ 0)), va_up st.2.1 d (val m e), x), yB (va_up st.1 d (ng && decide (val m e ≠ 0)), va_up st.2.1 d (val m e), x)) := by
  unfold f_Y_store
  rw [← yO_up, ← yN_up, ← yB_up]
  by_cases h : m = 0
  · subst h
    rw [show val 0 e = 0 from Nat.zero_mul _, f_Y_store_7, if_pos ((c0_le (by decide)).mpr rfl), st_39 hd (by decide), if_pos rfl]
    rfl
  · obtain ⟨o, t, ho, e1⟩ := ex_odd m h
    have h0 : ¬ val m e = 0 := fun q => h (val_0.mp q)
    obtain ⟨v1, v2⟩ := od_val (t := t) ho (he h)
    rw [← e1] at v1 v2
    rw [v1, v2, decide_eq_true h0]
    have ht : t < 1000 := by
      have hb := bl_mul o t (by omega)
      rw [← e1] at hb
      have : bl m ≤ 63 := bl_le_iff.mpr hm
      omega
    have hle : o ≤ o * 2 ^ t := Nat.le_mul_of_pos_right _ (Nat.two_pow_pos t)
    rw [e1, st_7 ho 1000 t e ht (by rw [← e1]; exact hm), st_39 hd (by omega), if_neg (show ¬ o = 0 by omega), decide_eq_true (show o ≠ 0 by omega)]
theorem fin_Y {st : ASt} {d : Nat} (hd : d < 8) {ng : Bool} {m : Nat} {e c : Int} (hm : m < 2 ^ 63) (he1 : -2000 ≤ e) (he2 : e < 90000) (hc : c = -1 ∨ c = 0 ∨ c = 1) : f_Y_finish st.2.2.1 st.2.2.2.1 st.2.2.2.2 (yO st) (yN st) (yB st) (nI d) (bI ng) (lN m) (iI e) (iI c) = some (YR (gop st d ng (val m e) c)) := by
  unfold f_Y_finish
  have h20 : inr (val m e) → f_Y_finish_20 (nI d) (bI ng) (lN m) (iI e) (iI c) st.2.2.1 st.2.2.2.1 st.2.2.2.2 (yO st) (yN st) (yB st) = some (YR (gop st d ng (val m e) c)) := by
    intro hi
    unfold f_Y_finish_20 gop
    rw [if_pos hi, store_Y hd (iI (if ng = true then -c else c), (if c = 0 then st.2.2.2.1 else st.2.2.2.1 + 1), st.2.2.2.2) hm (fun _ => he1), Option.bind_some]
    unfold f_Y_finish_42
    have hc0 : iI c = 0 ↔ c = 0 := iI_eq0 (by omega) (by omega)
    by_cases c0 : c = 0
    · rw [if_pos (hc0.mpr c0), if_pos (hc0.mpr c0), if_pos c0]
      cases ng
      · rfl
      · rw [if_neg (by decide), iI_neg]; rfl
    · rw [if_neg (fun q => c0 (hc0.mp q)), if_neg (fun q => c0 (hc0.mp q)), if_neg c0]
      cases ng
      · rfl
      · rw [if_neg (by decide), iI_neg]; rfl
  by_cases h : m = 0
  · rw [if_pos ((c0_eq hm).mpr h)]
    exact h20 (Or.inl (val_0.mpr h))
  · rw [if_neg (fun q => h ((c0_eq hm).mp q)), inR_ok hm (by omega) (by omega), Option.bind_some]
    have hb := val_bl (e := e) h
    have hp := bl_pos h
    by_cases hr : -100 ≤ (bl m : Int) - 1 + e ∧ (bl m : Int) - 1 + e < 100
    · rw [decide_eq_true hr, if_neg (show ¬ bI true = 0 by decide)]
      exact h20 (Or.inr (by omega))
    · rw [decide_eq_false hr, if_pos (show bI false = 0 from rfl)]
      have hi : ¬ inr (val m e) := by
        rintro (q | q)
        · exact h (val_0.mp q)
        · exact hr (by omega)
      unfold gop
      rw [if_neg hi]
      rfl
