/-! PURE: X's root, going on -/
theorem pfx_lt {sq : Nat} (h : sq < 2 ^ 54) (t : Nat) : pfx sq t < 4 ^ t := by
  unfold pfx
  rw [Nat.div_lt_iff_lt_mul (Nat.pow_pos (by decide)), Nat.mul_comm]
  exact Nat.mul_lt_mul_of_pos_left (show sq < 4 ^ 27 from h) (Nat.pow_pos (by decide))
theorem r_lt {r t : Nat} (h : r * r < 4 ^ t) : r < 2 ^ t := by
  rcases Nat.lt_or_ge r (2 ^ t) with q | q
  · exact q
  · have := sq_mono q
    rw [← Nat.mul_pow, show 2 * 2 = 4 from rfl] at this
    omega
theorem hr_44 {k : (Int64) → (Int32) → (Int64) → (Int64) → (Int64) → (Int32) → (Int32) → (Int64) → (Int64) → (Int32) → (Int32) → Option (Int32 × Int64 × Int64 × Int32 × Int32)} {x1 : Int64} {x3 : Int32} {x4 : Int64} {r l dg : Nat} {z : Int} {sg : Int32} {hi lo : Int64} {pl mo : Int32} (hr : r < 2 ^ 57) (hl : l ≤ 2 * r) (hd : dg < 4) :
    f_E_holdRoot_44 k x1 x3 x4 (lN r) (lN l) (iI z) (lN dg) sg hi lo pl mo = if 4 * l + dg < 4 * r + 1 then k x1 x3 x4 (lN (2 * r)) (lN (4 * l + dg)) (iI (z + -1)) sg hi lo pl mo else k x1 x3 x4 (lN (2 * r + 1)) (lN (4 * l + dg - (4 * r + 1))) (iI (z + -1)) sg hi lo pl mo := by
  unfold f_E_holdRoot_44
  rw [show (2 : Int32) = iI 2 from rfl, jshl_i _ (by decide) (by decide), jshl_i _ (by decide) (by decide), show (1 : Int32) = iI 1 from rfl, jshl_i _ (by decide) (by decide), iI_neg, iI_add, show (1 : Int64) = lN 1 from rfl]
  show (if lg_cmp (lN (l * 2 ^ 2) ||| lN dg) (lN (r * 2 ^ 2) ||| lN 1) < 0 then k x1 x3 x4 (lN (r * 2 ^ 1)) (lN (l * 2 ^ 2) ||| lN dg) (iI (z + -1)) sg hi lo pl mo else k x1 x3 x4 (lN (r * 2 ^ 1) ||| lN 1) ((lN (l * 2 ^ 2) ||| lN dg) - (lN (r * 2 ^ 2) ||| lN 1)) (iI (z + -1)) sg hi lo pl mo) = _
  rw [g_or (k := 2) rfl hd (by omega), g_or (k := 2) rfl (show 1 < 2 ^ 2 by decide) (by omega), g_or (k := 1) rfl (show 1 < 2 ^ 1 by decide) (by omega)]
  have e1 : l * 2 ^ 2 + dg = 4 * l + dg := by omega
  have e2 : r * 2 ^ 2 + 1 = 4 * r + 1 := by omega
  have e3 : r * 2 ^ 1 = 2 * r := by omega
  rw [e1, e2, e3]
  have hc : lg_cmp (lN (4 * l + dg)) (lN (4 * r + 1)) < 0 ↔ 4 * l + dg < 4 * r + 1 := by rw [lg_cmp_lt]; exact pk_lLT (by omega) (by omega)
  by_cases c : 4 * l + dg < 4 * r + 1
  · rw [if_pos (hc.mpr c), if_pos c]
  · rw [if_neg (fun q => c (hc.mp q)), if_neg c, lN_sub (by omega)]
theorem hr_loop {sq : Nat} (hsq : sq < 2 ^ 54) {m e : Int} (hm : m.natAbs < 2 ^ 62) (he1 : -10000 < e) (he2 : e < 10000) (sg : Int32) (hi lo : Int64) (pl mo : Int32) :
    ∀ (f t r l : Nat), t ≤ 56 → 56 - t < f → r * r + l = pfx sq t → l ≤ 2 * r → f_E_holdRoot_17 f (lI m) (iI e) (lN sq) (lN r) (lN l) (iI (26 - t)) sg hi lo pl mo = some (iI m.sign, 0, lN (isq (pfx sq 56)), iI ((e - e % 2) / 2 - 29), bI (decide (isq (pfx sq 56) * isq (pfx sq 56) ≠ pfx sq 56))) := by
  intro f
  induction f with
  | zero => intro t r l _ h; omega
  | succ f ih =>
    intro t r l ht hf hrl hl
    rw [f_E_holdRoot_17]
    have hrb : r < 2 ^ t := r_lt (by have := pfx_lt hsq t; omega)
    have hp56 : (2 : Nat) ^ t ≤ 2 ^ 56 := pow_mono ht
    rw [show (-29 : Int32) = iI (-29) by decide]
    by_cases h56 : t = 56
    · subst h56
      rw [if_pos ((iI_lt (by decide) (by decide) (by decide) (by decide)).mpr (by decide)), signum_ok (by omega) (by omega), Option.bind_some]
      have hR : isq (pfx sq 56) = r := isq_eq (by omega) (by rw [← hrl, Nat.add_mul, Nat.mul_add]; omega)
      rw [hR]
      have hz : lg_cmp (lN l) (0 : Int64) = 0 ↔ l = 0 := cz (by omega)
      have hpl : (iI e - (iI e &&& (1 : Int32))) / (2 : Int32) - (29 : Int32) = iI ((e - e % 2) / 2 - 29) := by
        rw [and1 e (by omega) (by omega), iI_sub]
        obtain ⟨k, hk⟩ : ∃ k, e - e % 2 = 2 * k := ⟨(e - e % 2) / 2, by omega⟩
        rw [hk, half_i k (by omega) (by omega), show (29 : Int32) = iI 29 from rfl, iI_sub]
        congr 1; omega
      rw [hpl]
      by_cases hl0 : l = 0
      · rw [if_pos (hz.mpr hl0), decide_eq_false (by omega)]; rfl
      · rw [if_neg (fun q => hl0 (hz.mp q)), decide_eq_true (by omega)]; rfl
    · have ht55 : t < 56 := by omega
      rw [if_neg (fun q => by have := (iI_lt (by omega) (by omega) (by decide) (by decide)).mp q; omega)]
      have hs := pfx_s sq t
      have fin : ∀ dg : Nat, dg < 4 → pfx sq (t + 1) = 4 * pfx sq t + dg → f_E_holdRoot_44 (f_E_holdRoot_17 f) (lI m) (iI e) (lN sq) (lN r) (lN l) (iI (26 - t)) (lN dg) sg hi lo pl mo = some (iI m.sign, 0, lN (isq (pfx sq 56)), iI ((e - e % 2) / 2 - 29), bI (decide (isq (pfx sq 56) * isq (pfx sq 56) ≠ pfx sq 56))) := by
        intro dg hd hs
        rw [hr_44 (by omega) hl hd]
        obtain ⟨s1, s2⟩ := hr_step hl hd
        rw [show (26 : Int) - (t : Int) + -1 = 26 - ((t + 1 : Nat) : Int) by omega]
        by_cases c : 4 * l + dg < 4 * r + 1
        · rw [if_pos c]
          obtain ⟨u1, u2⟩ := s1 c
          exact ih (t + 1) _ _ (by omega) (by omega) (by rw [hs, ← hrl]; exact u1) u2
        · rw [if_neg c]
          obtain ⟨u1, u2⟩ := s2 (by omega)
          exact ih (t + 1) _ _ (by omega) (by omega) (by rw [hs, ← hrl]; exact u1) u2
      by_cases h26 : t ≤ 26
      · rw [if_neg (fun q => by have := (iI_lt0 (by omega) (by omega)).mp q; omega), show (2 : Int32) = iI 2 from rfl, iI_mul, jshr_i (by omega) (by omega) (by omega), show (3 : Int64) = lN (2 ^ 2 - 1) from rfl, wb_mask (Nat.lt_of_le_of_lt (Nat.div_le_self _ _) (by omega)) (by decide)]
        refine fin _ (Nat.mod_lt _ (by decide)) ?_
        rw [hs, if_pos h26, pow4, show (2 * ((26 : Int) - (t : Int))).toNat = 2 * (26 - t) by omega]
      · rw [if_pos ((iI_lt0 (by omega) (by omega)).mpr (by omega)), show (0 : Int64) = lN 0 from rfl]
        refine fin 0 (by decide) ?_
        rw [hs, if_neg h26]
theorem holdR_ok (sg : Int32) (hi lo : Int64) (pl mo : Int32) {n : Nat} {e : Int} (hn : n < 2 ^ 53) (he1 : -10000 < e) (he2 : e < 10000) : f_E_holdRoot sg hi lo pl mo (lI n) (iI e) = some (iI (n : Int).sign, hW (isq (n * 2 ^ (e % 2).toNat * 2 ^ 58)), lW (isq (n * 2 ^ (e % 2).toNat * 2 ^ 58)), iI ((e - e % 2) / 2 - 29), bI (decide (isq (n * 2 ^ (e % 2).toNat * 2 ^ 58) * isq (n * 2 ^ (e % 2).toNat * 2 ^ 58) ≠ n * 2 ^ (e % 2).toNat * 2 ^ 58))) := by
  unfold f_E_holdRoot
  have hsq : n * 2 ^ (e % 2).toNat < 2 ^ 54 := by
    have : (2 : Nat) ^ (e % 2).toNat ≤ 2 ^ 1 := pow_mono (by omega)
    calc n * 2 ^ (e % 2).toNat ≤ n * 2 ^ 1 := Nat.mul_le_mul_left _ this
      _ < 2 ^ 54 := by omega
  have h56 : pfx (n * 2 ^ (e % 2).toNat) 56 = n * 2 ^ (e % 2).toNat * 2 ^ 58 := by
    unfold pfx
    rw [show (4 : Nat) ^ 56 = 2 ^ 58 * 4 ^ 27 by decide, ← Nat.mul_assoc, Nat.mul_div_cancel _ (Nat.pow_pos (by decide))]
  have L := hr_loop hsq (m := n) (e := e) (by simp; omega) he1 he2 sg hi lo pl mo 1000 0 0 0 (by decide) (by decide) (by rw [pfx_0 hsq]) (by decide)
  rw [h56] at L
  have hB : isq (n * 2 ^ (e % 2).toNat * 2 ^ 58) < 2 ^ 64 := by
    have h1 := (isq_spec (n * 2 ^ (e % 2).toNat * 2 ^ 58)).1
    have := r_lt (r := isq (n * 2 ^ (e % 2).toNat * 2 ^ 58)) (t := 56) (Nat.lt_of_le_of_lt h1 (by
      calc n * 2 ^ (e % 2).toNat * 2 ^ 58 < 2 ^ 54 * 2 ^ 58 := Nat.mul_lt_mul_of_pos_right hsq (by decide)
        _ = 4 ^ 56 := by decide))
    omega
  rw [and1 e (by omega) (by omega), lI_lN, jshl_i _ (by omega) (by omega), hW_0 hB, lW_s hB]
  rw [lI_lN] at L
  exact L
def rN (v : Nat) : Nat := isq (v * 2 ^ 2000)
def rS (v : Nat) : Bool := decide (isq (v * 2 ^ 2000) * isq (v * 2 ^ 2000) ≠ v * 2 ^ 2000)
theorem rt_val {v : Nat} (hv : vok v) : Rep (rN v) (rS v) (isq (mt v * 2 ^ (pz v % 2).toNat * 2 ^ 58)) ((pz v - pz v % 2) / 2 - 29) (decide (isq (mt v * 2 ^ (pz v % 2).toNat * 2 ^ 58) * isq (mt v * 2 ^ (pz v % 2).toNat * 2 ^ 58) ≠ mt v * 2 ^ (pz v % 2).toNat * 2 ^ 58)) := by
  have fv := reg_facts hv
  have a := fv.2.1
  unfold val at a
  obtain ⟨q, hq⟩ : ∃ q : Nat, (q : Int) = (pz v - pz v % 2) / 2 - 29 + 2000 := ⟨((pz v - pz v % 2) / 2 - 29 + 2000).toNat, by omega⟩
  have e : v * 2 ^ 2000 = mt v * 2 ^ (pz v % 2).toNat * 2 ^ 58 * (2 ^ q * 2 ^ q) := by
    conv => lhs; rw [← a]
    rw [Nat.mul_assoc, ← Nat.pow_add, ← Nat.pow_add, Nat.mul_assoc, ← Nat.pow_add, Nat.mul_assoc, ← Nat.pow_add]
    congr 2; omega
  obtain ⟨r1, r2⟩ := isq_rep (mt v * 2 ^ (pz v % 2).toNat * 2 ^ 58) q
  rw [← e] at r1 r2
  exact ⟨q, hq, r1.symm, r2⟩
theorem rt_s {v : Nat} (hv : vok v) : isq (mt v * 2 ^ (pz v % 2).toNat * 2 ^ 58) < 2 ^ 64 ∧ ((rS v = false ∧ decide (isq (mt v * 2 ^ (pz v % 2).toNat * 2 ^ 58) * isq (mt v * 2 ^ (pz v % 2).toNat * 2 ^ 58) ≠ mt v * 2 ^ (pz v % 2).toNat * 2 ^ 58) = false) ∨ 53 < bl (isq (mt v * 2 ^ (pz v % 2).toNat * 2 ^ 58))) ∧ (v = 0 → isq (mt v * 2 ^ (pz v % 2).toNat * 2 ^ 58) = 0) := by
  have fv := reg_facts hv
  have hsq : mt v * 2 ^ (pz v % 2).toNat < 2 ^ 54 := by
    have : (2 : Nat) ^ (pz v % 2).toNat ≤ 2 ^ 1 := pow_mono (by omega)
    calc mt v * 2 ^ (pz v % 2).toNat ≤ mt v * 2 ^ 1 := Nat.mul_le_mul_left _ this
      _ < 2 ^ 54 := by omega
  obtain ⟨h1, h2⟩ := isq_spec (mt v * 2 ^ (pz v % 2).toNat * 2 ^ 58)
  refine ⟨?_, ?_, ?_⟩
  · have := r_lt (r := isq (mt v * 2 ^ (pz v % 2).toNat * 2 ^ 58)) (t := 56) (Nat.lt_of_le_of_lt h1 (by
      calc mt v * 2 ^ (pz v % 2).toNat * 2 ^ 58 < 2 ^ 54 * 2 ^ 58 := Nat.mul_lt_mul_of_pos_right hsq (by decide)
        _ = 4 ^ 56 := by decide))
    omega
  · by_cases z : v = 0
    · left
      subst z
      rw [fv.2.2.2.2.1.mpr rfl]
      refine ⟨?_, ?_⟩
      · unfold rS; rw [Nat.zero_mul]; rfl
      · rw [Nat.zero_mul, Nat.zero_mul]; rfl
    · right
      have m52 := fv.2.2.2.2.2 z
      apply bl_lt_iff.mpr
      have hB : 2 ^ 110 ≤ mt v * 2 ^ (pz v % 2).toNat * 2 ^ 58 := by
        calc 2 ^ 110 = 2 ^ 52 * 1 * 2 ^ 58 := by decide
          _ ≤ mt v * 2 ^ (pz v % 2).toNat * 2 ^ 58 := Nat.mul_le_mul_right _ (Nat.mul_le_mul m52 (Nat.two_pow_pos _))
      rcases Nat.lt_or_ge (isq (mt v * 2 ^ (pz v % 2).toNat * 2 ^ 58)) (2 ^ 53) with q | q
      · have h3 := sq_mono (show isq (mt v * 2 ^ (pz v % 2).toNat * 2 ^ 58) + 1 ≤ 2 ^ 53 from q)
        have h4 : (2 : Nat) ^ 53 * 2 ^ 53 < 2 ^ 110 := by decide
        exact absurd (Nat.lt_of_lt_of_le h2 h3) (by
          intro c
          exact absurd (Nat.lt_of_le_of_lt hB c) (Nat.not_lt.mpr (Nat.le_of_lt h4)))
      · exact q
  · intro z
    subst z
    rw [fv.2.2.2.2.1.mpr rfl, Nat.zero_mul, Nat.zero_mul]; rfl
abbrev root_in (st : ASt) (a1 a2 a3 : Int32) : Prop := tk st a1 a2 a2 a3 ∧ st.1 (ix a2) = false
def A_root (st : ASt) (a1 a2 a3 : Int32) : Int32 × ASt := if root_in st a1 a2 a3 then aop st (ix a1) (zz st (ix a2)).sign (rN (st.2.1 (ix a2))) (rS (st.2.1 (ix a2))) (bitsOf a3) else (-1, st)
theorem A_root_t {st : ASt} {a1 a2 a3 : Int32} (h : root_in st a1 a2 a3) : A_root st a1 a2 a3 = aop st (ix a1) (zz st (ix a2)).sign (rN (st.2.1 (ix a2))) (rS (st.2.1 (ix a2))) (bitsOf a3) := if_pos h
theorem A_root_f {st : ASt} {a1 a2 a3 : Int32} (h : ¬ root_in st a1 a2 a3) : A_root st a1 a2 a3 = (-1, st) := if_neg h
theorem X_root_ok {st : ASt} (hI : Inv st) (e1 : Int32) (e2 e3 : Int64) (e4 e5 a1 a2 a3 : Int32) : ∃ j1 j2 j3 j4 j5, f_X_root st.2.2.1 st.2.2.2.1 st.2.2.2.2 (xM st) (xP st) e1 e2 e3 e4 e5 a1 a2 a3 = some ((A_root st a1 a2 a3).1, (A_root st a1 a2 a3).2.2.2.1, (A_root st a1 a2 a3).2.2.2.2.1, (A_root st a1 a2 a3).2.2.2.2.2, xM (A_root st a1 a2 a3).2, xP (A_root st a1 a2 a3).2, j1, j2, j3, j4, j5) := by
  unfold f_X_root
  rw [may_ok hI, Option.bind_some]
  by_cases h : tk st a1 a2 a2 a3
  · rw [decide_eq_true h, if_neg (show ¬ bI true = 0 by decide)]
    obtain ⟨d, hd, rfl⟩ := okr_nI h.1
    obtain ⟨i, hi, rfl⟩ := okr_nI h.2.1
    have hvi := (hI i).1
    have hfi := reg_facts hvi
    have hge := mz_ge hvi (st.1 i) (hI i).2
    have hMi : xM st (nI i).toNatClampNeg = lI (mz (st.1 i) (st.2.1 i)) := by rw [cl8 hi]; rfl
    have hPi : xP st (nI i).toNatClampNeg = iI (pz (st.2.1 i)) := by rw [cl8 hi]; rfl
    rw [if_neg (in8 hi), hMi]
    by_cases hb : st.1 i = false
    · have hin : root_in st (nI d) (nI i) a3 := ⟨h, by rw [ix, cl8 hi]; exact hb⟩
      have hA := A_root_t hin
      rw [ix, ix, cl8 hi, cl8 hd] at hA
      rw [if_pos (hge.mpr hb), if_neg (in8 hi), if_neg (in8 hi), hPi]
      have hmz : mz (st.1 i) (st.2.1 i) = (mt (st.2.1 i) : Int) := by rw [mz_mt, hb]; rfl
      have hx := holdR_ok e1 e2 e3 e4 e5 (n := mt (st.2.1 i)) (e := pz (st.2.1 i)) hfi.1 (by omega) (by omega)
      rw [← hmz] at hx
      rw [mz_sign hvi, ← zz_sign] at hx
      have hp1 : -1990 ≤ (pz (st.2.1 i) - pz (st.2.1 i) % 2) / 2 - 29 := by omega
      have hp2 : (pz (st.2.1 i) - pz (st.2.1 i) % 2) / 2 - 29 < 5000 := by omega
      obtain ⟨hQ, hs, hz⟩ := rt_s hvi
      exact fin_bind hd a3 hx (sign_3 (zz st i)) (fun q => hz (by rw [zz_sign, sgn_0] at q; exact q)) (Nat.lt_of_lt_of_le hQ (by decide)) (rt_val hvi) hs hp1 hp2 hA
    · rw [if_neg (fun q => hb (hge.mp q)), A_root_f (fun q => hb (by have := q.2; rw [ix, cl8 hi] at this; exact this))]
      exact ⟨_, _, _, _, _, rfl⟩
  · rw [decide_eq_false h, if_pos (show bI false = 0 from rfl), A_root_f (fun q => h q.1)]
    exact ⟨_, _, _, _, _, rfl⟩
