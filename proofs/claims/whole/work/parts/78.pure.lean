-- ===== 78: saving =====
theorem RZ_congr {s t : Nat → Int32} {z : zMT} {B : Nat} (h : ∀ j, j < 389 → t j = s j) (hz : RZ s z B) : RZ t z B := by
  obtain ⟨⟨hP, hI, hM, v1, v2, v3, v4, v5, v6, v7⟩, v8⟩ := hz
  exact ⟨⟨PR_congr (fun j hj => h j (by omega)) hP, PI_congr (fun j hj => h j (by omega)) hI, MR_congr (fun j h1 h2 => h j (by omega)) (h _ (by omega)) (h _ (by omega)) hM, by rw [h _ (by omega)]; exact v1, by rw [h _ (by omega)]; exact v2, by rw [h _ (by omega)]; exact v3, by rw [h _ (by omega)]; exact v4, by rw [h _ (by omega)]; exact v5, by rw [h _ (by omega)]; exact v6, by rw [h _ (by omega)]; exact v7⟩, by rw [h _ (by omega)]; exact v8⟩
theorem RZ_mono {s : Nat → Int32} {z : zMT} {B B' : Nat} (hB : B ≤ B') (hz : RZ s z B) : RZ s z B' := by
  obtain ⟨⟨hP, hI, hM, v⟩, v8⟩ := hz
  exact ⟨⟨hP, hI, MR_mono hB hM, v⟩, v8⟩
/-- the saved machines -/
def HR (sv : Nat → Int32) (mn : Int32) (H : Nat → zMT) (od si : Int32) (B : Nat) : Prop := ∃ m o, m ≤ 6 ∧ o < 6 ∧ mn = nI m ∧ si = nI m ∧ od = nI o ∧ ∀ j, j < m → RZ (fun i => sv (389 * j + i)) (H ((o + j) % 6)) B
theorem HR_mono {sv : Nat → Int32} {mn : Int32} {H : Nat → zMT} {od si : Int32} {B B' : Nat} (hB : B ≤ B') (h : HR sv mn H od si B) : HR sv mn H od si B' := by
  obtain ⟨m, o, h1, h2, h3, h4, h5, h6⟩ := h
  exact ⟨m, o, h1, h2, h3, h4, h5, fun j hj => RZ_mono hB (h6 j hj)⟩
theorem r_save_row {s : Nat → Int32} {m : Nat} (hm : m < 6) : ∀ k i n (sv : Nat → Int32), i + k = 389 → k < n → ∃ u, m_X7_save_52 s n sv (nI m) (nI i) = some (u, nI (m + 1)) ∧ (∀ l, i ≤ l → l < 389 → u (389 * m + l) = s l) ∧ ∀ j, (j < 389 * m + i ∨ 389 * m + 389 ≤ j) → u j = sv j := by
  have hl : (389 : Int32) * nI m = nI (389 * m) := pk_mul 389 m
  intro k
  induction k with
  | zero =>
    intro i n sv h1 h2
    obtain ⟨n, rfl⟩ : ∃ z, n = z + 1 := ⟨n - 1, by omega⟩
    refine ⟨sv, ?_, fun l h3 h4 => by omega, fun j _ => rfl⟩
    rw [m_X7_save_52, if_pos (show (389 : Int32) ≤ nI i from leN_t (a := 389) (by omega) (by omega)), bdE, nI1]
  | succ k ih =>
    intro i n sv h1 h2
    obtain ⟨n, rfl⟩ : ∃ z, n = z + 1 := ⟨n - 1, by omega⟩
    obtain ⟨u, a1, a2, a3⟩ := ih (i + 1) n (upd sv (389 * m + i) (s i)) (by omega) (by omega)
    refine ⟨u, ?_, fun l h3 h4 => ?_, fun j hj => ?_⟩
    · rw [m_X7_save_52, if_neg (show ¬ (389 : Int32) ≤ nI i from leN_f (a := 389) (by omega) (by omega)), hl, nI_add, inbN (by omega) (by omega), gd_s, inbN (by omega) (by omega), gd_s, clN (by omega), clN (by omega), bdE, bdE, nI1]
      exact a1
    · by_cases e : l = i
      · rw [e, a3 _ (by omega), upd_s]
      · exact a2 l (by omega) h4
    · rw [a3 j (by omega), upd_n (by omega)]
theorem r_shift {s : Nat → Int32} {mn : Int32} : ∀ k i n (sv : Nat → Int32), i + k = 1945 → k < n → ∃ u, m_X7_save_11 s n sv mn (nI i) = m_X7_save_50 s u (mn - 1) ∧ (∀ l, i ≤ l → l < 1945 → u l = sv (l + 389)) ∧ ∀ j, (j < i ∨ 1945 ≤ j) → u j = sv j := by
  intro k
  induction k with
  | zero =>
    intro i n sv h1 h2
    obtain ⟨n, rfl⟩ : ∃ z, n = z + 1 := ⟨n - 1, by omega⟩
    refine ⟨sv, ?_, fun l h3 h4 => by omega, fun j _ => rfl⟩
    rw [m_X7_save_11, if_pos (show (1945 : Int32) ≤ nI i from leN_t (a := 1945) (by omega) (by omega)), bdE]
  | succ k ih =>
    intro i n sv h1 h2
    obtain ⟨n, rfl⟩ : ∃ z, n = z + 1 := ⟨n - 1, by omega⟩
    have ha : nI i + 389 = nI (i + 389) := nI_add i 389
    obtain ⟨u, a1, a2, a3⟩ := ih (i + 1) n (upd sv i (sv (i + 389))) (by omega) (by omega)
    refine ⟨u, ?_, fun l h3 h4 => ?_, fun j hj => ?_⟩
    · rw [m_X7_save_11, if_neg (show ¬ (1945 : Int32) ≤ nI i from leN_f (a := 1945) (by omega) (by omega)), bdE, ha, inbN (by omega) (by omega), gd_s, inbN (by omega) (by omega), gd_s, clN (by omega), clN (by omega), bdE, bdE, nI1]
      exact a1
    · by_cases e : l = i
      · rw [e, a3 _ (by omega), upd_s]
      · rw [a2 l (by omega) h4, upd_n (by omega)]
    · rw [a3 j (by omega), upd_n (by omega)]
theorem mod6N {a : Nat} (ha : a < 2147483648) : nI a - nI a / 6 * 6 = nI (a % 6) := modN (d := 6) ha (by omega) (by omega)
theorem save_sim {s : Nat → Int32} {z : zMT} {B : Nat} (hz : RZ s z B) {sv : Nat → Int32} {mn : Int32} {H : Nat → zMT} {od si : Int32} (hH : HR sv mn H od si B) :
    ∃ sv' mn' H' od' si', m_X7_save s sv mn = some (sv', mn') ∧ m_X2_save z.1 z.2.1 z.2.2.1 z.2.2.2.1 z.2.2.2.2.1 z.2.2.2.2.2.1 z.2.2.2.2.2.2.1 z.2.2.2.2.2.2.2.1 z.2.2.2.2.2.2.2.2.1 z.2.2.2.2.2.2.2.2.2.1 z.2.2.2.2.2.2.2.2.2.2.1 z.2.2.2.2.2.2.2.2.2.2.2.1 z.2.2.2.2.2.2.2.2.2.2.2.2.1 z.2.2.2.2.2.2.2.2.2.2.2.2.2.1 z.2.2.2.2.2.2.2.2.2.2.2.2.2.2.1 z.2.2.2.2.2.2.2.2.2.2.2.2.2.2.2.1 z.2.2.2.2.2.2.2.2.2.2.2.2.2.2.2.2.1 z.2.2.2.2.2.2.2.2.2.2.2.2.2.2.2.2.2.1 z.2.2.2.2.2.2.2.2.2.2.2.2.2.2.2.2.2.2.1 z.2.2.2.2.2.2.2.2.2.2.2.2.2.2.2.2.2.2.2.1 z.2.2.2.2.2.2.2.2.2.2.2.2.2.2.2.2.2.2.2.2.1 z.2.2.2.2.2.2.2.2.2.2.2.2.2.2.2.2.2.2.2.2.2.1 z.2.2.2.2.2.2.2.2.2.2.2.2.2.2.2.2.2.2.2.2.2.2 H od si = some (H', od', si') ∧ HR sv' mn' H' od' si' B := by
  obtain ⟨m, o, h1, h2, h3, h4, h5, h6⟩ := hH
  subst h3 h4 h5
  obtain ⟨z', c1, c2⟩ := copy_ok z (H ((o + m) % 6))
  have hv : nI o + nI m - (nI o + nI m) / 6 * 6 = nI ((o + m) % 6) := by rw [nI_add, mod6N (by omega)]
  have hlt : (o + m) % 6 < 6 := Nat.mod_lt _ (by decide)
  have ho1 : nI o + 1 - (nI o + 1) / 6 * 6 = nI ((o + 1) % 6) := by rw [nI1, mod6N (by omega)]
  have ek : m_X2_save z.1 z.2.1 z.2.2.1 z.2.2.2.1 z.2.2.2.2.1 z.2.2.2.2.2.1 z.2.2.2.2.2.2.1 z.2.2.2.2.2.2.2.1 z.2.2.2.2.2.2.2.2.1 z.2.2.2.2.2.2.2.2.2.1 z.2.2.2.2.2.2.2.2.2.2.1 z.2.2.2.2.2.2.2.2.2.2.2.1 z.2.2.2.2.2.2.2.2.2.2.2.2.1 z.2.2.2.2.2.2.2.2.2.2.2.2.2.1 z.2.2.2.2.2.2.2.2.2.2.2.2.2.2.1 z.2.2.2.2.2.2.2.2.2.2.2.2.2.2.2.1 z.2.2.2.2.2.2.2.2.2.2.2.2.2.2.2.2.1 z.2.2.2.2.2.2.2.2.2.2.2.2.2.2.2.2.2.1 z.2.2.2.2.2.2.2.2.2.2.2.2.2.2.2.2.2.2.1 z.2.2.2.2.2.2.2.2.2.2.2.2.2.2.2.2.2.2.2.1 z.2.2.2.2.2.2.2.2.2.2.2.2.2.2.2.2.2.2.2.2.1 z.2.2.2.2.2.2.2.2.2.2.2.2.2.2.2.2.2.2.2.2.2.1 z.2.2.2.2.2.2.2.2.2.2.2.2.2.2.2.2.2.2.2.2.2.2 H (nI o) (nI m) = if m = 6 then some (va_up H ((o + m) % 6) z', nI ((o + 1) % 6), nI m) else some (va_up H ((o + m) % 6) z', nI o, nI (m + 1)) := by
    unfold m_X2_save
    rw [bdE, hv, inbN hlt (by omega), gd_s, clN (by omega), c1, bn_s, bdE, bdE, ho1, nI1]
    by_cases e : m = 6
    · rw [if_pos e, if_pos (show (6 : Int32) ≤ nI m from leN_t (a := 6) (by omega) (by omega))]
    · rw [if_neg e, if_neg (show ¬ (6 : Int32) ≤ nI m from leN_f (a := 6) (by omega) (by omega))]
  have e6 : (nI m = 6) = (m = 6) := eqN (b := 6) (by omega) (by omega)
  by_cases e : m = 6
  · obtain ⟨u, a1, a2, a3⟩ := r_shift (s := s) (mn := nI m) 1945 0 4000 sv (by omega) (by omega)
    obtain ⟨u2, b1, b2, b3⟩ := r_save_row (s := s) (m := 5) (by omega) 389 0 4000 u (by omega) (by omega)
    have e5 : nI m - 1 = nI 5 := by rw [sub1N (by omega), e]
    refine ⟨u2, nI 6, va_up H ((o + m) % 6) z', nI ((o + 1) % 6), nI m, ?_, by rw [ek, if_pos e], 6, (o + 1) % 6, by omega, Nat.mod_lt _ (by decide), rfl, by rw [e], rfl, fun j hj => ?_⟩
    · unfold m_X7_save
      simp only [e6]
      rw [if_pos e]
      refine Eq.trans a1 ?_
      rw [e5]
      unfold m_X7_save_50
      exact b1
    · by_cases e9 : j = 5
      · have ei : ((o + 1) % 6 + j) % 6 = (o + m) % 6 := by omega
        rw [ei, va_up_self]
        refine RZ_congr (fun i hi => ?_) (c2 s B hz)
        show u2 (389 * j + i) = s i
        rw [e9]
        exact b2 i (by omega) hi
      · have ei : ((o + 1) % 6 + j) % 6 ≠ (o + m) % 6 := by omega
        rw [va_up_ne _ _ ei]
        have ej : ((o + 1) % 6 + j) % 6 = (o + (j + 1)) % 6 := by omega
        rw [ej]
        refine RZ_congr (fun i hi => ?_) (h6 (j + 1) (by omega))
        show u2 (389 * j + i) = sv (389 * (j + 1) + i)
        rw [b3 _ (by omega), a2 _ (by omega) (by omega), show 389 * j + i + 389 = 389 * (j + 1) + i by omega]
  · obtain ⟨u2, b1, b2, b3⟩ := r_save_row (s := s) (m := m) (by omega) 389 0 4000 sv (by omega) (by omega)
    refine ⟨u2, nI (m + 1), va_up H ((o + m) % 6) z', nI o, nI (m + 1), ?_, by rw [ek, if_neg e], m + 1, o, by omega, h2, rfl, rfl, rfl, fun j hj => ?_⟩
    · unfold m_X7_save
      simp only [e6]
      rw [if_neg e]
      unfold m_X7_save_50
      exact b1
    · by_cases e9 : j = m
      · rw [e9, va_up_self]
        exact RZ_congr (fun i hi => b2 i (by omega) hi) (c2 s B hz)
      · have ei : (o + j) % 6 ≠ (o + m) % 6 := by omega
        rw [va_up_ne _ _ ei]
        exact RZ_congr (fun i hi => b3 _ (by omega)) (h6 j (by omega))
