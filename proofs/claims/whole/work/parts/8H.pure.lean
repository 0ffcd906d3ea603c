-- ===== 8H: the beginning =====
theorem x4_loop : ∀ k i n (p c : Nat → Int32), i + k = 48 → k < n → (∀ j, j < i → p j = 1 ∧ c j = 1) → ∃ y, m_X4_init_54 n p c (nI i) = some y ∧ ∀ j, j < 48 → y.1 j = 1 ∧ y.2 j = 1 := by
  intro k
  induction k with
  | zero =>
    intro i n p c h1 h2 h3
    obtain ⟨n, rfl⟩ : ∃ z, n = z + 1 := ⟨n - 1, by omega⟩
    refine ⟨(p, c), ?_, fun j hj => h3 j (by omega)⟩
    rw [m_X4_init_54, if_pos (show (48 : Int32) ≤ nI i from leN_t (a := 48) (by omega) (by omega))]
  | succ k ih =>
    intro i n p c h1 h2 h3
    obtain ⟨n, rfl⟩ : ∃ z, n = z + 1 := ⟨n - 1, by omega⟩
    obtain ⟨y, y1, y2⟩ := ih (i + 1) n (upd p i 1) (upd c i 1) (by omega) (by omega) (fun j hj => by
      by_cases e : j = i
      · rw [e, upd_s, upd_s]
        exact ⟨rfl, rfl⟩
      · rw [upd_n e, upd_n e]
        exact h3 j (by omega))
    refine ⟨y, ?_, y2⟩
    rw [m_X4_init_54, if_neg (show ¬ (48 : Int32) ≤ nI i from leN_f (a := 48) (by omega) (by omega)), inbN (by omega) (by omega), gd_s, bdE, gd_s, bdE, bdE, nI1, clN (by omega)]
    exact y1
theorem x4_init_s : ∃ y, m_X4_init = some y ∧ ∀ j, j < 48 → y.1 j = 1 ∧ y.2 j = 1 := by
  unfold m_X4_init
  exact x4_loop 48 0 4000 _ _ (by omega) (by omega) (fun j hj => by omega)
/-- the first row, so far as it is made -/
def in0 (i j : Nat) : Int32 := if j < 6 * i ∧ (j % 6 = 3 ∨ j % 6 = 5) then 1 else 0
theorem x7_loop : ∀ k i n (s : Nat → Int32), i + k = 48 → k < n → (∀ j, s j = in0 i j) → ∃ y, m_X7_init_57 n s (nI i) = some y ∧ ∀ j, y j = in0 48 j := by
  intro k
  induction k with
  | zero =>
    intro i n s h1 h2 h3
    obtain ⟨n, rfl⟩ : ∃ z, n = z + 1 := ⟨n - 1, by omega⟩
    have e : i = 48 := by omega
    subst e
    refine ⟨s, ?_, h3⟩
    rw [m_X7_init_57, if_pos (show (48 : Int32) ≤ nI 48 from leN_t (a := 48) (by omega) (by omega))]
  | succ k ih =>
    intro i n s h1 h2 h3
    obtain ⟨n, rfl⟩ : ∃ z, n = z + 1 := ⟨n - 1, by omega⟩
    obtain ⟨y, y1, y2⟩ := ih (i + 1) n (upd (upd s (6 * i + 3) 1) (6 * i + 5) 1) (by omega) (by omega) (fun j => by
      unfold in0
      by_cases e : j = 6 * i + 5
      · rw [e, upd_s, if_pos (by omega)]
      · by_cases e2 : j = 6 * i + 3
        · rw [upd_n e, e2, upd_s, if_pos (by omega)]
        · rw [upd_n e, upd_n e2, h3 j]
          unfold in0
          by_cases c : j < 6 * i ∧ (j % 6 = 3 ∨ j % 6 = 5)
          · rw [if_pos c, if_pos (by omega)]
          · rw [if_neg c, if_neg (by omega)])
    refine ⟨y, ?_, y2⟩
    rw [m_X7_init_57, if_neg (show ¬ (48 : Int32) ≤ nI i from leN_f (a := 48) (by omega) (by omega)), of_3, bn_s, inbN (by omega) (by omega), gd_s, bdE, of_5, bn_s, inbN (by omega) (by omega), gd_s, bdE, bdE, nI1, clN (by omega), clN (by omega)]
    exact y1
theorem x7_init_s : ∃ y, m_X7_init = some y ∧ ∀ j, y j = in0 48 j := by
  unfold m_X7_init
  exact x7_loop 48 0 4000 _ (by omega) (by omega) (fun j => by unfold in0; rw [if_neg (by omega)])
theorem x4_init_ok : ∃ y, m_X4_init = some y := by
  obtain ⟨y, h, -⟩ := x4_init_s
  exact ⟨y, h⟩
theorem x7_init_ok : ∃ y, m_X7_init = some y := by
  obtain ⟨y, h, -⟩ := x7_init_s
  exact ⟨y, h⟩
theorem first_RZ {yP : (Nat → Int32) × (Nat → Int32)} {yS : Nat → Int32} (hp : ∀ j, j < 48 → yP.1 j = 1 ∧ yP.2 j = 1) (hs : ∀ j, yS j = in0 48 j) : RZ yS (z0M yP) 0 := by
  have h0 : ∀ j, j % 6 ≠ 3 → j % 6 ≠ 5 → yS j = 0 := fun j h1 h2 => by
    rw [hs j]
    unfold in0
    rw [if_neg (by omega)]
  have h1 : ∀ j, 288 ≤ j → yS j = 0 := fun j h => by
    rw [hs j]
    unfold in0
    rw [if_neg (by omega)]
  have h3 : ∀ a, a < 48 → yS (6 * a + 3) = 1 := fun a h => by
    rw [hs]
    unfold in0
    rw [if_pos (by omega)]
  have h5 : ∀ a, a < 48 → yS (6 * a + 5) = 1 := fun a h => by
    rw [hs]
    unfold in0
    rw [if_pos (by omega)]
  have hz : ∀ p, zs yS p = 0 := fun p => by
    unfold zs
    rw [h1 _ (by omega), cl0]
  have hq : zp yS = 0 := by
    unfold zp
    rw [h1 _ (by omega), cl0]
  refine ⟨⟨⟨fun a ha => ?_, ?_⟩, ⟨fun a ha => ?_, 0, by omega, ?_⟩, ⟨⟨fun p hp => ⟨?_, fun i hi => ?_, fun hi => ?_⟩, ?_, ?_, ?_⟩, fun p hp => ⟨?_, ?_, fun i hi => ?_⟩, ⟨?_, ?_, fun i hi => ?_⟩, ⟨?_, fun i hi => ?_⟩, ⟨0, by omega, ?_, fun p hp hi => ?_⟩, fun p q hp hq hpq hi => ?_⟩, ?_, ?_, ?_, ?_, ?_, ?_, ?_⟩, ?_⟩
  · refine ⟨(h0 _ (by omega) (by omega)).symm, fun g => absurd (h0 _ (by omega) (by omega)) g, (h0 _ (by omega) (by omega)).symm, ?_, (h0 _ (by omega) (by omega)).symm, ?_⟩
    · rw [h3 a ha]
      exact (hp a ha).1
    · rw [h5 a ha]
      exact (hp a ha).2
  · exact (h1 _ (by omega)).symm
  · exact ⟨Or.inl (h0 _ (by omega) (by omega)), fun g => absurd (h0 _ (by omega) (by omega)) g, ⟨1, by omega, by omega, h3 a ha⟩, ⟨1, by omega, h5 a ha⟩⟩
  · exact h1 _ (by omega)
  · exact (h1 _ (by omega)).symm
  · rw [hz] at hi
    omega
  · rw [hz] at hi
    omega
  · exact (h1 _ (by omega)).symm
  · exact (h1 _ (by omega)).symm
  · exact (h1 _ (by omega)).symm
  · rw [hz]
    omega
  · rw [hz]
    exact h1 _ (by omega)
  · rw [hz] at hi
    omega
  · rw [hq]
    omega
  · rw [hq]
    exact h1 _ (by omega)
  · rw [hq] at hi
    omega
  · exact (h1 _ (by omega)).symm
  · rw [hq] at hi
    omega
  · exact h1 _ (by omega)
  · rw [hz] at hi
    omega
  · rw [hz] at hi
    omega
  · exact (h1 _ (by omega)).symm
  · exact (h1 _ (by omega)).symm
  · exact (h1 _ (by omega)).symm
  · exact (h1 _ (by omega)).symm
  · exact (h1 _ (by omega)).symm
  · exact (h1 _ (by omega)).symm
  · exact (h1 _ (by omega)).symm
  · exact (h1 _ (by omega)).symm
theorem first_HR {yP : (Nat → Int32) × (Nat → Int32)} : HR (fun _ => 0) 0 (fun _ => z0M yP) 0 0 0 := ⟨0, 0, by omega, by omega, rfl, rfl, rfl, fun j hj => by omega⟩
