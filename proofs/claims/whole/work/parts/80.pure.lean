-- ===== 80: requirements and characters =====
theorem r_in (x lo hi : Int32) : m_X7_in x lo hi = some (b2i (decide (lo ≤ x) && decide (x ≤ hi))) := by
  unfold m_X7_in m_X7_in_14 m_X7_in_15
  rw [isb_0, isb_1, gd_s, gd_s]
  simp only [i32_nlt]
  by_cases h1 : lo ≤ x
  · by_cases h2 : x ≤ hi
    · simp [h1, h2, b2i]
    · simp [h1, h2, b2i]
  · simp [h1, b2i]
theorem r_holds (tw x : Int32) : m_X7_holds tw x = some (if x = 0 then (1, x) else (0, x)) := by
  unfold m_X7_holds m_X7_holds_14
  rw [isb_0, isb_1, gd_s, gd_s]
  by_cases h : x = 0
  · rw [if_pos h, if_pos h]
  · rw [if_neg h, if_neg h]
def okA (x : Int32) : Bool := decide (0 ≤ x) && decide (x ≤ 47)
theorem r_isA (x : Int32) : m_X7_isAddress x = some (b2i (okA x)) := by
  unfold m_X7_isAddress
  rw [r_in, bn_s, isb_b, gd_s]
  rfl
theorem i32_48 {x : Int32} : (x < 48) = (x ≤ 47) := by
  rw [i32_lt, i32_le, show (48 : Int32).toInt = 48 from rfl, show (47 : Int32).toInt = 47 from rfl]
  exact propext ⟨fun h => by omega, fun h => by omega⟩
theorem k_reqA (x : Int32) : m_X6_requireAddress x = some (if okA x = true then 0 else 1) := by
  unfold m_X6_requireAddress m_X6_requireAddress_10 okA
  have e : (x < 0) = ¬ (0 ≤ x) := i32_nlt
  simp only [i32_48, e]
  by_cases h1 : 0 ≤ x
  · by_cases h2 : x ≤ 47
    · simp [h1, h2]
    · simp [h1, h2]
  · simp [h1]
theorem okA_nI {x : Int32} (h : okA x = true) : ∃ a, a < 48 ∧ x = nI a := by
  unfold okA at h
  simp only [Bool.and_eq_true, decide_eq_true_eq] at h
  obtain ⟨h1, h2⟩ := h
  rw [i32_le, show (0 : Int32).toInt = 0 from rfl] at h1
  rw [i32_le, show (47 : Int32).toInt = 47 from rfl] at h2
  refine ⟨x.toInt.toNat, by omega, Int32.toInt_inj.mp ?_⟩
  rw [nI_toInt (by omega)]
  omega
/-- a text: its characters are from 32 to 126 -/
def TX (T : Nat → Int32) (n : Nat) : Prop := n ≤ 80 ∧ ∀ i, i < n → ∃ c, 32 ≤ c ∧ c ≤ 126 ∧ T i = nI c
/-- the character at a place, 0 past the end -/
def chr (T : Nat → Int32) (n p : Nat) : Nat := if p < n then Int32.toNatClampNeg (T p) else 0
theorem chr_in {T : Nat → Int32} {n p : Nat} (h : TX T n) (hp : p < n) : T p = nI (chr T n p) ∧ 32 ≤ chr T n p ∧ chr T n p ≤ 126 := by
  obtain ⟨c, c1, c2, c3⟩ := h.2 p hp
  unfold chr
  rw [if_pos hp, c3, clN (by omega)]
  exact ⟨rfl, c1, c2⟩
theorem chr_out {T : Nat → Int32} {n p : Nat} (hp : ¬ p < n) : chr T n p = 0 := by unfold chr; rw [if_neg hp]
theorem r_next {T : Nat → Int32} {n p lo hi : Nat} (h : TX T n) (hp : p < 2147483648) (hlo : 1 ≤ lo) (hhi : hi < 2147483648) (hl2 : lo < 2147483648) (wr : Bool) : m_X7_isNext T (nI n) (nI p) (b2i wr) (nI lo) (nI hi) = some (b2i (!wr && (decide (lo ≤ chr T n p) && decide (chr T n p ≤ hi)))) := by
  have hn := h.1
  unfold m_X7_isNext m_X7_isNext_39 m_X7_isNext_40
  rw [isb_0, isb_1, gd_s, gd_s]
  cases wr
  · rw [if_pos (show b2i false = 0 from rfl)]
    by_cases c : p < n
    · obtain ⟨c1, c2, c3⟩ := chr_in h c
      rw [if_neg (leN_f (by omega) c), inbN (by omega) (by omega), gd_s, clN hp, c1, r_in, bn_s]
      have e1 : (nI lo ≤ nI (chr T n p)) = (lo ≤ chr T n p) := leN hl2 (by omega)
      have e2 : (nI (chr T n p) ≤ nI hi) = (chr T n p ≤ hi) := leN (by omega) hhi
      simp only [e1, e2, Bool.not_false, Bool.true_and]
      cases (decide (lo ≤ chr T n p) && decide (chr T n p ≤ hi)) <;> rfl
    · rw [if_pos (leN_t hp (by omega)), chr_out c]
      have e : decide (lo ≤ 0) = false := decide_eq_false (by omega)
      rw [e]
      rfl
  · rw [if_neg (show ¬ b2i true = 0 by decide)]
    rfl
theorem k_here {X T : Nat → Int32} {n p : Nat} (h : TX T n) (hX : ∀ i, i < n → X i = T i) (hp : p < 2147483648) : m_X5_here X (nI n) (nI p) = some (if p < n then nI (chr T n p) else -1) := by
  have hn := h.1
  unfold m_X5_here m_X5_here_24
  by_cases c : p < n
  · rw [if_neg (leN_f (by omega) c), inbN (by omega) (by omega), gd_s, clN hp, hX p c, if_pos c, (chr_in h c).1]
  · rw [if_pos (leN_t hp (by omega)), if_neg c]
