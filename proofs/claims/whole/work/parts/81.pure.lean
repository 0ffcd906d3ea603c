-- ===== 81: numbers in a text =====
def num (T : Nat → Int32) (n p lo hi : Nat) : Option (Nat × Nat) :=
  if 48 + lo ≤ chr T n p ∧ chr T n p ≤ 57 then
    (if 0 < chr T n p - 48 ∧ 48 ≤ chr T n (p + 1) ∧ chr T n (p + 1) ≤ 57 ∧ 10 * (chr T n p - 48) + (chr T n (p + 1) - 48) ≤ hi then some (10 * (chr T n p - 48) + (chr T n (p + 1) - 48), p + 2) else some (chr T n p - 48, p + 1))
  else none
theorem chr_lt {T : Nat → Int32} {n p : Nat} (h : 0 < chr T n p) : p < n := by
  by_cases c : p < n
  · exact c
  · rw [chr_out c] at h
    omega
theorem r_takes {T : Nat → Int32} {n p lo hi : Nat} (h : TX T n) (hp : p < 2147483647) (hlo : 1 ≤ lo) (hhi : hi < 2147483648) (hl2 : lo < 2147483648) (wr : Bool) : m_X7_takes T (nI n) (nI p) (b2i wr) (nI lo) (nI hi) = some (if (!wr && (decide (lo ≤ chr T n p) && decide (chr T n p ≤ hi))) = true then (nI (chr T n p - lo), nI (p + 1), 0) else (0, nI p, 1)) := by
  have hn := h.1
  have e0 : nI p + 0 = nI p := nI_add p 0
  unfold m_X7_takes m_X7_takes_26 m_X7_takes_42 m_X7_takes_58 m_X7_takes_63
  rw [r_next h (by omega) hlo hhi hl2, bn_s, isb_0, isb_1]
  simp only [gd_s, bdE, e0, nI1]
  cases wr
  · by_cases c : lo ≤ chr T n p ∧ chr T n p ≤ hi
    · have hpn := chr_lt (T := T) (n := n) (p := p) (by omega)
      have e : (!false && (decide (lo ≤ chr T n p) && decide (chr T n p ≤ hi))) = true := by simp [c.1, c.2]
      rw [e, if_neg (show ¬ b2i true = 0 by decide), if_pos rfl, inbN (by omega) (by omega), gd_s, clN (by omega), (chr_in h hpn).1, pk_sub c.1]
      rfl
    · have e : (!false && (decide (lo ≤ chr T n p) && decide (chr T n p ≤ hi))) = false := by
        simp only [Bool.not_false, Bool.true_and, Bool.and_eq_false_iff, decide_eq_false_iff_not]
        omega
      rw [e]
      simp [b2i]
  · rfl
theorem r_num_loop {T : Nat → Int32} {x1 : Int32} {n p hi k : Nat} (h : TX T n) (hp : p < 100000) (hi2 : hi ≤ 99) {v : Nat} (hv : v ≤ 99) (wr : Bool) : m_X7_number_13 T (nI n) x1 (nI hi) (k + 1) (nI p) (b2i wr) (nI v) = if (wr = false ∧ 0 < v ∧ 48 ≤ chr T n p ∧ chr T n p ≤ 57 ∧ 10 * v + (chr T n p - 48) ≤ hi) then m_X7_number_13 T (nI n) x1 (nI hi) k (nI (p + 1)) (b2i wr) (nI (10 * v + (chr T n p - 48))) else some (nI v, nI p, b2i wr) := by
  have hn := h.1
  rw [m_X7_number_13]
  unfold m_X7_number_80
  have e0 : (nI v ≤ 0) = (v = 0) := leN0 (by omega)
  have e48 : m_X7_isNext T (nI n) (nI p) (b2i wr) 48 57 = some (b2i (!wr && (decide (48 ≤ chr T n p) && decide (chr T n p ≤ 57)))) := r_next (lo := 48) (hi := 57) h (by omega) (by omega) (by omega) (by omega) wr
  rw [e48, bn_s]
  simp only [e0]
  by_cases c0 : v = 0
  · rw [if_pos c0, if_neg (by omega)]
  · rw [if_neg c0]
    by_cases c : wr = false ∧ 48 ≤ chr T n p ∧ chr T n p ≤ 57
    · obtain ⟨c1, c2, c3⟩ := c
      subst c1
      have hpn := chr_lt (T := T) (n := n) (p := p) (by omega)
      have e : (!false && (decide (48 ≤ chr T n p) && decide (chr T n p ≤ 57))) = true := by simp [c2, c3]
      have ev : (10 : Int32) * nI v + nI (chr T n p) - 48 = nI (10 * v + (chr T n p - 48)) := by
        rw [show (10 : Int32) * nI v = nI (10 * v) from pk_mul 10 v, nI_add, show (48 : Int32) = nI 48 from rfl, pk_sub (by omega)]
        congr 1
        omega
      rw [e, if_neg (show ¬ b2i true = 0 by decide), inbN (by omega) (by omega), gd_s, clN (by omega), (chr_in h hpn).1, gd_s, ev, bdE, bdE, nI1]
      have el : (nI hi < nI (10 * v + (chr T n p - 48))) = (hi < 10 * v + (chr T n p - 48)) := ltN (by omega) (by omega)
      simp only [el]
      by_cases c4 : hi < 10 * v + (chr T n p - 48)
      · rw [if_pos c4, if_neg (by omega)]
      · rw [if_neg c4, if_pos ⟨trivial, by omega, c2, c3, by omega⟩]
    · have e : (!wr && (decide (48 ≤ chr T n p) && decide (chr T n p ≤ 57))) = false := by
        cases wr
        · simp only [Bool.not_false, Bool.true_and, Bool.and_eq_false_iff, decide_eq_false_iff_not]
          have : ¬ (48 ≤ chr T n p ∧ chr T n p ≤ 57) := fun g => c ⟨rfl, g⟩
          omega
        · rfl
      rw [e, if_pos (show b2i false = 0 from rfl), if_neg (fun g => c ⟨g.1, g.2.2.1, g.2.2.2.1⟩)]
/-- a number as the reference reads it -/
theorem r_num {T : Nat → Int32} {n p lo hi : Nat} (h : TX T n) (hp : p < 100000 - 9) (hlo : lo ≤ 1) (h9 : 9 < hi) (hi2 : hi ≤ 99) (wr : Bool) : m_X7_number T (nI n) (nI p) (b2i wr) (nI lo) (nI hi) = some (match (if wr = true then none else num T n p lo hi) with | some (v, q) => (nI v, nI q, 0) | none => (nI lo, nI p, 1)) := by
  obtain ⟨N, hN⟩ := fuel3
  have e48 : (48 : Int32) + nI lo = nI (48 + lo) := nI_add 48 lo
  have ht := r_takes (lo := 48 + lo) (hi := 57) h (show p < 2147483647 by omega) (by omega) (by omega) (by omega) wr
  have hL := fun (k p v : Nat) (wr : Bool) (hp : p < 100000) (hv : v ≤ 99) => r_num_loop (x1 := nI lo) (k := k) (p := p) (v := v) h hp hi2 hv wr
  have el : nI lo + 0 = nI lo := nI_add lo 0
  unfold m_X7_number
  rw [e48]
  refine Eq.trans (congrArg (fun z => bn z _) ht) ?_
  unfold num
  by_cases c : wr = false ∧ 48 + lo ≤ chr T n p ∧ chr T n p ≤ 57
  · obtain ⟨c1, c2, c3⟩ := c
    subst c1
    have ev : nI lo + nI (chr T n p - (48 + lo)) = nI (chr T n p - 48) := by
      rw [nI_add]
      congr 1
      omega
    rw [if_pos (by simp [c2, c3]), bn_s, bdE, ev, if_neg (by decide), if_pos ⟨c2, c3⟩, hN]
    have s1 := hL (N + 1 + 1) (p + 1) (chr T n p - 48) false (by omega) (by omega)
    rw [b2i_f] at s1
    refine Eq.trans s1 ?_
    by_cases d : 0 < chr T n p - 48 ∧ 48 ≤ chr T n (p + 1) ∧ chr T n (p + 1) ≤ 57 ∧ 10 * (chr T n p - 48) + (chr T n (p + 1) - 48) ≤ hi
    · rw [if_pos ⟨rfl, d⟩, if_pos d]
      have s2 := hL (N + 1) (p + 1 + 1) (10 * (chr T n p - 48) + (chr T n (p + 1) - 48)) false (by omega) (by omega)
      rw [b2i_f] at s2
      refine Eq.trans s2 ?_
      rw [if_neg (by omega)]
    · rw [if_neg (fun g => d g.2), if_neg d]
  · have e : (!wr && (decide (48 + lo ≤ chr T n p) && decide (chr T n p ≤ 57))) = false := by
      cases wr
      · simp only [Bool.not_false, Bool.true_and, Bool.and_eq_false_iff, decide_eq_false_iff_not]
        have : ¬ (48 + lo ≤ chr T n p ∧ chr T n p ≤ 57) := fun g => c ⟨rfl, g⟩
        omega
      · rfl
    have eq2 : (if wr = true then none else (if 48 + lo ≤ chr T n p ∧ chr T n p ≤ 57 then (if 0 < chr T n p - 48 ∧ 48 ≤ chr T n (p + 1) ∧ chr T n (p + 1) ≤ 57 ∧ 10 * (chr T n p - 48) + (chr T n (p + 1) - 48) ≤ hi then some (10 * (chr T n p - 48) + (chr T n (p + 1) - 48), p + 2) else some (chr T n p - 48, p + 1)) else none)) = (none : Option (Nat × Nat)) := by
      cases wr
      · rw [if_neg (by decide), if_neg (fun g => c ⟨rfl, g⟩)]
      · rfl
    rw [eq2, e, if_neg (by decide), bn_s, bdE, el, hN]
    have s1 := hL (N + 1 + 1) p lo true (by omega) (by omega)
    rw [b2i_t] at s1
    refine Eq.trans s1 ?_
    rw [if_neg (by simp)]
