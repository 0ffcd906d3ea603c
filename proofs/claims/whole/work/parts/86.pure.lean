-- ===== 86: one command as the reference reads it =====
theorem num_ok {T : Nat → Int32} {n p lo hi v q : Nat} (h9 : 9 ≤ hi) (h : num T n p lo hi = some (v, q)) : p + 1 ≤ q ∧ q ≤ n ∧ q ≤ p + 2 ∧ lo ≤ v ∧ v ≤ hi := by
  unfold num at h
  by_cases c : 48 + lo ≤ chr T n p ∧ chr T n p ≤ 57
  · have hp := chr_lt (T := T) (n := n) (p := p) (by omega)
    rw [if_pos c] at h
    by_cases d : 0 < chr T n p - 48 ∧ 48 ≤ chr T n (p + 1) ∧ chr T n (p + 1) ≤ 57 ∧ 10 * (chr T n p - 48) + (chr T n (p + 1) - 48) ≤ hi
    · have hp1 := chr_lt (T := T) (n := n) (p := p + 1) (by omega)
      rw [if_pos d] at h
      simp only [Option.some.injEq, Prod.mk.injEq] at h
      omega
    · rw [if_neg d] at h
      simp only [Option.some.injEq, Prod.mk.injEq] at h
      omega
  · rw [if_neg c] at h
    cases h
theorem wl_true (g : Nat → Bool) : ∀ k i j, i ≤ j → j < wl g k i → g j = true
  | 0, i, j, h1, h2 => by
    rw [wl] at h2
    omega
  | k + 1, i, j, h1, h2 => by
    rw [wl] at h2
    by_cases c : g i = true
    · rw [if_pos c] at h2
      by_cases e : j = i
      · rw [e]
        exact c
      · exact wl_true g k (i + 1) j (by omega) h2
    · rw [if_neg c] at h2
      omega
theorem pln_in {T : Nat → Int32} {n p : Nat} (h : 0 < pln T n p) : p + pln T n p ≤ n := by
  have hb := wl_true (bb T n p) 8 0 (pln T n p - 1) (by omega) (show pln T n p - 1 < pln T n p by omega)
  unfold bb at hb
  simp only [Bool.and_eq_true, decide_eq_true_eq] at hb
  have := chr_lt (T := T) (n := n) (p := p + (pln T n p - 1)) (by omega)
  omega
/-- a command: where it fails, or where it ends, its sign, address, number and number of outcomes -/
def cmd (T : Nat → Int32) (n p : Nat) : Nat ⊕ (Nat × Nat × Nat × Int32 × Nat) :=
  if chr T n p = 114 then
    (match num T n (p + 1) 1 99 with
    | none => .inl (p + 1)
    | some (v, q) => .inr (q, 114, 0, nI v, 0))
  else
    (match num T n p 0 47 with
    | none => .inl p
    | some (a, q) =>
      if chr T n q = 46 then .inr (q + 1, 46, a, 0, 0)
      else if chr T n q = 98 ∨ chr T n q = 106 then
        (match num T n (q + 1) 0 47 with
        | none => .inl (q + 1)
        | some (t, r) => .inr (r, chr T n q, a, nI t, 0))
      else if chr T n q = 112 then
        (if pln T n (q + 1) = 0 then .inl (q + 1) else .inr (q + 1 + pln T n (q + 1), 112, a, pac T n (q + 1) 0 0 8, pln T n (q + 1)))
      else .inl q)
theorem cmd_ok {T : Nat → Int32} {n p q op a oc : Nat} {v : Int32} (h : cmd T n p = .inr (q, op, a, v, oc)) : p + 2 ≤ q ∧ q ≤ n ∧ a < 48 ∧ ((op = 114 ∧ ∃ c, 1 ≤ c ∧ c ≤ 99 ∧ v = nI c) ∨ (op = 112 ∧ 1 ≤ oc ∧ oc ≤ 8) ∨ (op = 46 ∧ v = 0) ∨ ((op = 98 ∨ op = 106) ∧ ∃ t, t < 48 ∧ v = nI t)) := by
  unfold cmd at h
  by_cases c : chr T n p = 114
  · rw [if_pos c] at h
    cases hn : num T n (p + 1) 1 99 with
    | none => rw [hn] at h; cases h
    | some vq =>
      obtain ⟨v', q'⟩ := vq
      have := num_ok (by omega) hn
      rw [hn] at h
      simp only [Sum.inr.injEq, Prod.mk.injEq] at h
      obtain ⟨rfl, rfl, rfl, rfl, rfl⟩ := h
      exact ⟨by omega, by omega, by omega, Or.inl ⟨rfl, v', by omega, by omega, rfl⟩⟩
  · rw [if_neg c] at h
    cases hn : num T n p 0 47 with
    | none => rw [hn] at h; cases h
    | some vq =>
      obtain ⟨a', q'⟩ := vq
      have hk := num_ok (by omega) hn
      rw [hn] at h
      simp only [] at h
      by_cases c1 : chr T n q' = 46
      · rw [if_pos c1] at h
        have := chr_lt (T := T) (n := n) (p := q') (by omega)
        simp only [Sum.inr.injEq, Prod.mk.injEq] at h
        obtain ⟨rfl, rfl, rfl, rfl, rfl⟩ := h
        exact ⟨by omega, by omega, by omega, Or.inr (Or.inr (Or.inl ⟨rfl, rfl⟩))⟩
      · rw [if_neg c1] at h
        by_cases c2 : chr T n q' = 98 ∨ chr T n q' = 106
        · rw [if_pos c2] at h
          cases hm : num T n (q' + 1) 0 47 with
          | none => rw [hm] at h; cases h
          | some tr =>
            obtain ⟨t, r⟩ := tr
            have hk2 := num_ok (by omega) hm
            rw [hm] at h
            simp only [Sum.inr.injEq, Prod.mk.injEq] at h
            obtain ⟨rfl, rfl, rfl, rfl, rfl⟩ := h
            exact ⟨by omega, by omega, by omega, Or.inr (Or.inr (Or.inr ⟨c2, t, by omega, rfl⟩))⟩
        · rw [if_neg c2] at h
          by_cases c3 : chr T n q' = 112
          · rw [if_pos c3] at h
            by_cases c4 : pln T n (q' + 1) = 0
            · rw [if_pos c4] at h; cases h
            · rw [if_neg c4] at h
              have h8 := pln_le T n (q' + 1)
              have hi := pln_in (T := T) (n := n) (p := q' + 1) (by omega)
              simp only [Sum.inr.injEq, Prod.mk.injEq] at h
              obtain ⟨rfl, rfl, rfl, rfl, rfl⟩ := h
              exact ⟨by omega, by omega, by omega, Or.inr (Or.inl ⟨rfl, by omega, by omega⟩)⟩
          · rw [if_neg c3] at h; cases h
theorem r_is {T : Nat → Int32} {n p c : Nat} (h : TX T n) (hp : p < 2147483648) (hc : 1 ≤ c) (hc2 : c < 2147483648) : m_X7_isNext T (nI n) (nI p) 0 (nI c) (nI c) = some (b2i (decide (chr T n p = c))) := by
  have := r_next (lo := c) (hi := c) h hp hc hc2 hc2 false
  rw [b2i_f, Bool.not_false, Bool.true_and] at this
  rw [this]
  congr 2
  by_cases e : chr T n p = c
  · rw [e]
    simp
  · have : ¬ (c ≤ chr T n p ∧ chr T n p ≤ c) := by omega
    simp [e, this]
    omega
theorem r_is1 {T : Nat → Int32} {n p lo hi : Nat} (h : TX T n) (hp : p < 2147483648) (hlo : 1 ≤ lo) (hhi : hi < 2147483648) (hl2 : lo < 2147483648) : m_X7_isNext T (nI n) (nI p) 1 (nI lo) (nI hi) = some 0 := by
  have := r_next (lo := lo) (hi := hi) h hp hlo hhi hl2 true
  rw [b2i_t, Bool.not_true, Bool.false_and] at this
  exact this
theorem r_num0 {T : Nat → Int32} {n p : Nat} (h : TX T n) (hp : p < 90000) : m_X7_number T (nI n) (nI p) 0 0 47 = some (match num T n p 0 47 with | some (v, q) => (nI v, nI q, 0) | none => (0, nI p, 1)) := by
  have := r_num (lo := 0) (hi := 47) h (by omega) (by omega) (by omega) (by omega) (p := p) false
  rw [if_neg (by decide)] at this
  exact this
theorem r_num1 {T : Nat → Int32} {n p : Nat} (h : TX T n) (hp : p < 90000) : m_X7_number T (nI n) (nI p) 1 0 47 = some (0, nI p, 1) := by
  have := r_num (lo := 0) (hi := 47) h (by omega) (by omega) (by omega) (by omega) (p := p) true
  rw [if_pos rfl] at this
  exact this
theorem r_numr {T : Nat → Int32} {n p : Nat} (h : TX T n) (hp : p < 90000) : m_X7_number T (nI n) (nI p) 0 1 99 = some (match num T n p 1 99 with | some (v, q) => (nI v, nI q, 0) | none => (1, nI p, 1)) := by
  have := r_num (lo := 1) (hi := 99) h (by omega) (by omega) (by omega) (by omega) (p := p) false
  rw [if_neg (by decide)] at this
  exact this
/-- a pattern, as the reference reads it -/
theorem r_pat {T : Nat → Int32} {n p : Nat} (h : TX T n) (hp : p < 90000) {s : Nat → Int32} {x1 x2 : Int32} : m_X7_readPattern T (nI n) s (nI p) 0 x1 x2 = if pln T n p = 0 then m_X7_readPattern_55 T (nI n) x1 x2 s (nI p) 1 (0 ||| ((0 : Int32) <<< ((0 : Int32) &&& 31))) 1 else m_X7_readPattern_55 T (nI n) x1 x2 s (nI (p + pln T n p)) 0 (pac T n p 0 0 8) (nI (pln T n p)) := by
  obtain ⟨N, hN⟩ := fuel2
  unfold m_X7_readPattern
  rw [hN, show N + 100 = (N + 99) + 1 from rfl, m_X7_readPattern_5, if_pos rfl, if_pos rfl]
  by_cases hb : bb T n p 0 = true
  · have h35 := r_pat35 (i := 0) h (by omega) hb (x1 := x1) (x2 := x2) (K := m_X7_readPattern_5 T (nI n) x1 x2 (N + 99)) (s := s) (v := 0)
    rw [Nat.add_zero] at h35
    have e1 : pln T n p = wl (bb T n p) 7 1 := by
      unfold pln
      rw [wl, if_pos hb]
    have e2 : pac T n p 0 0 8 = pac T n p (0 ||| (nI (chr T n p - 48) <<< (nI 0 &&& 31))) 1 7 := by
      rw [pac, if_pos hb, Nat.add_zero]
    have hl := wl_le (bb T n p) 7 1
    rw [if_neg (by omega), e1, e2]
    refine Eq.trans h35 ?_
    exact r_pat_loop h (by omega) 7 1 (N + 99) _ (by omega) (by omega) (by omega)
  · have e1 : pln T n p = 0 := by
      unfold pln
      rw [wl, if_neg hb]
    rw [if_pos e1]
    have ht := r_takes (lo := 48) (hi := 49) h (show p < 2147483647 by omega) (by omega) (by omega) (by omega) false
    have hb2 : ¬ (!false && (decide (48 ≤ chr T n p) && decide (chr T n p ≤ 49))) = true := by
      intro g
      rw [Bool.not_false, Bool.true_and] at g
      exact hb g
    rw [if_neg hb2] at ht
    have ht' : m_X7_takes T (nI n) (nI p) 0 48 49 = some (0, nI p, 1) := ht
    have hi : m_X7_isNext T (nI n) (nI p) 1 48 49 = some 0 := r_is1 (lo := 48) (hi := 49) h (by omega) (by omega) (by omega) (by omega)
    unfold m_X7_readPattern_35
    rw [ht', bn_s, bdE, bdE, show N + 99 = (N + 98) + 1 from rfl, m_X7_readPattern_5, if_neg (by decide)]
    unfold m_X7_readPattern_17
    rw [if_neg (by decide), hi, bn_s, if_pos rfl]
    rfl
