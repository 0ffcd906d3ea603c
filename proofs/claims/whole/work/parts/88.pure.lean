-- ===== 88: one command as the class reads it =====
def hv (T : Nat → Int32) (n p : Nat) : Int32 := if p < n then nI (chr T n p) else -1
theorem hv_eq {T : Nat → Int32} {n p c : Nat} (h : TX T n) (h1 : 1 ≤ c) (h2 : c < 2147483648) : (hv T n p = nI c) = (chr T n p = c) := by
  unfold hv
  by_cases e : p < n
  · have := chr_in h e
    rw [if_pos e, eqN (by omega) h2]
  · rw [if_neg e, chr_out e]
    refine propext ⟨fun g => absurd g.symm (nIm1 h2), fun g => by omega⟩
theorem k_hv {X T : Nat → Int32} {n p : Nat} (h : TX T n) (hX : ∀ i, i < n → X i = T i) (hp : p < 2147483648) : m_X5_here X (nI n) (nI p) = some (hv T n p) := k_here h hX hp
theorem k_num0 {X T : Nat → Int32} {n p : Nat} (h : TX T n) (hX : ∀ i, i < n → X i = T i) (hp : p < 100000) (v0 : Int32) : m_X5_readNumber X (nI n) (nI p) v0 0 47 = some (match num T n p 0 47 with | some (v, q) => (1, nI q, nI v) | none => (0, nI p, v0)) := k_num (lo := 0) (hi := 47) h hX hp (by omega) (by omega) v0
theorem k_numr {X T : Nat → Int32} {n p : Nat} (h : TX T n) (hX : ∀ i, i < n → X i = T i) (hp : p < 100000) (v0 : Int32) : m_X5_readNumber X (nI n) (nI p) v0 1 99 = some (match num T n p 1 99 with | some (v, q) => (1, nI q, nI v) | none => (0, nI p, v0)) := k_num (lo := 1) (hi := 99) h hX hp (by omega) (by omega) v0
theorem k_cmd0 {X T : Nat → Int32} {n p e : Nat} (h : TX T n) (hX : ∀ i, i < n → X i = T i) (hp : p < 70000) (hc : cmd T n p = .inl e) (o0 a0 v0 c0 : Int32) : ∃ o' a' v' c', m_X5_readNext_28 X (nI n) (nI p) o0 a0 v0 c0 = some (0, nI e, o', a', v', c') := by
  have h80 := h.1
  have q114 : (hv T n p = 114) = (chr T n p = 114) := hv_eq (c := 114) h (by omega) (by omega)
  unfold cmd at hc
  unfold m_X5_readNext_28
  rw [k_hv h hX (by omega), bn_s]
  simp only [q114]
  by_cases c : chr T n p = 114
  · rw [if_pos c] at hc
    rw [if_pos c, bdE, nI1, k_numr h hX (by omega), bn_s]
    cases hn : num T n (p + 1) 1 99 with
    | none =>
      rw [hn] at hc
      simp only [Sum.inl.injEq] at hc
      subst hc
      simp only [isb_0, gd_s]
      exact ⟨_, _, _, _, rfl⟩
    | some vq =>
      obtain ⟨v, q⟩ := vq
      rw [hn] at hc
      cases hc
  · rw [if_neg c] at hc
    rw [if_neg c, k_num0 h hX (by omega), bn_s]
    cases hn : num T n p 0 47 with
    | none =>
      rw [hn] at hc
      simp only [Sum.inl.injEq] at hc
      subst hc
      simp only [if_true]
      exact ⟨_, _, _, _, rfl⟩
    | some vq =>
      obtain ⟨a, q⟩ := vq
      have hk := num_ok (by omega) hn
      rw [hn] at hc
      simp only [] at hc
      have q46 : (hv T n q = 46) = (chr T n q = 46) := hv_eq (c := 46) h (by omega) (by omega)
      have q98 : (hv T n q = 98) = (chr T n q = 98) := hv_eq (c := 98) h (by omega) (by omega)
      have q106 : (hv T n q = 106) = (chr T n q = 106) := hv_eq (c := 106) h (by omega) (by omega)
      have q112 : (hv T n q = 112) = (chr T n q = 112) := hv_eq (c := 112) h (by omega) (by omega)
      simp only []
      rw [if_neg (show ¬ (1 : Int32) = 0 by decide)]
      unfold m_X5_readOperation
      rw [k_hv h hX (by omega), bn_s]
      simp only [q46, q98, q106, q112, bdE, nI1]
      by_cases c46 : chr T n q = 46
      · rw [if_pos c46] at hc
        cases hc
      · rw [if_neg c46] at hc
        rw [if_neg c46]
        by_cases cj : chr T n q = 98 ∨ chr T n q = 106
        · rw [if_pos cj] at hc
          cases hm : num T n (q + 1) 0 47 with
          | some tr => rw [hm] at hc; obtain ⟨t, r⟩ := tr; cases hc
          | none =>
            rw [hm] at hc
            simp only [Sum.inl.injEq] at hc
            subst hc
            have hk2 := k_num0 (p := q + 1) h hX (by omega) (nI a)
            rw [hm] at hk2
            simp only [hk2, bn_s, isb_0, gd_s]
            rcases cj with cj | cj
            · rw [if_pos cj, bn_s]
              simp only [isb_0, gd_s]
              exact ⟨_, _, _, _, rfl⟩
            · rw [if_neg (by omega), if_pos cj, bn_s]
              simp only [isb_0, gd_s]
              exact ⟨_, _, _, _, rfl⟩
        · rw [if_neg cj] at hc
          rw [if_neg (by omega), if_neg (by omega)]
          by_cases c3 : chr T n q = 112
          · rw [if_pos c3] at hc
            rw [if_pos c3, k_pat h hX (by omega), bn_s]
            by_cases c4 : pln T n (q + 1) = 0
            · rw [if_pos c4] at hc
              simp only [Sum.inl.injEq] at hc
              subst hc
              rw [c4]
              simp only [if_true, isb_0, gd_s, bn_s, Nat.add_zero]
              exact ⟨_, _, _, _, rfl⟩
            · rw [if_neg c4] at hc
              cases hc
          · rw [if_neg c3] at hc
            simp only [Sum.inl.injEq] at hc
            subst hc
            rw [if_neg c3, bn_s]
            simp only [isb_0, gd_s]
            exact ⟨_, _, _, _, rfl⟩
theorem k_cmd1 {X T : Nat → Int32} {n p q op a oc : Nat} {v : Int32} (h : TX T n) (hX : ∀ i, i < n → X i = T i) (hp : p < 70000) (hc : cmd T n p = .inr (q, op, a, v, oc)) (o0 a0 v0 c0 : Int32) : ∃ a' v' c', m_X5_readNext_28 X (nI n) (nI p) o0 a0 v0 c0 = some (1, nI q, nI op, a', v', c') ∧ (op ≠ 114 → a' = nI a) ∧ (op ≠ 46 → v' = v) ∧ (op = 112 → c' = nI oc) := by
  have h80 := h.1
  have q114 : (hv T n p = 114) = (chr T n p = 114) := hv_eq (c := 114) h (by omega) (by omega)
  unfold cmd at hc
  unfold m_X5_readNext_28
  rw [k_hv h hX (by omega), bn_s]
  simp only [q114]
  by_cases c : chr T n p = 114
  · rw [if_pos c] at hc
    rw [if_pos c, bdE, nI1, k_numr h hX (by omega), bn_s]
    cases hn : num T n (p + 1) 1 99 with
    | none => rw [hn] at hc; cases hc
    | some vq =>
      obtain ⟨v', q'⟩ := vq
      rw [hn] at hc
      simp only [Sum.inr.injEq, Prod.mk.injEq] at hc
      obtain ⟨rfl, rfl, rfl, rfl, rfl⟩ := hc
      simp only [isb_1, gd_s]
      exact ⟨_, _, _, rfl, fun g => absurd rfl g, fun _ => rfl, fun g => by omega⟩
  · rw [if_neg c] at hc
    rw [if_neg c, k_num0 h hX (by omega), bn_s]
    cases hn : num T n p 0 47 with
    | none => rw [hn] at hc; cases hc
    | some vq =>
      obtain ⟨a', q'⟩ := vq
      have hk := num_ok (by omega) hn
      rw [hn] at hc
      simp only [] at hc
      have q46 : (hv T n q' = 46) = (chr T n q' = 46) := hv_eq (c := 46) h (by omega) (by omega)
      have q98 : (hv T n q' = 98) = (chr T n q' = 98) := hv_eq (c := 98) h (by omega) (by omega)
      have q106 : (hv T n q' = 106) = (chr T n q' = 106) := hv_eq (c := 106) h (by omega) (by omega)
      have q112 : (hv T n q' = 112) = (chr T n q' = 112) := hv_eq (c := 112) h (by omega) (by omega)
      simp only []
      rw [if_neg (show ¬ (1 : Int32) = 0 by decide)]
      unfold m_X5_readOperation
      rw [k_hv h hX (by omega), bn_s]
      simp only [q46, q98, q106, q112, bdE, nI1]
      by_cases c46 : chr T n q' = 46
      · rw [if_pos c46] at hc
        simp only [Sum.inr.injEq, Prod.mk.injEq] at hc
        obtain ⟨rfl, rfl, rfl, rfl, rfl⟩ := hc
        have e46 : hv T n q' = nI 46 := q46.mpr c46
        rw [if_pos c46, bn_s]
        simp only [isb_1, gd_s, e46]
        exact ⟨_, _, _, rfl, fun _ => rfl, fun g => absurd rfl g, fun g => by omega⟩
      · rw [if_neg c46] at hc
        rw [if_neg c46]
        by_cases cj : chr T n q' = 98 ∨ chr T n q' = 106
        · rw [if_pos cj] at hc
          cases hm : num T n (q' + 1) 0 47 with
          | none => rw [hm] at hc; cases hc
          | some tr =>
            obtain ⟨t, r⟩ := tr
            rw [hm] at hc
            simp only [Sum.inr.injEq, Prod.mk.injEq] at hc
            obtain ⟨rfl, rfl, rfl, rfl, rfl⟩ := hc
            have hk2 := k_num0 (p := q' + 1) h hX (by omega) (nI a')
            rw [hm] at hk2
            have ehv : hv T n q' = nI (chr T n q') := by
              have := chr_lt (T := T) (n := n) (p := q') (by omega)
              unfold hv
              rw [if_pos this]
            simp only [hk2, bn_s, isb_1, gd_s, ehv]
            rcases cj with cj | cj
            · rw [if_pos cj, bn_s]
              simp only [isb_1, gd_s]
              exact ⟨_, _, _, rfl, fun _ => rfl, fun _ => rfl, fun g => by omega⟩
            · rw [if_neg (by omega), if_pos cj, bn_s]
              simp only [isb_1, gd_s]
              exact ⟨_, _, _, rfl, fun _ => rfl, fun _ => rfl, fun g => by omega⟩
        · rw [if_neg cj] at hc
          rw [if_neg (by omega), if_neg (by omega)]
          by_cases c3 : chr T n q' = 112
          · rw [if_pos c3] at hc
            rw [if_pos c3, k_pat h hX (by omega), bn_s]
            by_cases c4 : pln T n (q' + 1) = 0
            · rw [if_pos c4] at hc; cases hc
            · rw [if_neg c4] at hc
              simp only [Sum.inr.injEq, Prod.mk.injEq] at hc
              obtain ⟨rfl, rfl, rfl, rfl, rfl⟩ := hc
              have e112 : hv T n q' = nI 112 := q112.mpr c3
              rw [if_neg c4]
              simp only [isb_1, gd_s, bn_s, e112]
              exact ⟨_, _, _, rfl, fun _ => rfl, fun _ => rfl, fun _ => rfl⟩
          · rw [if_neg c3] at hc; cases hc
