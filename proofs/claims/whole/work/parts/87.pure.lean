-- ===== 87: one command as the reference reads and does it =====
theorem r_ins {T : Nat → Int32} {n p a q c : Nat} (h : TX T n) (hp : p < 80000) (hn : num T n p 0 47 = some (a, q)) (hc : chr T n q = c) (hc2 : c = 46 ∨ c = 106 ∨ c = 98 ∨ c = 112) {s : Nat → Int32} {x1 : Int32} : m_X7_readInstruction T (nI n) s (nI p) 0 x1 = m_X7_readInstruction_103 T (nI n) x1 s (nI q) 0 (nI a) (nI c) (nI q) 1 := by
  have hk := num_ok (by omega) hn
  have hqn := chr_lt (T := T) (n := n) (p := q) (by omega)
  have h80 := h.1
  have i46 : m_X7_isNext T (nI n) (nI q) 0 46 46 = some (b2i (decide (c = 46))) := by rw [← hc]; exact r_is (c := 46) h (by omega) (by omega) (by omega)
  have i106 : m_X7_isNext T (nI n) (nI q) 0 106 106 = some (b2i (decide (c = 106))) := by rw [← hc]; exact r_is (c := 106) h (by omega) (by omega) (by omega)
  have i98 : m_X7_isNext T (nI n) (nI q) 0 98 98 = some (b2i (decide (c = 98))) := by rw [← hc]; exact r_is (c := 98) h (by omega) (by omega) (by omega)
  have i112 : m_X7_isNext T (nI n) (nI q) 0 112 112 = some (b2i (decide (c = 112))) := by rw [← hc]; exact r_is (c := 112) h (by omega) (by omega) (by omega)
  have e52 : m_X7_readInstruction_52 T (nI n) x1 s (nI q) 0 (nI a) = m_X7_readInstruction_103 T (nI n) x1 s (nI q) 0 (nI a) (nI c) (nI q) 1 := by
    unfold m_X7_readInstruction_52 m_X7_readInstruction_65
    have hc0 : ¬ nI c = 0 := by rw [eqN0 (by omega)]; omega
    rw [inbN (by omega) (by omega), gd_s, clN (by omega), (chr_in h hqn).1, hc, if_pos rfl, if_neg hc0]
    unfold m_X7_readInstruction_83
    rw [isb_0, gd_s, if_pos rfl]
  unfold m_X7_readInstruction
  rw [r_num0 h (by omega), bn_s, hn]
  simp only []
  rw [i46, bn_s, i106, bn_s, i98, bn_s, i112, bn_s, e52]
  rcases hc2 with rfl | rfl | rfl | rfl <;> rfl
theorem r_ins_no {T : Nat → Int32} {n p a q : Nat} (h : TX T n) (hp : p < 80000) (hn : num T n p 0 47 = some (a, q)) (hc2 : ¬ (chr T n q = 46 ∨ chr T n q = 106 ∨ chr T n q = 98 ∨ chr T n q = 112)) {s : Nat → Int32} : m_X7_readInstruction T (nI n) s (nI p) 0 0 = some (s, nI q, 1) := by
  have hk := num_ok (by omega) hn
  have h80 := h.1
  have i46 : m_X7_isNext T (nI n) (nI q) 0 46 46 = some 0 := by
    have := r_is (c := 46) (n := n) (p := q) h (by omega) (by omega) (by omega)
    rw [decide_eq_false (fun g => hc2 (Or.inl g))] at this
    exact this
  have i106 : m_X7_isNext T (nI n) (nI q) 0 106 106 = some 0 := by
    have := r_is (c := 106) (n := n) (p := q) h (by omega) (by omega) (by omega)
    rw [decide_eq_false (fun g => hc2 (Or.inr (Or.inl g)))] at this
    exact this
  have i98 : m_X7_isNext T (nI n) (nI q) 0 98 98 = some 0 := by
    have := r_is (c := 98) (n := n) (p := q) h (by omega) (by omega) (by omega)
    rw [decide_eq_false (fun g => hc2 (Or.inr (Or.inr (Or.inl g))))] at this
    exact this
  have i112 : m_X7_isNext T (nI n) (nI q) 0 112 112 = some 0 := by
    have := r_is (c := 112) (n := n) (p := q) h (by omega) (by omega) (by omega)
    rw [decide_eq_false (fun g => hc2 (Or.inr (Or.inr (Or.inr g))))] at this
    exact this
  have e0 : nI q + 0 = nI q := nI_add q 0
  unfold m_X7_readInstruction
  rw [r_num0 h (by omega), bn_s, hn]
  simp only []
  rw [i46, bn_s, if_pos rfl, i106, bn_s, if_pos rfl, i98, bn_s, if_pos rfl, i112, bn_s, if_pos rfl]
  unfold m_X7_readInstruction_65 m_X7_readInstruction_78 m_X7_readInstruction_83
  rw [if_pos rfl, if_pos rfl, isb_1, gd_s, if_neg (by decide)]
  unfold m_X7_readInstruction_103
  rw [bdE, e0, if_neg (by decide), if_neg (by decide), r_num1 h (by omega), bn_s]
  unfold m_X7_readInstruction_137
  rw [if_pos rfl]
  rfl
theorem r_ins_bad {T : Nat → Int32} {n p : Nat} (h : TX T n) (hp : p < 80000) (hn : num T n p 0 47 = none) {s : Nat → Int32} : m_X7_readInstruction T (nI n) s (nI p) 0 0 = some (s, nI p, 1) := by
  have i46 : m_X7_isNext T (nI n) (nI p) 1 46 46 = some 0 := r_is1 (lo := 46) (hi := 46) h (by omega) (by omega) (by omega) (by omega)
  have i106 : m_X7_isNext T (nI n) (nI p) 1 106 106 = some 0 := r_is1 (lo := 106) (hi := 106) h (by omega) (by omega) (by omega) (by omega)
  have i98 : m_X7_isNext T (nI n) (nI p) 1 98 98 = some 0 := r_is1 (lo := 98) (hi := 98) h (by omega) (by omega) (by omega) (by omega)
  have i112 : m_X7_isNext T (nI n) (nI p) 1 112 112 = some 0 := r_is1 (lo := 112) (hi := 112) h (by omega) (by omega) (by omega) (by omega)
  have e0 : nI p + 0 = nI p := nI_add p 0
  unfold m_X7_readInstruction
  rw [r_num0 h (by omega), bn_s, hn]
  simp only []
  rw [i46, bn_s, if_pos rfl, i106, bn_s, if_pos rfl, i98, bn_s, if_pos rfl, i112, bn_s, if_pos rfl]
  unfold m_X7_readInstruction_65 m_X7_readInstruction_78 m_X7_readInstruction_83
  rw [if_neg (by decide), isb_1, gd_s, if_neg (by decide)]
  unfold m_X7_readInstruction_103
  rw [bdE, e0, if_neg (by decide), if_neg (by decide), r_num1 h (by omega), bn_s]
  unfold m_X7_readInstruction_137
  rw [if_pos rfl]
  rfl
/-- what a command does to the row -/
def rdo (op a : Nat) (v : Int32) (oc : Nat) (s f P : Nat → Int32) (m w : Int32) : Option (Int32 × (Nat → Int32) × (Nat → Int32) × (Nat → Int32) × Int32 × Int32) :=
  if op = 114 then m_X7_runs s f P m w v
  else if op = 112 then bn (m_X7_patterns s (nI a) v (nI oc)) (fun y => some (0, y.2, f, P, m, w))
  else if op = 46 then bn (m_X7_writes s (nI a) 0 v) (fun y => some (0, y.2, f, P, m, w))
  else if op = 106 then bn (m_X7_writes s (nI a) 1 v) (fun y => some (0, y.2, f, P, m, w))
  else bn (m_X7_writes s (nI a) 2 v) (fun y => some (0, y.2, f, P, m, w))
theorem bn_bn {α β γ : Type} (x : Option α) (f : α → Option β) (g : β → Option γ) : bn (bn x f) g = bn x (fun y => bn (f y) g) := by cases x <;> rfl
/-- reading alone -/
theorem r_cmd0 {T : Nat → Int32} {n p : Nat} (h : TX T n) (hp : p < 70000) {s f P : Nat → Int32} {m w eb : Int32} : m_X7_readCommand T (nI n) s f P m w (nI p) 0 eb 0 = some (match cmd T n p with | .inl e => (s, f, P, m, w, nI e, 1, eb) | .inr y => (s, f, P, m, w, nI y.1, 0, eb)) := by
  have h80 := h.1
  have i114 : m_X7_isNext T (nI n) (nI p) 0 114 114 = some (b2i (decide (chr T n p = 114))) := r_is (c := 114) h (by omega) (by omega) (by omega)
  have eb0 : eb + 0 = eb := Int32.add_zero eb
  unfold m_X7_readCommand cmd
  rw [i114, bn_s]
  by_cases c : chr T n p = 114
  · rw [decide_eq_true c, if_neg (by decide), bdE, nI1, r_numr h (by omega), bn_s, if_pos c]
    cases hn : num T n (p + 1) 1 99 with
    | none =>
      simp only [if_true]
      unfold m_X7_readCommand_53
      rw [bdE, eb0]
    | some vq =>
      obtain ⟨v, q⟩ := vq
      simp only [if_true]
      unfold m_X7_readCommand_53
      rw [bdE, eb0]
  · rw [decide_eq_false c, if_pos (show b2i false = 0 from rfl), if_neg c]
    cases hn : num T n p 0 47 with
    | none =>
      rw [r_ins_bad h (by omega) hn, bn_s]
    | some vq =>
      obtain ⟨a, q⟩ := vq
      have hk := num_ok (by omega) hn
      simp only []
      by_cases c46 : chr T n q = 46
      · rw [r_ins h (by omega) hn c46 (by omega), if_pos c46]
        unfold m_X7_readInstruction_103
        rw [bdE, nI1, if_neg (show ¬ nI 46 = 112 by decide), if_pos (show nI 46 = 46 from rfl)]
        unfold m_X7_readInstruction_137
        rw [if_pos rfl]
        rfl
      · rw [if_neg c46]
        by_cases cj : chr T n q = 98 ∨ chr T n q = 106
        · rw [if_pos cj]
          have e1 : ¬ nI (chr T n q) = 112 := by
            rw [show (112 : Int32) = nI 112 from rfl, eqN (by omega) (by omega)]
            omega
          have e2 : ¬ nI (chr T n q) = 46 := by
            rw [show (46 : Int32) = nI 46 from rfl, eqN (by omega) (by omega)]
            omega
          rw [r_ins h (by omega) hn rfl (by omega)]
          unfold m_X7_readInstruction_103
          rw [bdE, nI1, if_neg e1, if_neg e2, r_num0 h (by omega)]
          simp only [bn_s]
          unfold m_X7_readInstruction_137
          rw [if_pos rfl]
          unfold m_X7_readInstruction_175
          rw [bn_s]
          cases num T n (q + 1) 0 47 with
          | none => rfl
          | some tr => rfl
        · rw [if_neg cj]
          by_cases c3 : chr T n q = 112
          · rw [r_ins h (by omega) hn c3 (by omega), if_pos c3]
            unfold m_X7_readInstruction_103
            rw [bdE, nI1, if_pos (show nI 112 = 112 from rfl), r_pat h (by omega)]
            by_cases c4 : pln T n (q + 1) = 0
            · rw [if_pos c4, if_pos c4]
              unfold m_X7_readPattern_55
              rw [if_pos rfl]
              rfl
            · rw [if_neg c4, if_neg c4]
              unfold m_X7_readPattern_55
              rw [if_pos rfl]
              rfl
          · rw [r_ins_no h (by omega) hn (by omega), if_neg c3]
            rfl
/-- reading and doing -/
theorem r_cmd1 {T : Nat → Int32} {n p q op a oc : Nat} {v : Int32} (h : TX T n) (hp : p < 70000) (hc : cmd T n p = .inr (q, op, a, v, oc)) {s f P : Nat → Int32} {m w eb : Int32} : m_X7_readCommand T (nI n) s f P m w (nI p) 0 eb 1 = bn (rdo op a v oc s f P m w) (fun y => some (y.2.1, y.2.2.1, y.2.2.2.1, y.2.2.2.2.1, y.2.2.2.2.2, nI q, 0, eb + y.1)) := by
  have h80 := h.1
  have i114 : m_X7_isNext T (nI n) (nI p) 0 114 114 = some (b2i (decide (chr T n p = 114))) := r_is (c := 114) h (by omega) (by omega) (by omega)
  have eb0 : eb + 0 = eb := Int32.add_zero eb
  have n10 : ¬ (1 : Int32) = 0 := by decide
  unfold cmd at hc
  unfold m_X7_readCommand
  rw [i114, bn_s]
  by_cases c : chr T n p = 114
  · rw [if_pos c] at hc
    rw [decide_eq_true c, if_neg (by decide), bdE, nI1, r_numr h (by omega), bn_s]
    cases hn : num T n (p + 1) 1 99 with
    | none => rw [hn] at hc; cases hc
    | some vq =>
      obtain ⟨v', q'⟩ := vq
      rw [hn] at hc
      simp only [Sum.inr.injEq, Prod.mk.injEq] at hc
      obtain ⟨rfl, rfl, rfl, rfl, rfl⟩ := hc
      simp only []
      rw [if_neg n10]
      unfold rdo m_X7_readCommand_53
      rw [if_pos rfl]
      simp only [bdE]
  · rw [if_neg c] at hc
    rw [decide_eq_false c, if_pos (show b2i false = 0 from rfl)]
    cases hn : num T n p 0 47 with
    | none => rw [hn] at hc; cases hc
    | some vq =>
      obtain ⟨a', q'⟩ := vq
      have hk := num_ok (by omega) hn
      rw [hn] at hc
      simp only [] at hc
      by_cases c46 : chr T n q' = 46
      · rw [if_pos c46] at hc
        simp only [Sum.inr.injEq, Prod.mk.injEq] at hc
        obtain ⟨rfl, rfl, rfl, rfl, rfl⟩ := hc
        rw [r_ins h (by omega) hn c46 (by omega)]
        unfold m_X7_readInstruction_103
        rw [bdE, nI1, if_neg (show ¬ nI 46 = 112 by decide), if_pos (show nI 46 = 46 from rfl)]
        unfold m_X7_readInstruction_137
        rw [if_neg n10, if_pos (show nI 46 = 46 from rfl)]
        unfold m_X7_readInstruction_166 m_X7_readInstruction_175 rdo
        rw [if_neg (show ¬ (46 : Nat) = 114 by omega), if_neg (show ¬ (46 : Nat) = 112 by omega), if_pos (show (46 : Nat) = 46 from rfl)]
        simp only [bn_bn, bn_s, eb0]
      · rw [if_neg c46] at hc
        by_cases cj : chr T n q' = 98 ∨ chr T n q' = 106
        · rw [if_pos cj] at hc
          have e1 : ¬ nI (chr T n q') = 112 := by
            rw [show (112 : Int32) = nI 112 from rfl, eqN (by omega) (by omega)]
            omega
          have e2 : ¬ nI (chr T n q') = 46 := by
            rw [show (46 : Int32) = nI 46 from rfl, eqN (by omega) (by omega)]
            omega
          have e3 : (nI (chr T n q') = 106) = (chr T n q' = 106) := by
            rw [show (106 : Int32) = nI 106 from rfl, eqN (by omega) (by omega)]
          rw [r_ins h (by omega) hn rfl (by omega)]
          unfold m_X7_readInstruction_103
          rw [bdE, nI1, if_neg e1, if_neg e2, r_num0 h (by omega)]
          cases hm : num T n (q' + 1) 0 47 with
          | none => rw [hm] at hc; cases hc
          | some tr =>
            obtain ⟨t, r⟩ := tr
            rw [hm] at hc
            simp only [Sum.inr.injEq, Prod.mk.injEq] at hc
            obtain ⟨rfl, rfl, rfl, rfl, rfl⟩ := hc
            simp only [bn_s]
            unfold m_X7_readInstruction_137
            rw [if_neg n10, if_neg e2]
            unfold rdo
            rw [if_neg (show ¬ chr T n q' = 114 by omega), if_neg (show ¬ chr T n q' = 112 by omega), if_neg c46]
            simp only [e3]
            by_cases cj2 : chr T n q' = 106
            · rw [if_pos cj2, if_pos cj2]
              unfold m_X7_readInstruction_166 m_X7_readInstruction_175
              simp only [bn_bn, bn_s, eb0]
            · rw [if_neg cj2, if_neg cj2]
              unfold m_X7_readInstruction_166 m_X7_readInstruction_175
              simp only [bn_bn, bn_s, eb0]
        · rw [if_neg cj] at hc
          by_cases c3 : chr T n q' = 112
          · rw [if_pos c3] at hc
            by_cases c4 : pln T n (q' + 1) = 0
            · rw [if_pos c4] at hc; cases hc
            · rw [if_neg c4] at hc
              simp only [Sum.inr.injEq, Prod.mk.injEq] at hc
              obtain ⟨rfl, rfl, rfl, rfl, rfl⟩ := hc
              rw [r_ins h (by omega) hn c3 (by omega)]
              unfold m_X7_readInstruction_103
              rw [bdE, nI1, if_pos (show nI 112 = 112 from rfl), r_pat h (by omega), if_neg c4]
              unfold m_X7_readPattern_55 m_X7_readPattern_71 rdo
              rw [if_neg n10, if_neg (show ¬ (112 : Nat) = 114 by omega), if_pos (show (112 : Nat) = 112 from rfl)]
              simp only [bn_bn, bn_s, eb0]
          · rw [if_neg c3] at hc; cases hc
