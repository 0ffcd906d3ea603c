-- ===== 75: writing an instruction =====
def hgp (s : Nat → Int32) (a : Nat) : Nat → Bool := fun i => decide (s (370 + i) = nI a)
def hasp (s : Nat → Int32) (a : Nat) : Bool := ex (hgp s a) (zp s) 0
theorem r_pend_loop {s : Nat → Int32} (hQ : QI s 7) {a : Nat} {x2 x3 x4 : Int32} : ∀ k i n b, i + k = zp s → k < n → m_X7_writes_44 (nI a) x2 x3 n s x4 (b2i b) (nI i) = m_X7_writes_114 (nI a) x2 x3 s x4 369 (if (b || ex (hgp s a) k i) = true then 0 else s 369) := by
  have h8 := hQ.1
  intro k
  induction k with
  | zero =>
    intro i n b h1 h3
    obtain ⟨n, rfl⟩ : ∃ z, n = z + 1 := ⟨n - 1, by omega⟩
    rw [m_X7_writes_44, inb369, gd_s, cl369, hQ.2.1, if_pos (leN_t (by omega) (by omega)), gd_s]
    cases b
    · rw [if_pos (show b2i false = 0 from rfl), if_neg (by simp [ex])]
    · rw [if_neg (show ¬ b2i true = 0 by decide), if_pos (by simp)]
  | succ k ih =>
    intro i n b h1 h3
    obtain ⟨n, rfl⟩ : ∃ z, n = z + 1 := ⟨n - 1, by omega⟩
    have t1 := ih (i + 1) n true (by omega) (by omega)
    have f1 := ih (i + 1) n false (by omega) (by omega)
    rw [b2i_t] at t1
    rw [b2i_f] at f1
    rw [m_X7_writes_44, inb369, gd_s, cl369, hQ.2.1, if_neg (leN_f (by omega) (by omega)), bdE, add370, inbN (by omega) (by omega), gd_s, clN (by omega)]
    unfold m_X7_writes_77 m_X7_writes_82
    simp only [bdE, nI1]
    rw [t1, f1]
    cases b
    · rw [if_pos (show b2i false = 0 from rfl)]
      by_cases hq : s (370 + i) = nI a
      · rw [if_pos hq]
        simp [ex, hgp, hq, hQ.2.1]
      · rw [if_neg hq]
        simp [ex, hgp, hq, hQ.2.1]
    · rw [if_neg (show ¬ b2i true = 0 by decide)]
      simp
theorem k_pend_loop {s : Nat → Int32} {pn : Int32} {row : Nat → Int32} (hQ : QI s 7) (hR : QR s pn row) {a : Nat} : ∀ k i n, i + k = zp s → k < n → m_X3_pendingHolds_2 pn row (nI a) n (nI i) = some (b2i (ex (hgp s a) k i)) := by
  have h8 := hQ.1
  have hpn : pn = nI (zp s) := hR.1.trans hQ.2.1
  subst hpn
  intro k
  induction k with
  | zero =>
    intro i n h1 h3
    obtain ⟨n, rfl⟩ : ∃ z, n = z + 1 := ⟨n - 1, by omega⟩
    rw [m_X3_pendingHolds_2, if_pos (leN_t (by omega) (by omega))]
    rfl
  | succ k ih =>
    intro i n h1 h3
    obtain ⟨n, rfl⟩ : ∃ z, n = z + 1 := ⟨n - 1, by omega⟩
    rw [m_X3_pendingHolds_2, if_neg (leN_f (by omega) (by omega)), inbN (by omega) (by omega), gd_s, clN (by omega), hR.2 i (by omega), bdE, nI1, ih (i + 1) n (by omega) (by omega)]
    by_cases hq : s (370 + i) = nI a
    · rw [if_pos hq]
      simp [ex, hgp, hq, b2i]
    · rw [if_neg hq]
      simp [ex, hgp, hq]
theorem MR_clear {s t : Nat → Int32} {pn : Int32} {row : Nat → Int32} {M : Nat → Nat → Int32} {sz us : Nat → Int32} {lu pu re : Int32} {B : Nat} (hM : MR s pn row M sz us lu pu re B) (h0 : t 369 = 0) (h : ∀ j, 289 ≤ j → j < 379 → j ≠ 369 → t j = s j) (h2 : t 386 = s 386) (h3 : t 387 = s 387) : MR t 0 row M sz us lu pu re B := by
  obtain ⟨hC, hL, hQ, hR, hU⟩ := hM
  have z0 : zp t = 0 := by unfold zp; rw [h0]; rfl
  exact ⟨CR_congr hL (fun j g1 g2 => h j g1 (by omega) (by omega)) (h _ (by omega) (by omega) (by omega)) h2 h3 hC, LI_congr (fun j g1 g2 => h j g1 (by omega) (by omega)) hL, ⟨by omega, by rw [z0, h0]; rfl, fun i hi => by omega⟩, ⟨h0.symm, fun i hi => by omega⟩, UI_congr (fun j g1 g2 => h j g1 (by omega) (by omega)) (h _ (by omega) (by omega) (by omega)) hU⟩
theorem r_114 {s : Nat → Int32} {a : Nat} (ha : a < 48) {x2 x3 x4 v : Int32} : m_X7_writes_114 (nI a) x2 x3 s x4 369 v = some (x4, upd (upd (upd s 369 v) (6 * a) x2) (6 * a + 1) (if x2 = 0 then -1 else x3)) := by
  unfold m_X7_writes_114 m_X7_writes_144
  rw [inb369, gd_s, cl369, bdE, of_0, bn_s, inbN (by omega) (by omega), gd_s, clN (by omega), bdE, of_1, bn_s, inbN (by omega) (by omega), gd_s, gd_s, clN (by omega), bdE, bdE]
  by_cases h : x2 = 0
  · rw [if_pos h, if_pos h]
  · rw [if_neg h, if_neg h]
theorem write_sim {s kd tg oc ln : Nat → Int32} {pn tm ft xe th ms fl lf : Int32} {row : Nat → Int32} {M : Nat → Nat → Int32} {sz us : Nat → Int32} {lu pu re : Int32} {ct cn : Nat → Int32} {nx dr : Int32} {B : Nat} (h : FRl s kd tg oc ln pn tm ft xe th ms fl lf row M sz us lu pu re ct cn nx B) {a t : Nat} (ha : a < 48) (ht : t < 48) {x2 : Int32} (h2 : x2 = 0 ∨ x2 = 1 ∨ x2 = 2) :
    ∃ cnt T pn' sz', m_X7_writes s (nI a) x2 (nI t) = some (nI cnt, T) ∧ m_X3_put row M pn sz dr kd tg (nI a) x2 (nI t) = some (nI cnt, pn', sz', dr + nI cnt, upd kd a x2, upd tg a (nI t)) ∧ FRl T (upd kd a x2) (upd tg a (nI t)) oc ln pn' tm ft xe th ms fl lf row M sz' us lu pu re ct cn nx B ∧ T 388 = s 388 + nI cnt := by
  obtain ⟨hP, hI, hM, v1, v2, v3, v4, v5, v6, v7⟩ := h
  obtain ⟨cnt, S, sz', a1, a2, a3, a4, a5⟩ := drop_loop (a := a) (x2 := x2) (x3 := nI t) 8 0 4000 4000 0 s pn row M sz us lu pu re B dr (by omega) (by omega) (by omega) hM
  rw [Nat.zero_add] at a1 a2
  have hq := a3.2.2.1.1
  have b1 := r_pend_loop a3.2.2.1 (a := a) (x2 := x2) (x3 := nI t) (x4 := nI cnt) (zp S) 0 4000 false (by omega) (by omega)
  have b2 := k_pend_loop hM.2.2.1 hM.2.2.2.1 (a := a) (zp s) 0 4000 (by omega) (by have := hM.2.2.1.1; omega)
  have ez : zp S = zp s := by unfold zp; rw [a5 _ (by omega) (by omega)]
  have eg : ∀ k i, i + k ≤ 8 → ex (hgp S a) k i = ex (hgp s a) k i := by
    intro k i hki
    refine ex_cong (fun j g1 g2 => ?_)
    unfold hgp
    rw [a5 _ (by omega) (by omega)]
  rw [Bool.false_or, eg _ _ (by omega), ez] at b1
  obtain ⟨V, hV⟩ : ∃ V : Int32, V = if ex (hgp s a) (zp s) 0 = true then 0 else S 369 := ⟨_, rfl⟩
  rw [← hV, r_114 ha] at b1
  obtain ⟨T, hT⟩ : ∃ T, T = upd (upd (upd S 369 V) (6 * a) x2) (6 * a + 1) (if x2 = 0 then -1 else nI t) := ⟨_, rfl⟩
  rw [← hT] at b1
  have T0 : T (6 * a) = x2 := by rw [hT, upd_n (by omega), upd_s]
  have T1 : T (6 * a + 1) = if x2 = 0 then -1 else nI t := by rw [hT, upd_s]
  have T369 : T 369 = V := by rw [hT, upd_n (by omega), upd_n (by omega), upd_s]
  have TS : ∀ j, j ≠ 369 → j ≠ 6 * a → j ≠ 6 * a + 1 → T j = S j := fun j g1 g2 g3 => by rw [hT, upd_n g3, upd_n g2, upd_n g1]
  have Ts : ∀ j, j < 289 → j ≠ 6 * a → j ≠ 6 * a + 1 → T j = s j := fun j g1 g2 g3 => by rw [TS j (by omega) g2 g3, a5 j (by omega) (by omega)]
  have Tc : ∀ j, 370 ≤ j → j ≠ 388 → T j = s j := fun j g1 g2 => by rw [TS j (by omega) (by omega) (by omega), a5 j (by omega) g2]
  have hMT : MR T (if ex (hgp s a) (zp s) 0 = true then 0 else pn) row M sz' us lu pu re B := by
    by_cases c : ex (hgp s a) (zp s) 0 = true
    · rw [if_pos c]
      refine MR_clear a3 ?_ (fun j g1 g2 g3 => TS j g3 (by omega) (by omega)) (TS _ (by omega) (by omega) (by omega)) (TS _ (by omega) (by omega) (by omega))
      rw [T369, hV, if_pos c]
    · rw [if_neg c]
      refine MR_congr (fun j g1 g2 => ?_) (TS _ (by omega) (by omega) (by omega)) (TS _ (by omega) (by omega) (by omega)) a3
      by_cases e : j = 369
      · rw [e, T369, hV, if_neg c]
      · exact TS j e (by omega) (by omega)
  have hPT : PR T (upd kd a x2) (upd tg a (nI t)) oc ln ct cn nx := by
    refine ⟨fun b hb => ?_, by rw [Ts _ (by omega) (by omega) (by omega)]; exact hP.2⟩
    obtain ⟨p1, p2, p3, p4, p5, p6⟩ := hP.1 b hb
    rw [Ts (6 * b + 2) (by omega) (by omega) (by omega), Ts (6 * b + 3) (by omega) (by omega) (by omega), Ts (6 * b + 4) (by omega) (by omega) (by omega), Ts (6 * b + 5) (by omega) (by omega) (by omega)]
    by_cases e : b = a
    · rw [e, upd_s, upd_s, T0, T1]
      rw [e] at p3 p4 p5 p6
      exact ⟨rfl, fun g => by rw [if_neg g], p3, p4, p5, p6⟩
    · rw [upd_n e, upd_n e, Ts (6 * b) (by omega) (by omega) (by omega), Ts (6 * b + 1) (by omega) (by omega) (by omega)]
      exact ⟨p1, p2, p3, p4, p5, p6⟩
  have hIT : PI T := by
    refine ⟨fun b hb => ?_, by rw [Ts _ (by omega) (by omega) (by omega)]; exact hI.2⟩
    obtain ⟨p1, p2, p3, p4⟩ := hI.1 b hb
    rw [Ts (6 * b + 3) (by omega) (by omega) (by omega), Ts (6 * b + 5) (by omega) (by omega) (by omega)]
    by_cases e : b = a
    · rw [e, T0, T1]
      rw [e] at p3 p4
      exact ⟨h2, fun g => ⟨t, ht, by rw [if_neg g]⟩, p3, p4⟩
    · rw [Ts (6 * b) (by omega) (by omega) (by omega), Ts (6 * b + 1) (by omega) (by omega) (by omega)]
      exact ⟨p1, p2, p3, p4⟩
  refine ⟨cnt, T, if ex (hgp s a) (zp s) 0 = true then 0 else pn, sz', ?_, ?_, ⟨hPT, hIT, hMT, ?_, ?_, ?_, ?_, ?_, ?_, ?_⟩, ?_⟩
  · unfold m_X7_writes
    exact a1.trans b1
  · have hd : m_X0_dropHolding M sz dr (nI a) = some (nI cnt, sz', dr + nI cnt) := by
      unfold m_X0_dropHolding
      exact a2
    have hh : m_X3_pendingHolds pn row (nI a) = some (b2i (ex (hgp s a) (zp s) 0)) := by
      unfold m_X3_pendingHolds
      exact b2
    unfold m_X3_put m_X3_put_33
    rw [inbN ha (by omega), gd_s, clN (by omega), bdE, gd_s, bdE, hh, bn_s, hd, bn_s, bn_s]
    cases ex (hgp s a) (zp s) 0
    · rw [if_pos (show b2i false = 0 from rfl)]
      rfl
    · rw [if_neg (show ¬ b2i true = 0 by decide)]
      rfl
  · rw [Tc _ (by omega) (by omega)]; exact v1
  · rw [Tc _ (by omega) (by omega)]; exact v2
  · rw [Tc _ (by omega) (by omega)]; exact v3
  · rw [Tc _ (by omega) (by omega)]; exact v4
  · rw [Tc _ (by omega) (by omega)]; exact v5
  · rw [Tc _ (by omega) (by omega)]; exact v6
  · rw [Tc _ (by omega) (by omega)]; exact v7
  · rw [TS _ (by omega) (by omega) (by omega), a4]
