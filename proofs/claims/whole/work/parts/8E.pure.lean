-- ===== 8E: what will be executed =====
theorem PR_ext {s kd tg oc ln ct cn : Nat → Int32} {nx : Int32} {kd' tg' oc' ln' ct' cn' : Nat → Int32} (hP : PR s kd tg oc ln ct cn nx) (h1 : ∀ a, a < 48 → kd' a = kd a) (h2 : ∀ a, a < 48 → tg' a = tg a) (h3 : ∀ a, a < 48 → oc' a = oc a) (h4 : ∀ a, a < 48 → ln' a = ln a) (h5 : ∀ a, a < 48 → ct' a = ct a) (h6 : ∀ a, a < 48 → cn' a = cn a) : PR s kd' tg' oc' ln' ct' cn' nx := by
  refine ⟨fun a ha => ?_, hP.2⟩
  rw [h1 a ha, h2 a ha, h3 a ha, h4 a ha, h5 a ha, h6 a ha]
  exact hP.1 a ha
theorem prog_copy {kd tg oc ln ct cn : Nat → Int32} {nx : Int32} {kd2 tg2 oc2 ln2 ct2 cn2 : Nat → Int32} {nx2 : Int32} : m_X4_copyFrom kd tg oc ln ct cn nx kd2 tg2 oc2 ln2 ct2 cn2 nx2 = some (va_cpy kd kd2 0 0 48, va_cpy tg tg2 0 0 48, va_cpy oc oc2 0 0 48, va_cpy ln ln2 0 0 48, va_cpy ct ct2 0 0 48, va_cpy cn cn2 0 0 48, nx) := by
  unfold m_X4_copyFrom
  rw [cpb48, cl0, cl48, gd_s, bdE, gd_s, bdE, gd_s, bdE, gd_s, bdE, gd_s, bdE, gd_s, bdE]
theorem PR_copy {s kd tg oc ln ct cn : Nat → Int32} {nx : Int32} (hP : PR s kd tg oc ln ct cn nx) (kd2 tg2 oc2 ln2 ct2 cn2 : Nat → Int32) : PR s (va_cpy kd kd2 0 0 48) (va_cpy tg tg2 0 0 48) (va_cpy oc oc2 0 0 48) (va_cpy ln ln2 0 0 48) (va_cpy ct ct2 0 0 48) (va_cpy cn cn2 0 0 48) nx := PR_ext hP (fun a ha => cpy_lt ha) (fun a ha => cpy_lt ha) (fun a ha => cpy_lt ha) (fun a ha => cpy_lt ha) (fun a ha => cpy_lt ha) (fun a ha => cpy_lt ha)
theorem r_aside_loop {s : Nat → Int32} : ∀ k i n (v : Nat → Int32), i + k = 389 → k < n → ∃ u, m_X7_putAside_2 s n v (nI i) = some u ∧ (∀ l, i ≤ l → l < 389 → u l = s l) ∧ ∀ j, j < i → u j = v j := by
  intro k
  induction k with
  | zero =>
    intro i n v h1 h2
    obtain ⟨n, rfl⟩ : ∃ z, n = z + 1 := ⟨n - 1, by omega⟩
    refine ⟨v, ?_, fun l h3 h4 => by omega, fun j _ => rfl⟩
    rw [m_X7_putAside_2, if_pos (show (389 : Int32) ≤ nI i from leN_t (a := 389) (by omega) (by omega))]
  | succ k ih =>
    intro i n v h1 h2
    obtain ⟨n, rfl⟩ : ∃ z, n = z + 1 := ⟨n - 1, by omega⟩
    obtain ⟨u, u1, u2, u3⟩ := ih (i + 1) n (upd v i (s i)) (by omega) (by omega)
    refine ⟨u, ?_, fun l h3 h4 => ?_, fun j h3 => ?_⟩
    · rw [m_X7_putAside_2, if_neg (show ¬ (389 : Int32) ≤ nI i from leN_f (a := 389) (by omega) (by omega)), inbN (by omega) (by omega), gd_s, gd_s, bdE, bdE, nI1, clN (by omega)]
      exact u1
    · by_cases e : l = i
      · rw [e, u3 i (by omega), upd_s]
      · exact u2 l (by omega) h4
    · rw [u3 j (by omega), upd_n (by omega)]
theorem r_aside (s v : Nat → Int32) : ∃ u, m_X7_putAside s v = some u ∧ ∀ l, l < 389 → u l = s l := by
  obtain ⟨u, u1, u2, -⟩ := r_aside_loop (s := s) 389 0 4000 v (by omega) (by omega)
  refine ⟨u, ?_, fun l h => u2 l (by omega) h⟩
  unfold m_X7_putAside
  exact u1
theorem r_back_loop {v : Nat → Int32} : ∀ k i n (s : Nat → Int32), i + k = 389 → k < n → ∃ u, m_X7_putBack_2 v n s (nI i) = some u ∧ (∀ l, i ≤ l → l < 389 → u l = v l) ∧ ∀ j, j < i → u j = s j := by
  intro k
  induction k with
  | zero =>
    intro i n s h1 h2
    obtain ⟨n, rfl⟩ : ∃ z, n = z + 1 := ⟨n - 1, by omega⟩
    refine ⟨s, ?_, fun l h3 h4 => by omega, fun j _ => rfl⟩
    rw [m_X7_putBack_2, if_pos (show (389 : Int32) ≤ nI i from leN_t (a := 389) (by omega) (by omega))]
  | succ k ih =>
    intro i n s h1 h2
    obtain ⟨n, rfl⟩ : ∃ z, n = z + 1 := ⟨n - 1, by omega⟩
    obtain ⟨u, u1, u2, u3⟩ := ih (i + 1) n (upd s i (v i)) (by omega) (by omega)
    refine ⟨u, ?_, fun l h3 h4 => ?_, fun j h3 => ?_⟩
    · rw [m_X7_putBack_2, if_neg (show ¬ (389 : Int32) ≤ nI i from leN_f (a := 389) (by omega) (by omega)), inbN (by omega) (by omega), gd_s, gd_s, bdE, bdE, nI1, clN (by omega)]
      exact u1
    · by_cases e : l = i
      · rw [e, u3 i (by omega), upd_s]
      · exact u2 l (by omega) h4
    · rw [u3 j (by omega), upd_n (by omega)]
theorem r_back (v s : Nat → Int32) : ∃ u, m_X7_putBack v s = some u ∧ ∀ l, l < 389 → u l = v l := by
  obtain ⟨u, u1, u2, -⟩ := r_back_loop (v := v) 389 0 4000 s (by omega) (by omega)
  refine ⟨u, ?_, fun l h => u2 l (by omega) h⟩
  unfold m_X7_putBack
  exact u1
/-- the reference's row without the counters is that of S -/
def AG (s S : Nat → Int32) : Prop := S 288 = s 288 ∧ ∀ a, a < 48 → S (6 * a) = s (6 * a) ∧ S (6 * a + 1) = s (6 * a + 1) ∧ S (6 * a + 2) = s (6 * a + 2) ∧ S (6 * a + 3) = s (6 * a + 3) ∧ S (6 * a + 4) = s (6 * a + 4)
theorem AG_tk {s S : Nat → Int32} (h : AG s S) {a : Nat} (ha : a < 48) : tk S a = tk s a := by
  obtain ⟨h1, h2, h3, h4, h5⟩ := h.2 a ha
  unfold tk
  rw [h1, h3, h4, h5]
theorem AG_sc {s S : Nat → Int32} (h : AG s S) {a : Nat} (ha : a < 48) (t : Bool) : sc S a t = sc s a t := by
  obtain ⟨h1, h2, h3, h4, h5⟩ := h.2 a ha
  unfold sc
  rw [h1, h2]
/-- the reference's row after an instruction -/
def sx (s : Nat → Int32) (a : Nat) : Nat → Int32 := upd (upd s 288 (sc s a (tk s a))) (6 * a + 4) (s (6 * a + 4) + (if s (6 * a) = 2 then 1 else 0))
theorem r_will_s {s v : Nat → Int32} (hI : PI s) {a : Nat} (ha : a < 48) (hs : s 288 = nI a) {c i n : Nat} (hc : c < 1000) (hi : i < c) : m_X7_executedBehind_6 (nI c) (n + 1) s v (nI i) = m_X7_executedBehind_6 (nI c) n (sx s a) v (nI (i + 1)) := by
  have e1 : upd s 288 (sc s a (tk s a)) (6 * a + 4) = s (6 * a + 4) := upd_n (by omega)
  have e2 : upd s 288 (sc s a (tk s a)) (6 * a) = s (6 * a) := upd_n (by omega)
  rw [m_X7_executedBehind_6, if_neg (leN_f (by omega) hi), inb288, gd_s, cl288, hs, bdE, r_taken hI ha, bn_s, r_succ ha, bn_s, gd_s, bdE, of_4, bn_s, inbN (by omega) (by omega), gd_s, of_0, bn_s, inbN (by omega) (by omega), gd_s, clN (by omega), clN (by omega), e1, e2]
  unfold m_X7_executedBehind_68 sx
  rw [inbN (by omega) (by omega), gd_s, gd_s, clN (by omega)]
  simp only [bdE, nI1]
  by_cases g : s (6 * a) = 2
  · rw [if_pos g, if_pos g]
  · rw [if_neg g, if_neg g]
theorem sx_PI {s : Nat → Int32} (hI : PI s) {a : Nat} (ha : a < 48) : PI (sx s a) := by
  have f : ∀ j, j ≠ 288 → j ≠ 6 * a + 4 → sx s a j = s j := fun j h1 h2 => by
    unfold sx
    rw [upd_n h2, upd_n h1]
  obtain ⟨q, hq, hq2⟩ := sc_in hI ha (tk s a)
  refine ⟨fun b hb => ?_, q, hq, ?_⟩
  · rw [f _ (by omega) (by omega), f _ (by omega) (by omega), f _ (by omega) (by omega), f _ (by omega) (by omega)]
    exact hI.1 b hb
  · unfold sx
    rw [upd_n (by omega), upd_s, hq2]
theorem sx_AG {s S : Nat → Int32} (h : AG s S) {a : Nat} (ha : a < 48) {S' : Nat → Int32} (h1 : ∀ j, j < 288 → S' j = sb S a false j) (h2 : S' 288 = sc S a (tk S a)) : AG (sx s a) S' := by
  have f : ∀ j, j ≠ 288 → j ≠ 6 * a + 4 → sx s a j = s j := fun j g1 g2 => by
    unfold sx
    rw [upd_n g2, upd_n g1]
  have g : ∀ j, j < 288 → j ≠ 6 * a + 4 → j ≠ 6 * a + 5 → S' j = S j := fun j g1 g2 g3 => by
    rw [h1 j g1, sb_f g2 g3 (by omega) (by omega)]
  refine ⟨?_, fun b hb => ?_⟩
  · rw [h2, AG_tk h ha, AG_sc h ha]
    unfold sx
    rw [upd_n (by omega), upd_s]
  · obtain ⟨k1, k2, k3, k4, k5⟩ := h.2 b hb
    refine ⟨?_, ?_, ?_, ?_, ?_⟩
    · rw [g _ (by omega) (by omega) (by omega), f _ (by omega) (by omega), k1]
    · rw [g _ (by omega) (by omega) (by omega), f _ (by omega) (by omega), k2]
    · rw [g _ (by omega) (by omega) (by omega), f _ (by omega) (by omega), k3]
    · rw [g _ (by omega) (by omega) (by omega), f _ (by omega) (by omega), k4]
    · by_cases e : b = a
      · subst e
        obtain ⟨m1, -⟩ := h.2 b hb
        have e4 : sx s b (6 * b + 4) = s (6 * b + 4) + (if s (6 * b) = 2 then 1 else 0) := by
          unfold sx
          rw [upd_s]
        rw [h1 _ (by omega), e4]
        unfold sb
        by_cases c2 : S (6 * b) = 2
        · rw [if_pos c2, eb_4 hb, upd_s, k5, if_pos (by rw [← m1]; exact c2)]
        · rw [if_neg c2, k5, if_neg (by rw [← m1]; exact c2), Int32.add_zero]
      · rw [g _ (by omega) (by omega) (by omega), f _ (by omega) (by omega), k5]
theorem will_loop {pk pt po pl pc pn : Nat → Int32} {px : Int32} {v : Nat → Int32} {c : Nat} (hc : c < 1000) : ∀ k i n1 n2 (s S kd tg oc ln ct cn : Nat → Int32) (nx : Int32), i + k = c → k < n1 → k < n2 → PI s → PI S → AG s S → PR S kd tg oc ln ct cn nx → ∃ x e ct' cn' nx', x = e 288 ∧ m_X7_executedBehind_6 (nI c) n1 s v (nI i) = bn (m_X7_putBack v e) (fun y => some (x, y, v)) ∧ m_X6_willExecute_36 pk pt po pl pc pn px (nI c) n2 kd tg oc ln ct cn nx (nI i) = some (0, x, kd, tg, oc, ln, ct', cn', nx') := by
  intro k
  induction k with
  | zero =>
    intro i n1 n2 s S kd tg oc ln ct cn nx h1 h2 h3 hI hJ hA hP
    obtain ⟨n1, rfl⟩ : ∃ z, n1 = z + 1 := ⟨n1 - 1, by omega⟩
    obtain ⟨n2, rfl⟩ : ∃ z, n2 = z + 1 := ⟨n2 - 1, by omega⟩
    have hx : nx = s 288 := hP.2.trans hA.1
    refine ⟨s 288, s, ct, cn, nx, rfl, ?_, ?_⟩
    · rw [m_X7_executedBehind_6, if_pos (leN_t (by omega) (by omega)), inb288, gd_s, cl288, bdE]
    · rw [m_X6_willExecute_36, if_pos (leN_t (by omega) (by omega)), hx]
  | succ k ih =>
    intro i n1 n2 s S kd tg oc ln ct cn nx h1 h2 h3 hI hJ hA hP
    obtain ⟨n1, rfl⟩ : ∃ z, n1 = z + 1 := ⟨n1 - 1, by omega⟩
    obtain ⟨n2, rfl⟩ : ∃ z, n2 = z + 1 := ⟨n2 - 1, by omega⟩
    obtain ⟨a, ha, hs⟩ := hI.2
    have hS : S 288 = nI a := hA.1.trans hs
    obtain ⟨q, hq, hq2⟩ := sc_in hJ ha (tk S a)
    obtain ⟨p1, p2, p3⟩ := sb_p hP hJ ha false (t := upd (sb S a false) 288 (nI q)) hq (fun j hj => upd_n (by omega)) upd_s
    have p4 : AG (sx s a) (upd (sb S a false) 288 (nI q)) := sx_AG hA ha (fun j hj => upd_n (by omega)) (by rw [upd_s, hq2])
    obtain ⟨x, e, ct', cn', nx', x0, x1, x2⟩ := ih (i + 1) n1 n2 (sx s a) (upd (sb S a false) 288 (nI q)) kd tg oc ln (nct S ct a) (ncn S cn a) (nI q) (by omega) (by omega) (by omega) (sx_PI hI ha) p2 p4 p1
    refine ⟨x, e, ct', cn', nx', x0, ?_, ?_⟩
    · rw [r_will_s hI ha hs hc (by omega)]
      exact x1
    · rw [m_X6_willExecute_36, if_neg (leN_f (by omega) (by omega)), k_step hJ hP ha hS, bn_s, bdE, nI1, hq2]
      exact x2
theorem will_case {s kd tg oc ln ct cn : Nat → Int32} {nx : Int32} (hP : PR s kd tg oc ln ct cn nx) (hI : PI s) (O : Nat → Int64) (rk rt ro rl rc rn : Nat → Int32) (rx : Int32) (tw : Int32) (v : Nat → Int32) (x1 : Int32) : ∃ k O' b rk' rt' ro' rl' rc' rn' rx' t v', m_L_willExecute kd tg oc ln ct cn nx O rk rt ro rl rc rn rx x1 = some (k, O', rk', rt', ro', rl', rc', rn', rx') ∧ m_X7_willExecute tw s v x1 = some (b, k, t, v') ∧ (k = 0 → lg_cmp (O' (Int32.toNatClampNeg 0)) (Int32.toInt64 b) = 0) ∧ ∀ j, j < 389 → t j = s j := by
  by_cases hx : 0 ≤ x1 ∧ x1 ≤ 99
  · have r0 := r_in_t hx.1 hx.2
    have g0 : ¬ x1 < 0 := by rw [i32_lt0]; exact not_not_intro hx.1
    have g1 : x1 < 100 := by rw [i32_lt100]; exact hx.2
    obtain ⟨c, -, hc, rfl⟩ := rng (lo := 0) (hi := 99) (by omega) (by omega) hx.1 hx.2
    obtain ⟨u, u1, u2⟩ := r_aside s v
    obtain ⟨x, e, ct', cn', nx', x0, y1, y2⟩ := will_loop (pk := kd) (pt := tg) (po := oc) (pl := ln) (pc := ct) (pn := cn) (px := nx) (v := u) (show c < 1000 by omega) c 0 4000 4000 s s (va_cpy kd rk 0 0 48) (va_cpy tg rt 0 0 48) (va_cpy oc ro 0 0 48) (va_cpy ln rl 0 0 48) (va_cpy ct rc 0 0 48) (va_cpy cn rn 0 0 48) nx (by omega) (by omega) (by omega) hI hI ⟨rfl, fun a ha => ⟨rfl, rfl, rfl, rfl, rfl⟩⟩ (PR_copy hP _ _ _ _ _ _)
    obtain ⟨b, b1, b2⟩ := r_back u e
    rw [b1, bn_s] at y1
    have y1' : m_X7_executedBehind_6 (nI c) 4000 s u 0 = some (x, b, u) := y1
    have y2' : m_X6_willExecute_36 kd tg oc ln ct cn nx (nI c) 4000 (va_cpy kd rk 0 0 48) (va_cpy tg rt 0 0 48) (va_cpy oc ro 0 0 48) (va_cpy ln rl 0 0 48) (va_cpy ct rc 0 0 48) (va_cpy cn rn 0 0 48) nx 0 = some (0, x, va_cpy kd rk 0 0 48, va_cpy tg rt 0 0 48, va_cpy oc ro 0 0 48, va_cpy ln rl 0 0 48, ct', cn', nx') := y2
    refine ⟨0, vp_updL O (Int32.toNatClampNeg 0) (Int32.toInt64 x), x, va_cpy kd rk 0 0 48, va_cpy tg rt 0 0 48, va_cpy oc ro 0 0 48, va_cpy ln rl 0 0 48, ct', cn', nx', b, u, ?_, ?_, fun _ => O_ok, fun j hj => (b2 j hj).trans (u2 j hj)⟩
    · unfold m_L_willExecute m_X6_willExecute
      rw [if_neg g0, if_pos g1, prog_copy, bn_s, y2', bn_s, if_pos rfl, inb0_1, gd_s, bdE]
    · unfold m_X7_willExecute m_X7_willExecute_16 m_X7_willExecute_31 m_X7_executedBehind
      rw [r0, bn_s, if_neg (by first | decide | (dsimp only; decide)), r_holds0, bn_s, if_neg (by first | decide | (dsimp only; decide)), u1, bn_s, y1', bn_s]
  · have kk : m_X6_willExecute kd tg oc ln ct cn nx rk rt ro rl rc rn rx x1 = some (1, 0, rk, rt, ro, rl, rc, rn, rx) := by
      unfold m_X6_willExecute m_X6_willExecute_10
      simp only [i32_lt0, i32_lt100]
      by_cases g : 0 ≤ x1
      · rw [if_neg (not_not_intro g), if_neg (fun g' => hx ⟨g, g'⟩)]
      · rw [if_pos g]
    refine ⟨1, O, 0, rk, rt, ro, rl, rc, rn, rx, s, v, ?_, ?_, fun g => by simp at g, fun j hj => rfl⟩
    · unfold m_L_willExecute
      rw [kk, bn_s, if_neg (by first | decide | (dsimp only; decide)), if_pos rfl]
    · unfold m_X7_willExecute m_X7_willExecute_16 m_X7_willExecute_31
      rw [r_in_f hx, bn_s, if_pos rfl, r_holds1, bn_s, if_pos rfl]
