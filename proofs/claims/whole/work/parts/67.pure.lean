-- ===== 67: choosing, both sides =====
theorem inb288 : inb 288 389 = true := inbN (n := 288) (by omega) (by omega)
theorem cl288 : Int32.toNatClampNeg 288 = 288 := clN (n := 288) (by omega)
theorem inb379 : inb 379 389 = true := inbN (n := 379) (by omega) (by omega)
theorem cl379 : Int32.toNatClampNeg 379 = 379 := clN (n := 379) (by omega)
theorem inb380 : inb 380 389 = true := inbN (n := 380) (by omega) (by omega)
theorem cl380 : Int32.toNatClampNeg 380 = 380 := clN (n := 380) (by omega)
theorem inb381 : inb 381 389 = true := inbN (n := 381) (by omega) (by omega)
theorem cl381 : Int32.toNatClampNeg 381 = 381 := clN (n := 381) (by omega)
theorem inb382 : inb 382 389 = true := inbN (n := 382) (by omega) (by omega)
theorem cl382 : Int32.toNatClampNeg 382 = 382 := clN (n := 382) (by omega)
theorem inb383 : inb 383 389 = true := inbN (n := 383) (by omega) (by omega)
theorem cl383 : Int32.toNatClampNeg 383 = 383 := clN (n := 383) (by omega)
theorem inb384 : inb 384 389 = true := inbN (n := 384) (by omega) (by omega)
theorem cl384 : Int32.toNatClampNeg 384 = 384 := clN (n := 384) (by omega)
theorem inb385 : inb 385 389 = true := inbN (n := 385) (by omega) (by omega)
theorem cl385 : Int32.toNatClampNeg 385 = 385 := clN (n := 385) (by omega)
theorem cl0 : Int32.toNatClampNeg 0 = 0 := clN (n := 0) (by omega)
theorem inb0_8 : inb 0 8 = true := inbN (n := 0) (by omega) (by omega)
def WR (x : Nat) (way place : Int32) : Prop := (way = -1 ∧ place = -1) ∨ ∃ j, j < 2 ∧ way = nI j ∧ place = nI (2 * (x % 4) + j)
theorem ma_0 {x : Nat} (h : x < 48) : ma x 0 = x := by unfold ma; omega
theorem bp_lt {s : Nat → Int32} {x j : Nat} (h : bp s x = some j) : j < 2 ∧ hd s (2 * (x % 4) + j) x = true := by
  unfold bp at h
  by_cases c0 : hd s (2 * (x % 4)) x = true
  · rw [if_pos c0] at h
    by_cases c : hd s (2 * (x % 4) + 1) x = true ∧ ul s (2 * (x % 4)) < ul s (2 * (x % 4) + 1)
    · rw [if_pos c] at h
      cases h
      exact ⟨by omega, c.1⟩
    · rw [if_neg c] at h
      cases h
      exact ⟨by omega, c0⟩
  · rw [if_neg c0] at h
    by_cases c : hd s (2 * (x % 4) + 1) x = true
    · rw [if_pos c] at h
      cases h
      exact ⟨by omega, c⟩
    · rw [if_neg c] at h
      cases h
theorem bdE {α β : Type} (e : α) (k : α → Option β) : bd e k = k e := Eq.trans rfl rfl
theorem m1lt : (-1 : Int32) < 0 := by
  rw [i32_lt, show (-1 : Int32).toInt = -1 from rfl, show (0 : Int32).toInt = 0 from rfl]
  omega
theorem lk_end {s : Nat → Int32} {n : Nat} {A P : Nat → Int32} {m w x b : Int32} : m_X7_looks_18 s (n + 1) A P m w x b (-1) = if b = -1 then m_X7_looks_117 s A P m w x b (-1) else m_X7_looks_117 s A P m w x b (b - b / 2 * 2) := by
  rw [m_X7_looks_18, if_pos m1lt]
theorem choose_sim {s kd tg oc ln ct cn : Nat → Int32} {nx : Int32} {M : Nat → Nat → Int32} {sz us : Nat → Int32} {lu pu re : Int32} (hP : PR s kd tg oc ln ct cn nx) (hC : CR s M sz us lu pu re) (hL : LI s) {x : Nat} (hx : x < 48) (hs : s 288 = nI x) :
    ∃ (m : Nat) (a : Nat → Nat) (way place : Int32), 1 ≤ m ∧ m ≤ 8 ∧ (∀ i, i < m → a i < 48) ∧ WR x way place ∧ (∀ A0 P0 m0 w0, ∃ A P, m_X7_looks s A0 P0 m0 w0 = some (A, P, nI m, way) ∧ FA s A P a m) ∧ ∀ A0 P0 m0 w0, ∃ A P, m_X1_choose M sz kd tg cn nx A0 P0 m0 w0 = some (A, P, nI m, place) ∧ FA s A P a m := by
  obtain ⟨N, hN⟩ := fuel3
  have hq : x % 4 < 4 := Nat.mod_lt _ (by decide)
  have hnx : nx = nI x := hP.2.trans hs
  have hF0 : ∀ A P (a : Nat → Nat), FA s A P a 0 := fun A P a i hi => by omega
  have hr : ∀ A0 P0 m0 w0, m_X7_looks s A0 P0 m0 w0 = if bI s x = -1 then m_X7_looks_117 s A0 P0 0 w0 (nI x) (bI s x) (-1) else m_X7_looks_117 s A0 P0 0 w0 (nI x) (bI s x) (bI s x - bI s x / 2 * 2) := by
    intro A0 P0 m0 w0
    unfold m_X7_looks
    rw [inb288, gd_s, cl288, hs, bdE, hN]
    rw [lk_all hL hx, lk_end]
  have e2 : nI (2 * (x % 4)) + 2 = nI (2 * (x % 4) + 1 + 1) := nI_add (2 * (x % 4)) 2
  have hk : ∀ A0 P0 m0 w0, m_X1_choose M sz kd tg cn nx A0 P0 m0 w0 = m_X1_choose_25 M sz kd tg cn nx (N + 1) A0 P0 (match bp s x with | none => 0 | some j => nI (ul s (2 * (x % 4) + j))) (bI s x) (nI x) (nI (2 * (x % 4))) (nI (2 * (x % 4) + 1 + 1)) := by
    intro A0 P0 m0 w0
    unfold m_X1_choose
    rw [hnx, k_first hx, bn_s, hN]
    exact ch_all (n := N + 1) (hnx ▸ hP) hC hL hx
  have hf : (4000 : Nat) > 100 := by omega
  cases hb : bp s x with
  | none =>
    have hbI : bI s x = -1 := by unfold bI; rw [hb]
    refine ⟨wl (fun i => cont s (ma x i)) 3 0 + 1, ma x, -1, -1, by omega, ?_, fun i _ => ma_lt x i, Or.inl ⟨rfl, rfl⟩, fun A0 P0 m0 w0 => ?_, fun A0 P0 m0 w0 => ?_⟩
    · have := (wl_le (fun i => cont s (ma x i)) 3 0).2
      omega
    · obtain ⟨A', P', a1, a2⟩ := r_mem (s := s) (x := x) (w := -1) 3 0 4000 A0 P0 (by omega) (by omega) (hF0 _ _ _)
      refine ⟨A', P', ?_, a2⟩
      rw [ma_0 hx] at a1
      rw [hr, hbI, if_pos rfl]
      unfold m_X7_looks_117
      rw [if_pos rfl]
      exact a1
    · obtain ⟨A', a1, a2⟩ := k_mem hP (x := x) 3 0 4000 A0 0 (by omega) (by omega) (fun j hj => by omega)
      have hw := (wl_le (fun i => cont s (ma x i)) 3 0).2
      obtain ⟨P', b1, b2⟩ := k_pred_loop (M := M) (sz := sz) hP (A := A') (a := ma x) (m := wl (fun i => cont s (ma x i)) 3 0 + 1) (pl0 := -1) (by omega) (fun j hj => ⟨a2 j hj, ma_lt x j⟩) (wl (fun i => cont s (ma x i)) 3 0 + 1) 0 4000 P0 (by omega) (by omega) (hF0 _ _ _)
      refine ⟨A', P', ?_, b2⟩
      rw [hk, hbI, hb]
      rw [ma_0 hx] at a1
      have e : m_X1_choose_25 M sz kd tg cn nx (N + 1) A0 P0 0 (-1) (nI x) (nI (2 * (x % 4))) (nI (2 * (x % 4) + 1 + 1)) = bn (m_X1_fillFromMemory kd cn nx A0 0) (fun y91 => m_X1_choose_119 M sz kd tg cn nx y91.1 P0 y91.2 (-1)) := by
        rw [m_X1_choose_25, e2, if_pos (leN_t (by omega) (by omega)), if_pos rfl]
      refine e.trans ?_
      unfold m_X1_fillFromMemory
      have a1' : m_X1_fillFromMemory_10 kd cn nx 4000 A0 0 nx 0 0 = some (A', nI (wl (fun i => cont s (ma x i)) 3 0 + 1)) := by
        have h : m_X1_fillFromMemory_10 kd cn nx 4000 A0 0 nx 0 0 = m_X1_fillFromMemory_10 kd cn nx 4000 A0 0 (nI x) 0 (nI 0) := by
          rw [← hnx]
          rfl
        exact h.trans a1
      rw [a1', bn_s]
      exact b1
  | some j =>
    obtain ⟨hj, hh⟩ := bp_lt hb
    have hp : 2 * (x % 4) + j < 8 := by omega
    have hbI : bI s x = nI (2 * (x % 4) + j) := by unfold bI; rw [hb]
    have hn1 : ¬ nI (2 * (x % 4) + j) = -1 := nIm1 (by omega)
    have hu := ul_pos hL hp hh
    have hu2 := (ul_le hL hp).1
    have h8 := hL _ hp
    refine ⟨ul s (2 * (x % 4) + j), za s (2 * (x % 4) + j), nI j, nI (2 * (x % 4) + j), hu, by omega, fun i hi => (h8.2.2 i (by omega)).1, Or.inr ⟨j, hj, rfl, rfl⟩, fun A0 P0 m0 w0 => ?_, fun A0 P0 m0 w0 => ?_⟩
    · obtain ⟨A', P', a1, a2⟩ := r_line hL hp (w := nI j) (ul s (2 * (x % 4) + j)) 0 4000 A0 P0 (by omega) (by omega) (hF0 _ _ _)
      refine ⟨A', P', ?_, a2⟩
      have e : (2 * (x % 4) + j) % 2 = j := by omega
      rw [hr, hbI, if_neg hn1, mod2N (by omega), e]
      unfold m_X7_looks_117
      rw [if_neg hn1, r_usable hL hp, bn_s]
      exact a1
    · have hA : ∀ i, i < ul s (2 * (x % 4) + j) → va_cpy (M (2 * (x % 4) + j)) A0 0 0 (ul s (2 * (x % 4) + j)) i = nI (za s (2 * (x % 4) + j) i) ∧ za s (2 * (x % 4) + j) i < 48 := by
        intro i hi
        have h9 := h8.2.2 i (by omega)
        refine ⟨?_, h9.1⟩
        unfold va_cpy
        rw [if_pos (by omega), Nat.sub_zero, Nat.zero_add, (hC.1 _ hp).2.1 i (by omega)]
        exact h9.2
      obtain ⟨P', b1, b2⟩ := k_pred_loop (M := M) (sz := sz) hP (a := za s (2 * (x % 4) + j)) (pl0 := nI (2 * (x % 4) + j)) (by omega) hA (ul s (2 * (x % 4) + j)) 0 4000 P0 (by omega) (by omega) (hF0 _ _ _)
      refine ⟨_, P', ?_, b2⟩
      rw [hk, hbI, hb]
      have hc : cpb 0 0 (nI (ul s (2 * (x % 4) + j))) 8 8 = true := by
        unfold cpb
        rw [clN (by omega), nI_toInt (by omega), cl0]
        exact decide_eq_true ⟨by decide, by decide, by omega, by omega, by omega⟩
      have e : m_X1_choose_25 M sz kd tg cn nx (N + 1) A0 P0 (nI (ul s (2 * (x % 4) + j))) (nI (2 * (x % 4) + j)) (nI x) (nI (2 * (x % 4))) (nI (2 * (x % 4) + 1 + 1)) = m_X1_choose_119 M sz kd tg cn nx (va_cpy (M (2 * (x % 4) + j)) A0 0 0 (ul s (2 * (x % 4) + j))) P0 (nI (ul s (2 * (x % 4) + j))) (nI (2 * (x % 4) + j)) := by
        rw [m_X1_choose_25, e2, if_pos (leN_t (by omega) (by omega)), if_neg hn1, inbN hp (by omega), gd_s, hc, gd_s, cl0, clN (by omega), clN (by omega), bdE]
      exact e.trans b1
