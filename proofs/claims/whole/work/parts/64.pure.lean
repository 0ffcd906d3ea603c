-- ===== 64: store and collect =====
theorem nIm1 {a : Nat} (h : a < 2147483648) : ¬ nI a = -1 := by
  intro e
  have h1 := congrArg Int32.toInt e
  rw [nI_toInt h] at h1
  have h2 : (-1 : Int32).toInt = -1 := rfl
  omega
theorem k_use {us : Nat → Int32} {lu : Int32} {p : Nat} (hp : p < 8) : m_X0_use us lu (nI p) = some (upd us p (lu + 1), lu + 1) := by
  unfold m_X0_use
  simp (disch := omega) only [inbN, clN, gd_s, bd]
theorem k_first {x : Nat} (h : x < 48) : m_X0_firstPlaceFor (nI x) = some (nI (2 * (x % 4))) := by
  unfold m_X0_firstPlaceFor
  rw [show (4 : Int32) = nI 4 from rfl, show (2 : Int32) = nI 2 from rfl, pk_rem (by omega) (by omega) (by omega), pk_mul, Nat.mul_comm]
  rfl
theorem st_s {s : Nat → Int32} {M : Nat → Nat → Int32} {sz us row : Nat → Int32} {lu pu re pn : Int32} (hC : CR s M sz us lu pu re) (hL : LI s) (hQ : QI s 8) (hR : QR s pn row) {q j n : Nat} (hq : q < 4) (hj : j < 2 * q + 2) :
    m_X0_store_10 row (nI (zp s)) (n + 1) M sz us lu pu re (nI (2 * q)) (nI j) = if sm s j = true then some (M, sz, upd us j (lu + 1), lu + 1, pu, re) else m_X0_store_10 row (nI (zp s)) n M sz us lu pu re (nI (2 * q)) (nI (j + 1)) := by
  have e2 : nI (2 * q) + 2 = nI (2 * q + 2) := nI_add (2 * q) 2
  rw [m_X0_store_10, e2, if_neg (leN_f (by omega) (by omega)), k_same hC hL hQ hR (show j < 8 by omega), bn_s, k_use (show j < 8 by omega), bn_s, nI1]
  cases sm s j <;> rfl
theorem k_store_at {s : Nat → Int32} {M : Nat → Nat → Int32} {sz us row : Nat → Int32} {lu pu re : Int32} (hQ : QI s 8) {p : Nat} (hp : p < 8) :
    m_X0_store_69 row (nI (zp s)) M sz us lu pu re (nI p) = some (va_up M p (va_cpy row (M p) 0 0 (zp s)), upd sz p (nI (zp s)), upd us p (lu + 1), lu + 1, pu + 1, re) := by
  have hq := hQ.1
  have e0 : Int32.toNatClampNeg 0 = 0 := clN (n := 0) (by omega)
  have hc : cpb 0 0 (nI (zp s)) 8 8 = true := by
    unfold cpb
    rw [clN (by omega), nI_toInt (by omega), e0]
    exact decide_eq_true ⟨by decide, by decide, by omega, by omega, by omega⟩
  unfold m_X0_store_69
  simp (disch := omega) only [inbN, clN, gd_s, bd, hc, k_use hp, bn_s, e0]
theorem fuel3 : ∃ n : Nat, (4000 : Nat) = n + 1 + 1 + 1 := ⟨3997, rfl⟩
theorem stores_br {s : Nat → Int32} (hL : LI s) (hQ : QI s 8) (h0 : 0 < zp s) {q : Nat} (hqe : q = zq s 0 % 4) : m_X7_stores s = (if sm s (2 * q) = true then m_X7_stores_48 s (nI q) (nI (2 * q)) else if sm s (2 * q + 1) = true then m_X7_stores_48 s (nI q) (nI (2 * q + 1)) else m_X7_stores_48 s (nI q) (-1)) := by
  obtain ⟨hx, hx2⟩ := hQ.2.2 0 h0
  have hx3 : s 370 = nI (zq s 0) := hx2
  have hq : q < 4 := by omega
  have e4 : nI (zq s 0) - nI (zq s 0) / 4 * 4 = nI q := by rw [hqe]; exact pk_rem (d := 4) (by omega) (by omega) (by omega)
  have e5 : (2 : Int32) * nI q = nI (2 * q) := pk_mul 2 q
  unfold m_X7_stores
  rw [inb370, gd_s, cl370, hx3, e4]
  simp only [bd]
  rw [e5, nI1, r_same hL hQ (show 2 * q < 8 by omega), bn_s, r_same hL hQ (show 2 * q + 1 < 8 by omega), bn_s]
  cases sm s (2 * q) <;> cases sm s (2 * q + 1) <;> simp [b2i]
theorem store_sim {s : Nat → Int32} {M : Nat → Nat → Int32} {sz us row : Nat → Int32} {lu pu re pn : Int32} {B : Nat} (hC : CR s M sz us lu pu re) (hL : LI s) (hQ : QI s 8) (h0 : 0 < zp s) (hR : QR s pn row) (hU : UI s B) (hB : B + 1 < 2147483648) :
    ∃ t M' sz' us' lu' pu' re', m_X7_stores s = some t ∧ m_X0_store row M sz us lu pu re pn = some (M', sz', us', lu', pu', re') ∧ CR t M' sz' us' lu' pu' re' ∧ LI t ∧ UI t (B + 1) ∧ FR s t ∧ t 369 = 0 := by
  have hpn : pn = nI (zp s) := hR.1.trans hQ.2.1
  obtain ⟨hx, hx2⟩ := hQ.2.2 0 h0
  have hx3 : s 370 = nI (zq s 0) := hx2
  have hr0 : row 0 = nI (zq s 0) := (hR.2 0 h0).trans hx2
  obtain ⟨q, hqe⟩ : ∃ q, q = zq s 0 % 4 := ⟨_, rfl⟩
  have hq : q < 4 := by omega
  have er := stores_br hL hQ h0 hqe
  obtain ⟨n, hn⟩ := fuel3
  have ek : m_X0_store row M sz us lu pu re pn = (if sm s (2 * q) = true then some (M, sz, upd us (2 * q) (lu + 1), lu + 1, pu, re) else if sm s (2 * q + 1) = true then some (M, sz, upd us (2 * q + 1) (lu + 1), lu + 1, pu, re) else m_X0_store_10 row (nI (zp s)) (n + 1) M sz us lu pu re (nI (2 * q)) (nI (2 * q + 1 + 1))) := by
    unfold m_X0_store
    have e0 : Int32.toNatClampNeg 0 = 0 := clN (n := 0) (by omega)
    have i0 : inb 0 8 = true := inbN (n := 0) (by omega) (by omega)
    rw [i0, gd_s, e0, hr0, k_first hx, bn_s, ← hqe, hpn]
    rw [hn, st_s hC hL hQ hR hq (show 2 * q < 2 * q + 2 by omega), st_s hC hL hQ hR hq (show 2 * q + 1 < 2 * q + 2 by omega)]
  have hk0 : ∀ p, p < 8 → m_X7_stores_48 s (nI q) (nI p) = some (tch s p) := by
    intro p hp
    unfold m_X7_stores_48
    rw [if_neg (nIm1 (by omega))]
    exact r_touch hp
  have hT : ∀ p, p < 8 → ∃ t M' sz' us' lu' pu' re', some (tch s p) = some t ∧ some (M, sz, upd us p (lu + 1), lu + 1, pu, re) = some (M', sz', us', lu', pu', re') ∧ CR t M' sz' us' lu' pu' re' ∧ LI t ∧ UI t (B + 1) ∧ FR s t ∧ t 369 = 0 := by
    intro p hp
    obtain ⟨a1, a2, a3, a4⟩ := TT_all hp (tch_TT s hp) hC hL hU hB
    exact ⟨_, _, _, _, _, _, _, rfl, rfl, a1, a2, a3, a4, (tch_TT s hp).1⟩
  rw [er, ek]
  by_cases c0 : sm s (2 * q) = true
  · rw [if_pos c0, if_pos c0, hk0 _ (by omega)]
    exact hT _ (by omega)
  · rw [if_neg c0, if_neg c0]
    by_cases c1 : sm s (2 * q + 1) = true
    · rw [if_pos c1, if_pos c1, hk0 _ (by omega)]
      exact hT _ (by omega)
    · rw [if_neg c1, if_neg c1]
      have hp : pl s q < 8 := by unfold pl; split <;> omega
      have hz := hL (pl s q) hp
      have e2 : nI (2 * q) + 2 = nI (2 * q + 1 + 1) := nI_add (2 * q) 2
      obtain ⟨c, hc1, hc2⟩ : ∃ c : Int32, m_X7_stores_48 s (nI q) (-1) = m_X7_stores_87 s (nI (pl s q)) 387 (s 387) c ∧ m_X0_store_10 row (nI (zp s)) (n + 1) M sz us lu pu re (nI (2 * q)) (nI (2 * q + 1 + 1)) = m_X0_store_69 row (nI (zp s)) M sz us lu pu (re + c) (nI (pl s q)) := by
        rw [m_X0_store_10, e2, if_pos (leN_t (by omega) (by omega)), k_place hC hL hU hq, bn_s, inbN hp (by omega), gd_s, clN (by omega), (hC.1 _ hp).1, hz.2.1]
        unfold m_X7_stores_48
        rw [if_pos rfl, r_place hL hq, bn_s, inb387, gd_s, cl387, ofL_0, bn_s, inbN (by omega) (by omega), gd_s, clN (by omega), hz.2.1]
        have e0 : (nI (zs s (pl s q)) ≤ 0) = (zs s (pl s q) = 0) := leN0 (by omega)
        have er0 : re + 0 = re := Int32.add_zero re
        by_cases w : zs s (pl s q) = 0
        · exact ⟨0, by rw [if_pos (by rw [e0]; exact w)], by rw [if_pos (by rw [e0]; exact w), er0]⟩
        · exact ⟨1, by rw [if_neg (by rw [e0]; exact w)], by rw [if_neg (by rw [e0]; exact w)]; rfl⟩
      obtain ⟨t, h1, h2⟩ := r_store_at hQ hp c
      obtain ⟨a1, a2, a3, a4⟩ := TS_all hp h2 hC hL hQ hR hU hB
      rw [hpn] at a1
      exact ⟨t, _, _, _, _, _, _, hc1.trans h1, hc2.trans (k_store_at hQ hp), a1, a2, a3, a4, h2.1⟩
theorem collect_sim {s kd : Nat → Int32} {M : Nat → Nat → Int32} {sz us row : Nat → Int32} {lu pu re pn : Int32} {B f : Nat} (hk : ∀ a, a < 48 → kd a = s (6 * a)) (hC : CR s M sz us lu pu re) (hL : LI s) (hQ : QI s 7) (hR : QR s pn row) (hU : UI s B) (hB : B + 1 < 2147483648) (hf : f < 48) :
    ∃ t pn' row' M' sz' us' lu' pu' re', m_X7_adds s (nI f) = some t ∧ m_X3_collect kd pn row M sz us lu pu re (nI f) = some (pn', row', M', sz', us', lu', pu', re') ∧ CR t M' sz' us' lu' pu' re' ∧ LI t ∧ QI t 7 ∧ QR t pn' row' ∧ UI t (B + 1) ∧ FR s t := by
  have hq := hQ.1
  have hpn : pn = nI (zp s) := hR.1.trans hQ.2.1
  obtain ⟨S, hS⟩ : ∃ S, S = upd (upd s (370 + zp s) (nI f)) 369 (nI (zp s + 1)) := ⟨_, rfl⟩
  have S369 : S 369 = nI (zp s + 1) := by rw [hS, upd_s]
  have Sf : S (370 + zp s) = nI f := by rw [hS, upd_n (by omega), upd_s]
  have So : ∀ j, j ≠ 369 → j ≠ 370 + zp s → S j = s j := fun j h1 h2 => by rw [hS, upd_n h1, upd_n h2]
  have hzp : zp S = zp s + 1 := by
    show Int32.toNatClampNeg (S 369) = _
    rw [S369, clN (by omega)]
  have hzq : ∀ i, i < zp s → zq S i = zq s i := fun i hi => by unfold zq; rw [So _ (by omega) (by omega)]
  have hzf : zq S (zp s) = f := by unfold zq; rw [Sf, clN (by omega)]
  have QS : QI S 8 := by
    refine ⟨by omega, by rw [hzp]; exact S369, fun i hi => ?_⟩
    by_cases hx : i = zp s
    · subst hx
      rw [hzf, Sf]
      exact ⟨hf, rfl⟩
    · rw [hzq i (by omega), So _ (by omega) (by omega)]
      exact hQ.2.2 i (by omega)
  have RS : QR S (pn + 1) (upd row (zp s) (nI f)) := by
    refine ⟨by rw [S369, hpn, nI1], fun i hi => ?_⟩
    by_cases hx : i = zp s
    · subst hx
      rw [upd_s, Sf]
    · rw [upd_n hx, So _ (by omega) (by omega)]
      exact hR.2 i (by omega)
  have CS : CR S M sz us lu pu re := CR_congr hL (fun j h1 h2 => So j (by omega) (by omega)) (So _ (by omega) (by omega)) (So _ (by omega) (by omega)) (So _ (by omega) (by omega)) hC
  have LS : LI S := LI_congr (fun j h1 h2 => So j (by omega) (by omega)) hL
  have US : UI S B := UI_congr (fun j h1 h2 => So j (by omega) (by omega)) (So _ (by omega) (by omega)) hU
  have kS : ∀ a, a < 48 → kd a = S (6 * a) := fun a ha => by rw [So _ (by omega) (by omega)]; exact hk a ha
  have FS : FR s S := ⟨fun j hj => So j (by omega) (by omega), fun j h1 h2 h3 => So j (by omega) (by omega)⟩
  have er : m_X7_adds s (nI f) = if zp S = 8 then m_X7_stores S else if br S = 3 then m_X7_stores S else some S := by
    have hb := r_br QS
    have hbl : br S ≤ 8 := Nat.le_trans (ctb_le _ _ _) QS.1
    have e1 : upd s (370 + zp s) (nI f) 369 = nI (zp s) := by rw [upd_n (by omega)]; exact hQ.2.1
    have hm : ∀ x, m_X7_adds_51 x S = m_X7_stores S := by
      intro x
      unfold m_X7_adds_51
      cases m_X7_stores S <;> rfl
    unfold m_X7_adds
    rw [inb369, gd_s, cl369, hQ.2.1, add370, inbN (by omega) (by omega), gd_s, clN (by omega)]
    simp only [bd, gd_s]
    rw [e1, nI1, ← hS, S369, hb, bn_s, hm, ← hzp]
    have e8 : (nI (zp S) = 8) = (zp S = 8) := eqN8 (by omega)
    have e3 : (nI (br S) = 3) = (br S = 3) := eqN3 (by omega)
    simp only [e8, e3]
  have ek : m_X3_collect kd pn row M sz us lu pu re (nI f) = if zp S = 8 ∨ br S = 3 then bn (m_X0_store (upd row (zp s) (nI f)) M sz us lu pu re (pn + 1)) (fun y => some (0, upd row (zp s) (nI f), y.1, y.2.1, y.2.2.1, y.2.2.2.1, y.2.2.2.2.1, y.2.2.2.2.2)) else some (pn + 1, upd row (zp s) (nI f), M, sz, us, lu, pu, re) := by
    have hb := k_br kS QS RS
    have hbl : br S ≤ 8 := Nat.le_trans (ctb_le _ _ _) QS.1
    have e8 : (pn + 1 = 8) = (zp S = 8) := by rw [hpn, nI1, ← hzp]; exact eqN8 (by omega)
    have e3 : (nI (br S) = 3) = (br S = 3) := eqN3 (by omega)
    have e9 : ¬ (8 : Int32) ≤ pn := by rw [hpn, le8N (by omega)]; omega
    unfold m_X3_collect
    rw [if_neg e9, hpn, inbN (by omega) (by omega), gd_s, clN (by omega), ← hpn]
    simp only [bd]
    unfold m_X3_collect_29 m_X3_collect_46
    rw [hb, bn_s]
    simp only [e8, e3]
    by_cases c1 : zp S = 8
    · simp [c1]
    · by_cases c2 : br S = 3
      · simp [c2]
      · simp [c1, c2]
  rw [er, ek]
  by_cases c : zp S = 8 ∨ br S = 3
  · rw [if_pos c]
    have e : (if zp S = 8 then m_X7_stores S else if br S = 3 then m_X7_stores S else some S) = m_X7_stores S := by
      rcases c with c | c
      · rw [if_pos c]
      · simp [c]
    rw [e]
    obtain ⟨t, M', sz', us', lu', pu', re', h1, h2, h3, h4, h5, h6, h7⟩ := store_sim CS LS QS (by omega) RS US hB
    have hz0 : zp t = 0 := by unfold zp; rw [h7]; rfl
    refine ⟨t, 0, _, M', sz', us', lu', pu', re', h1, by rw [h2, bn_s], h3, h4, ⟨by omega, by rw [hz0]; exact h7, fun i hi => by omega⟩, ⟨h7.symm, fun i hi => by omega⟩, h5, fun j hj => (h6.1 j hj).trans (FS.1 j hj), fun j g1 g2 g3 => (h6.2 j g1 g2 g3).trans (FS.2 j g1 g2 g3)⟩
  · rw [if_neg c, if_neg (fun h => c (Or.inl h)), if_neg (fun h => c (Or.inr h))]
    obtain ⟨⟨u, a1, a2, a3⟩, a4⟩ := US
    exact ⟨S, _, _, _, _, _, _, _, _, rfl, rfl, CS, LS, ⟨by omega, QS.2⟩, RS, ⟨⟨u, by omega, a2, a3⟩, a4⟩, FS⟩
