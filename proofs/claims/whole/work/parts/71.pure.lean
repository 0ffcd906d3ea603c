-- ===== 71: a fetch, both sides =====
def FRl (s kd tg oc ln : Nat → Int32) (pn tm ft xe th ms fl lf : Int32) (row : Nat → Int32) (M : Nat → Nat → Int32) (sz us : Nat → Int32) (lu pu re : Int32) (ct cn : Nat → Int32) (nx : Int32) (B : Nat) : Prop := PR s kd tg oc ln ct cn nx ∧ PI s ∧ MR s pn row M sz us lu pu re B ∧ tm = s 379 ∧ ft = s 380 ∧ xe = s 381 ∧ th = s 382 ∧ ms = s 383 ∧ fl = s 384 ∧ lf = s 385
theorem k_tally {m p : Int32} {e d : Nat} {tm ft xe th ms fl lf : Int32} : m_X3_tally m p (nI e) (nI d) tm ft xe th ms fl lf = some (tm + 1 + nI (3 * d), ft + 1, xe + nI e, th + (m - nI e), ms + nI d, fl + wv p e, lf + wv p 1) := by
  have e1 : tm + (1 + (3 : Int32) * nI d) = tm + 1 + nI (3 * d) := by rw [show (3 : Int32) * nI d = nI (3 * d) from pk_mul 3 d, Int32.add_assoc]
  unfold m_X3_tally
  simp only [bdE, e1]
  unfold wv
  by_cases h : p = -1
  · simp only [h, if_true, Int32.add_zero]
  · simp only [h, if_false]
    rfl
theorem wv_w {x : Nat} {w p : Int32} (h : WR x w p) (n : Nat) : wv p n = wv w n := by
  unfold wv
  rcases h with ⟨h1, h2⟩ | ⟨j, h0, h1, h2⟩
  · rw [h1, h2]
  · rw [h1, h2, if_neg (nIm1 (by omega)), if_neg (nIm1 (by omega))]
theorem PR_congr {s t kd tg oc ln ct cn : Nat → Int32} {nx : Int32} (h : ∀ j, j < 289 → t j = s j) (hP : PR s kd tg oc ln ct cn nx) : PR t kd tg oc ln ct cn nx := by
  refine ⟨fun a ha => ?_, by rw [h _ (by omega)]; exact hP.2⟩
  rw [h _ (by omega), h _ (by omega), h _ (by omega), h _ (by omega), h _ (by omega), h _ (by omega)]
  exact hP.1 a ha
theorem PI_congr {s t : Nat → Int32} (h : ∀ j, j < 289 → t j = s j) (hP : PI s) : PI t := by
  refine ⟨fun a ha => ?_, by rw [h _ (by omega)]; exact hP.2⟩
  rw [h _ (by omega), h _ (by omega), h _ (by omega), h _ (by omega)]
  exact hP.1 a ha
/-- the row before executing -/
def fs1 (s : Nat → Int32) : Nat → Int32 := upd (upd s 380 (s 380 + 1)) 379 (s 379 + 1)
def fs2 (s : Nat → Int32) (p : Nat) : Nat → Int32 := upd (upd (upd (fs1 s) 385 (s 385 + 1)) 378 (s 378 + 1)) (290 + 10 * p) (s 378 + 1)
theorem r_fetches {s : Nat → Int32} {x : Nat} (hx : x < 48) (hs : s 288 = nI x) {A0 P0 : Nat → Int32} {m0 w0 : Int32} {A P : Nat → Int32} {m w : Int32} (hl : m_X7_looks s A0 P0 m0 w0 = some (A, P, m, w)) :
    (w = -1 → m_X7_fetches s A0 P0 m0 w0 = m_X7_fetches_80 4000 (fs1 s) A P m w 0) ∧ ∀ j, j < 2 → w = nI j → m_X7_fetches s A0 P0 m0 w0 = m_X7_fetches_80 4000 (fs2 s (2 * (x % 4) + j)) A P m w 0 := by
  have q1 : upd s 380 (s 380 + 1) 379 = s 379 := upd_n (by omega)
  have e1 : fs1 s 385 = s 385 := by unfold fs1; rw [upd_n (by omega), upd_n (by omega)]
  have e2 : upd (fs1 s) 385 (s 385 + 1) 288 = s 288 := by unfold fs1; rw [upd_n (by omega), upd_n (by omega), upd_n (by omega)]
  have e3 : upd (fs1 s) 385 (s 385 + 1) 378 = s 378 := by unfold fs1; rw [upd_n (by omega), upd_n (by omega), upd_n (by omega)]
  have hq : x % 4 < 4 := Nat.mod_lt _ (by decide)
  have hA : m_X7_fetches s A0 P0 m0 w0 = if w = -1 then m_X7_fetches_78 (fs1 s) A P m w else bn (m_X7_ofLine (2 * (nI x - nI x / 4 * 4) + w) 1) (fun y70 => bn (m_X7_nextUse (upd (fs1 s) 385 (s 385 + 1))) (fun y74 => gd (inb y70 389) (bd (upd y74.2 (Int32.toNatClampNeg y70) y74.1) (fun S_s_77 => m_X7_fetches_78 S_s_77 A P m w)))) := by
    unfold m_X7_fetches
    rw [hl, bn_s, inb380, gd_s, gd_s, cl380, bdE, inb379, gd_s, gd_s, cl379, q1, bdE]
    show (if w = -1 then m_X7_fetches_78 (fs1 s) A P m w else gd (inb 385 389) (gd (inb 385 389) (bd (upd (fs1 s) (Int32.toNatClampNeg 385) ((fs1 s) (Int32.toNatClampNeg 385) + 1)) _))) = _
    rw [inb385, gd_s, gd_s, cl385, e1, bdE, inb288, gd_s, cl288, e2, hs]
  refine ⟨fun h => ?_, fun j hj h => ?_⟩
  · rw [hA, if_pos h]
    unfold m_X7_fetches_78
    rfl
  · have hn : ¬ w = -1 := by rw [h]; exact nIm1 (by omega)
    have e4 : 289 + 10 * (2 * (x % 4) + j) + 1 = 290 + 10 * (2 * (x % 4) + j) := by omega
    rw [hA, if_neg hn, h, mod4N (by omega), mul2N, nI_add, ofL_1, bn_s]
    unfold m_X7_nextUse
    rw [inb378, gd_s, gd_s, cl378, bdE, e3, gd_s, bdE, upd_s, bn_s, e4, inbN (by omega) (by omega), gd_s, clN (by omega), bdE]
    unfold m_X7_fetches_78 fs2
    rfl
