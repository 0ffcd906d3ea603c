theorem pure_main {L : Nat} (hL : L ≤ 2048) (xs : Nat → Int32) (yP : (Nat → Int32) × (Nat → Int32)) (hyP : m_X4_init = some yP) (yS : Nat → Int32) (hyS : m_X7_init = some yS) : m_L_law_23 L xs 4000 (fun _ => 0) (fun _ => 0) 0 0 0 0 0 0 (fun _ => 0) (fun _ => 0) (fun _ => 0) yP.1 (fun _ => 0) yP.2 0 0 0 0 0 0 0 0 0 (fun _ => 0) (fun _ _ => 0) (fun _ => 0) (fun _ => 0) 0 0 0 0 (fun _ => 0) (fun _ => 0) (fun _ => 0) yP.1 (fun _ => 0) yP.2 0 (fun _ => 0) (fun _ => 0) 0 0 0 0 (fun _ => z0M yP) 0 0 0 yS (fun _ => 0) (fun _ => 0) 0 (fun _ => 0) 0 (fun _ => 0) (fun _ => 0) 0 0 0 0 0 0 = some 1 := by
  obtain ⟨y, y1, y2⟩ := x4_init_s
  obtain ⟨t, t1, t2⟩ := x7_init_s
  have e1 : y = yP := Option.some.inj (y1.symm.trans hyP)
  have e2 : t = yS := Option.some.inj (t1.symm.trans hyS)
  subst e1 e2
  exact law_all hL 512 0 4000 0 (by omega) (by omega) (by omega) (by omega) (by omega) _ _ _ _ _ _ _ _ _ _ _ _ _ _ _ _ _ _ _ _ _ _ _ _ _ _ _ _ _ _ _ _ _ _ _ _ _ _ _ _ _ _ _ _ _ _ _ _ _ _ _ _ _ _ _ _ _ _ _ _ _ (first_RZ y2 t2) first_HR TXR_clear
