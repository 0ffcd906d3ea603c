theorem pure_main {L : Nat} (hL : L ≤ 2048) (xs : Nat → Int32) (yP : (Nat → Int32) × (Nat → Int32)) (hyP : m_X4_init = some yP) (yS : Nat → Int32) (hyS : m_X7_init = some yS) : m_L_law_23 L xs 4000 (fun _ => 0) (fun _ => 0) 0 0 0 0 0 0 (fun _ => 0) (fun _ => 0) (fun _ => 0) yP.1 (fun _ => 0) yP.2 0 0 0 0 0 0 0 0 0 (fun _ => 0) (fun _ _ => 0) (fun _ => 0) (fun _ => 0) 0 0 0 0 (fun _ => 0) (fun _ => 0) (fun _ => 0) yP.1 (fun _ => 0) yP.2 0 (fun _ => 0) (fun _ => 0) 0 0 0 0 (fun _ => z0M yP) 0 0 0 yS (fun _ => 0) (fun _ => 0) 0 (fun _ => 0) 0 (fun _ => 0) (fun _ => 0) 0 0 0 0 0 0 = some 1 := by
  sorry
theorem x4_init_ok : ∃ y, m_X4_init = some y := sorry
theorem x7_init_ok : ∃ y, m_X7_init = some y := sorry
