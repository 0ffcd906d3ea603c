set_option maxHeartbeats 8000000 in
set_option maxRecDepth 100000 in
theorem c_X7_contains (l : Launch) (D : va_G) (cI cZ cII cJ cM : ClassId) (aS : Nat → Nat) (S_thrown : Int32) (S_s : Nat → Int32) (S_aside : Nat → Int32) (S_saved : Nat → Int32) (S_savedMany : Int32) (S_text : Nat → Int32) (S_length : Int32) (S_fetched : Nat → Int32) (S_predicted : Nat → Int32) (S_fetchedMany : Int32) (S_fetchedWay : Int32) (S_spot : Int32) (S_isWrong : Int32) (S_executedByText : Int32) (x1 : Int32) (x2 : Int32) (sz : Nat) (y : (Int32)) (hf : m_X7_contains S_s x1 x2 = some y) : Met l yX7_contains wsX7_contains ({ frames := 1, cells := 0, slots := 0, locals := 21 } : Room) (va_Pc [.ref (aS 0), .int x1, .int x2] (pzPre D (zT cI cZ cII cJ cM) (wX7 cI cZ cII aS S_thrown S_s S_aside S_saved S_savedMany S_text S_length S_fetched S_predicted S_fetchedMany S_fetchedWay S_spot S_isWrong S_executedByText ++ []) sz)) (va_Qi (fun v (_ : Unit) => v = y) (fun _ t => pzB D (zT cI cZ cII cJ cM) (va_A (wX7 cI cZ cII aS S_thrown S_s S_aside S_saved S_savedMany S_text S_length S_fetched S_predicted S_fetchedMany S_fetchedWay S_spot S_isWrong S_executedByText ++ []) sz) (wX7 cI cZ cII aS S_thrown S_s S_aside S_saved S_savedMany S_text S_length S_fetched S_predicted S_fetchedMany S_fetchedWay S_spot S_isWrong S_executedByText ++ []) t) (va_A (wX7 cI cZ cII aS S_thrown S_s S_aside S_saved S_savedMany S_text S_length S_fetched S_predicted S_fetchedMany S_fetchedWay S_spot S_isWrong S_executedByText ++ []) sz)) 0 0 (va_A (wX7 cI cZ cII aS S_thrown S_s S_aside S_saved S_savedMany S_text S_length S_fetched S_predicted S_fetchedMany S_fetchedWay S_spot S_isWrong S_executedByText ++ []) sz) := by
  refine z_metz (cc := cX7_contains) (maxL := 5) (by decide) rfl (Nat.le_of_ble_eq_true rfl) ?_
  intro p e s m args below meth c A ls Q H locs F hP hD hS hl hret
  obtain ⟨hx, hb, hml, hown, hts, hN, hK, hA⟩ := F
  have hown : s.vm.findClass RX7 = some m.cls := hown
  have hl : lv_has ls 5 [(0, .ref (aS 0)), (1, .int x1), (2, .int x2)] := hl
  have inX7 : ∀ w ∈ u_ws RX7 TX7 14, w ∈ wsX7_contains := by decide +kernel
  have kX7_7 := hts (.fieldLink RX7 7 "TraceCacheModel" "s" "[I") (by decide +kernel)
  have J5 : ∀ (n5 : Nat), ∀ (x3 : Int32) (x4 : Int32) (H : Heap) (locs : List Loc) (ls : Array Slot), m_X7_contains_5 S_s x1 x2 n5 x3 x4 = some y → va_P D vwCl (wX7 cI cZ cII aS S_thrown S_s S_aside S_saved S_savedMany S_text S_length S_fetched S_predicted S_fetchedMany S_fetchedWay S_spot S_isWrong S_executedByText ++ []) H → va_D A (wX7 cI cZ cII aS S_thrown S_s S_aside S_saved S_savedMany S_text S_length S_fetched S_predicted S_fetchedMany S_fetchedWay S_spot S_isWrong S_executedByText ++ []) → va_S A s.heap H locs → lv_has ls 5 [(0, .ref (aS 0)), (1, .int x1), (2, .int x2), (3, .int x3), (4, .int x4)] → W p l e ({ frames := 1, cells := 0, slots := 0, locals := 21 } : Room) s m args below meth c H locs 0 0 Q (F0 m 5 ls []) := by
    intro n5
    induction n5 with
    | zero =>
      intro x3 x4 H locs ls hf hP hD hS hl
      rw [m_X7_contains_5] at hf
      cases hf
    | succ n5 ih5 =>
      have J46 : ∀ (x4 : Int32) (k0 : Int32) (H : Heap) (locs : List Loc) (ls : Array Slot), m_X7_contains_46 S_s x1 x2 (m_X7_contains_5 S_s x1 x2 n5) x4 k0 = some y → va_P D vwCl (wX7 cI cZ cII aS S_thrown S_s S_aside S_saved S_savedMany S_text S_length S_fetched S_predicted S_fetchedMany S_fetchedWay S_spot S_isWrong S_executedByText ++ []) H → va_D A (wX7 cI cZ cII aS S_thrown S_s S_aside S_saved S_savedMany S_text S_length S_fetched S_predicted S_fetchedMany S_fetchedWay S_spot S_isWrong S_executedByText ++ []) → va_S A s.heap H locs → lv_has ls 5 [(0, .ref (aS 0)), (1, .int x1), (2, .int x2), (4, .int x4)] → W p l e ({ frames := 1, cells := 0, slots := 0, locals := 21 } : Room) s m args below meth c H locs 0 0 Q (F0 m 46 ls [.int k0]) := by
        intro x4 k0 H locs ls hf hP hD hS hl
        unfold m_X7_contains_46 at hf
        refine lv_istore_n (lv' := [(3, .int k0), (0, .ref (aS 0)), (1, .int x1), (2, .int x2), (4, .int x4)]) hx hb dX7_contains_46 rfl hl (by decide) rfl (fun ls hl => ?_)
        obtain ⟨v47, ev47⟩ : ∃ z : Int32, z = x4 + (1 : Int32) := ⟨_, rfl⟩
        have hf := bd_t ev47 hf
        refine lv_iinc (v := v47) (lv' := [(4, .int v47), (3, .int k0), (0, .ref (aS 0)), (1, .int x1), (2, .int x2)]) hx hb dX7_contains_47 hl (k := 4) rfl (by rw [ev47]; rfl) (by decide) rfl (fun ls hl => ?_)
        refine lv_goto (tgt := 5) hx hb dX7_contains_50 (by decide) ?_
        exact ih5 k0 v47 _ _ _ hf hP hD hS (lv_sub hl [2, 3, 4, 1, 0] rfl)
      have J41 : ∀ (x4 : Int32) (H : Heap) (locs : List Loc) (ls : Array Slot), m_X7_contains_41 S_s x1 x2 (m_X7_contains_5 S_s x1 x2 n5) x4 = some y → va_P D vwCl (wX7 cI cZ cII aS S_thrown S_s S_aside S_saved S_savedMany S_text S_length S_fetched S_predicted S_fetchedMany S_fetchedWay S_spot S_isWrong S_executedByText ++ []) H → va_D A (wX7 cI cZ cII aS S_thrown S_s S_aside S_saved S_savedMany S_text S_length S_fetched S_predicted S_fetchedMany S_fetchedWay S_spot S_isWrong S_executedByText ++ []) → va_S A s.heap H locs → lv_has ls 5 [(0, .ref (aS 0)), (1, .int x1), (2, .int x2), (4, .int x4)] → W p l e ({ frames := 1, cells := 0, slots := 0, locals := 21 } : Room) s m args below meth c H locs 0 0 Q (F0 m 41 ls []) := by
        intro x4 H locs ls hf hP hD hS hl
        unfold m_X7_contains_41 at hf
        refine lv_iconst (v := 1) hx hb dX7_contains_41 (by decide) ?_
        refine lv_goto (tgt := 46) hx hb dX7_contains_42 (by decide) ?_
        exact J46 x4 (1 : Int32) _ _ _ hf hP hD hS (lv_sub hl [0, 1, 2, 3] rfl)
      intro x3 x4 H locs ls hf hP hD hS hl
      rw [m_X7_contains_5] at hf
      refine lv_iload hx hb dX7_contains_5 (lv_at hl 4 rfl) ?_
      refine lv_aload_n hx hb dX7_contains_7 rfl (lv_at hl 0 rfl) ?_
      refine va_get (D := D) (ci := 7) (v := .ref (aS 1)) (C := RX7) (T := TX7) (N := 14) hx hb hts inX7 hown hK hP 0 rfl rfl 1 (by decide) kX7_7 (fun _ h9 => h9) rfl dX7_contains_8 ?_
      refine lv_iload_n hx hb dX7_contains_11 rfl (lv_at hl 1 rfl) ?_
      refine lv_iconst (v := 0) hx hb dX7_contains_12 (by decide) ?_
      obtain ⟨y13, h13, hf⟩ := bn_t hf
      refine z_ai (x := []) (b := ([] : va_W)) (y := wX7 cI cZ cII aS S_thrown S_s S_aside S_saved S_savedMany S_text S_length S_fetched S_predicted S_fetchedMany S_fetchedWay S_spot S_isWrong S_executedByText ++ []) (b1 := ([] : va_W)) (wsn := wX7 cI cZ cII aS S_thrown S_s S_aside S_saved S_savedMany S_text S_length S_fetched S_predicted S_fetchedMany S_fetchedWay S_spot S_isWrong S_executedByText ++ []) (va_runS (As := [.int x1, .int (0 : Int32)]) (rest := [.ref (aS 1), .int x4]) ⟨hx, hb, hml, hown, hts⟩ (c_X7_ofLine l D cI cZ cII cJ cM x1 (0 : Int32) H.size y13 h13) (va_cwS 2 hts gX7_contains_X7_ofLine rfl rfl rfl (by decide +kernel) ⟨Nat.le_of_ble_eq_true rfl, Nat.le_of_ble_eq_true rfl⟩) (pz_S (x := []) (b := ([] : va_W)) (y := wX7 cI cZ cII aS S_thrown S_s S_aside S_saved S_savedMany S_text S_length S_fetched S_predicted S_fetchedMany S_fetchedWay S_spot S_isWrong S_executedByText ++ []) hK hN hP hD (by simp only [List.append_assoc, List.nil_append, List.append_nil])) rfl rfl hl.1 rfl (lv_room (Nat.le_of_ble_eq_true rfl)) dX7_contains_13 ⟨Nat.le_of_ble_eq_true rfl, Nat.le_of_ble_eq_true rfl⟩) hP hD hS hA (by simp only [List.append_assoc, List.nil_append, List.append_nil]) (by simp only [List.append_assoc, List.nil_append, List.append_nil]) (fun H locs hP hD hS => ?_)
      obtain ⟨g16, hf⟩ := gd_t hf
      refine va_iald hx hb hK hP 1 0 rfl rfl (inb_t g16) dX7_contains_16 ?_
      refine lv_icmp_ge (tgt := 53) hx hb dX7_contains_17 (by decide) (fun c17 => ?_) (fun c17 => ?_)
      · have hf := if_t c17 hf
        refine lv_iload_n hx hb dX7_contains_53 rfl (lv_at hl 3 rfl) ?_
        obtain ⟨g54, hf⟩ := gd_t hf
        obtain rfl := Option.some.inj hf
        exact hret _ _ _ _ _ dX7_contains_54 g54 rfl hP hD hS
      · have hf := if_f c17 hf
        refine lv_iload_n hx hb dX7_contains_20 rfl (lv_at hl 3 rfl) ?_
        refine lv_if_ne (tgt := 41) hx hb dX7_contains_21 (by decide) (fun c21 => ?_) (fun c21 => ?_)
        · have hf := if_f c21 hf
          exact J41 x4 _ _ _ hf hP hD hS (lv_sub hl [0, 1, 2, 4] rfl)
        · have hf := if_t c21 hf
          refine lv_aload_n hx hb dX7_contains_24 rfl (lv_at hl 0 rfl) ?_
          refine va_get (D := D) (ci := 7) (v := .ref (aS 1)) (C := RX7) (T := TX7) (N := 14) hx hb hts inX7 hown hK hP 0 rfl rfl 1 (by decide) kX7_7 (fun _ h9 => h9) rfl dX7_contains_25 ?_
          refine lv_iload_n hx hb dX7_contains_28 rfl (lv_at hl 1 rfl) ?_
          refine lv_iconst (v := 2) hx hb dX7_contains_29 (by decide) ?_
          refine lv_iload hx hb dX7_contains_30 (lv_at hl 4 rfl) ?_
          refine lv_iadd hx hb dX7_contains_32 ?_
          obtain ⟨y33, h33, hf⟩ := bn_t hf
          refine z_ai (x := []) (b := ([] : va_W)) (y := wX7 cI cZ cII aS S_thrown S_s S_aside S_saved S_savedMany S_text S_length S_fetched S_predicted S_fetchedMany S_fetchedWay S_spot S_isWrong S_executedByText ++ []) (b1 := ([] : va_W)) (wsn := wX7 cI cZ cII aS S_thrown S_s S_aside S_saved S_savedMany S_text S_length S_fetched S_predicted S_fetchedMany S_fetchedWay S_spot S_isWrong S_executedByText ++ []) (va_runS (As := [.int x1, .int ((2 : Int32) + x4)]) (rest := [.ref (aS 1)]) ⟨hx, hb, hml, hown, hts⟩ (c_X7_ofLine l D cI cZ cII cJ cM x1 ((2 : Int32) + x4) H.size y33 h33) (va_cwS 2 hts gX7_contains_X7_ofLine rfl rfl rfl (by decide +kernel) ⟨Nat.le_of_ble_eq_true rfl, Nat.le_of_ble_eq_true rfl⟩) (pz_S (x := []) (b := ([] : va_W)) (y := wX7 cI cZ cII aS S_thrown S_s S_aside S_saved S_savedMany S_text S_length S_fetched S_predicted S_fetchedMany S_fetchedWay S_spot S_isWrong S_executedByText ++ []) hK hN hP hD (by simp only [List.append_assoc, List.nil_append, List.append_nil])) rfl rfl hl.1 rfl (lv_room (Nat.le_of_ble_eq_true rfl)) dX7_contains_33 ⟨Nat.le_of_ble_eq_true rfl, Nat.le_of_ble_eq_true rfl⟩) hP hD hS hA (by simp only [List.append_assoc, List.nil_append, List.append_nil]) (by simp only [List.append_assoc, List.nil_append, List.append_nil]) (fun H locs hP hD hS => ?_)
          obtain ⟨g36, hf⟩ := gd_t hf
          refine va_iald hx hb hK hP 1 0 rfl rfl (inb_t g36) dX7_contains_36 ?_
          refine lv_iload_n hx hb dX7_contains_37 rfl (lv_at hl 2 rfl) ?_
          refine lv_icmp_ne (tgt := 45) hx hb dX7_contains_38 (by decide) (fun c38 => ?_) (fun c38 => ?_)
          · have hf := if_f c38 hf
            refine lv_iconst (v := 0) hx hb dX7_contains_45 (by decide) ?_
            exact J46 x4 (0 : Int32) _ _ _ hf hP hD hS (lv_sub hl [0, 1, 2, 4] rfl)
          · have hf := if_t c38 hf
            exact J41 x4 _ _ _ hf hP hD hS (lv_sub hl [0, 1, 2, 4] rfl)
  unfold m_X7_contains at hf
  refine lv_iconst (v := 0) hx hb dX7_contains_0 (by decide) ?_
  refine lv_istore_n (lv' := [(3, .int (0 : Int32)), (0, .ref (aS 0)), (1, .int x1), (2, .int x2)]) hx hb dX7_contains_1 rfl hl (by decide) rfl (fun ls hl => ?_)
  refine lv_iconst (v := 0) hx hb dX7_contains_2 (by decide) ?_
  refine lv_istore (lv' := [(4, .int (0 : Int32)), (3, .int (0 : Int32)), (0, .ref (aS 0)), (1, .int x1), (2, .int x2)]) hx hb dX7_contains_3 hl (by decide) rfl (fun ls hl => ?_)
  exact J5 4000 (0 : Int32) (0 : Int32) _ _ _ hf hP hD hS (lv_sub hl [2, 3, 4, 1, 0] rfl)
set_option maxHeartbeats 8000000 in
set_option maxRecDepth 100000 in
theorem c_X7_isPending (l : Launch) (D : va_G) (cI cZ cII cJ cM : ClassId) (aS : Nat → Nat) (S_thrown : Int32) (S_s : Nat → Int32) (S_aside : Nat → Int32) (S_saved : Nat → Int32) (S_savedMany : Int32) (S_text : Nat → Int32) (S_length : Int32) (S_fetched : Nat → Int32) (S_predicted : Nat → Int32) (S_fetchedMany : Int32) (S_fetchedWay : Int32) (S_spot : Int32) (S_isWrong : Int32) (S_executedByText : Int32) (x1 : Int32) (sz : Nat) (y : (Int32)) (hf : m_X7_isPending S_s x1 = some y) : Met l yX7_isPending wsX7_isPending ({ frames := 1, cells := 0, slots := 0, locals := 21 } : Room) (va_Pc [.ref (aS 0), .int x1] (pzPre D (zT cI cZ cII cJ cM) (wX7 cI cZ cII aS S_thrown S_s S_aside S_saved S_savedMany S_text S_length S_fetched S_predicted S_fetchedMany S_fetchedWay S_spot S_isWrong S_executedByText ++ []) sz)) (va_Qi (fun v (_ : Unit) => v = y) (fun _ t => pzB D (zT cI cZ cII cJ cM) (va_A (wX7 cI cZ cII aS S_thrown S_s S_aside S_saved S_savedMany S_text S_length S_fetched S_predicted S_fetchedMany S_fetchedWay S_spot S_isWrong S_executedByText ++ []) sz) (wX7 cI cZ cII aS S_thrown S_s S_aside S_saved S_savedMany S_text S_length S_fetched S_predicted S_fetchedMany S_fetchedWay S_spot S_isWrong S_executedByText ++ []) t) (va_A (wX7 cI cZ cII aS S_thrown S_s S_aside S_saved S_savedMany S_text S_length S_fetched S_predicted S_fetchedMany S_fetchedWay S_spot S_isWrong S_executedByText ++ []) sz)) 0 0 (va_A (wX7 cI cZ cII aS S_thrown S_s S_aside S_saved S_savedMany S_text S_length S_fetched S_predicted S_fetchedMany S_fetchedWay S_spot S_isWrong S_executedByText ++ []) sz) := by
  refine z_metz (cc := cX7_isPending) (maxL := 4) (by decide) rfl (Nat.le_of_ble_eq_true rfl) ?_
  intro p e s m args below meth c A ls Q H locs F hP hD hS hl hret
  obtain ⟨hx, hb, hml, hown, hts, hN, hK, hA⟩ := F
  have hown : s.vm.findClass RX7 = some m.cls := hown
  have hl : lv_has ls 4 [(0, .ref (aS 0)), (1, .int x1)] := hl
  have inX7 : ∀ w ∈ u_ws RX7 TX7 14, w ∈ wsX7_isPending := by decide +kernel
  have kX7_7 := hts (.fieldLink RX7 7 "TraceCacheModel" "s" "[I") (by decide +kernel)
  have J82 : ∀ (x2 : Int32) (H : Heap) (locs : List Loc) (ls : Array Slot), m_X7_isPending_82 S_s x1 x2 = some y → va_P D vwCl (wX7 cI cZ cII aS S_thrown S_s S_aside S_saved S_savedMany S_text S_length S_fetched S_predicted S_fetchedMany S_fetchedWay S_spot S_isWrong S_executedByText ++ []) H → va_D A (wX7 cI cZ cII aS S_thrown S_s S_aside S_saved S_savedMany S_text S_length S_fetched S_predicted S_fetchedMany S_fetchedWay S_spot S_isWrong S_executedByText ++ []) → va_S A s.heap H locs → lv_has ls 4 [(2, .int x2)] → W p l e ({ frames := 1, cells := 0, slots := 0, locals := 21 } : Room) s m args below meth c H locs 0 0 Q (F0 m 82 ls []) := by
    intro x2 H locs ls hf hP hD hS hl
    unfold m_X7_isPending_82 at hf
    refine lv_iload_n hx hb dX7_isPending_82 rfl (lv_at hl 0 rfl) ?_
    obtain ⟨g83, hf⟩ := gd_t hf
    obtain rfl := Option.some.inj hf
    exact hret _ _ _ _ _ dX7_isPending_83 g83 rfl hP hD hS
  have J29 : ∀ (n29 : Nat), ∀ (x2 : Int32) (x3 : Int32) (H : Heap) (locs : List Loc) (ls : Array Slot), m_X7_isPending_29 S_s x1 n29 x2 x3 = some y → va_P D vwCl (wX7 cI cZ cII aS S_thrown S_s S_aside S_saved S_savedMany S_text S_length S_fetched S_predicted S_fetchedMany S_fetchedWay S_spot S_isWrong S_executedByText ++ []) H → va_D A (wX7 cI cZ cII aS S_thrown S_s S_aside S_saved S_savedMany S_text S_length S_fetched S_predicted S_fetchedMany S_fetchedWay S_spot S_isWrong S_executedByText ++ []) → va_S A s.heap H locs → lv_has ls 4 [(0, .ref (aS 0)), (1, .int x1), (2, .int x2), (3, .int x3)] → W p l e ({ frames := 1, cells := 0, slots := 0, locals := 21 } : Room) s m args below meth c H locs 0 0 Q (F0 m 29 ls []) := by
    intro n29
    induction n29 with
    | zero =>
      intro x2 x3 H locs ls hf hP hD hS hl
      rw [m_X7_isPending_29] at hf
      cases hf
    | succ n29 ih29 =>
      have J75 : ∀ (x3 : Int32) (k0 : Int32) (H : Heap) (locs : List Loc) (ls : Array Slot), m_X7_isPending_75 S_s x1 (m_X7_isPending_29 S_s x1 n29) x3 k0 = some y → va_P D vwCl (wX7 cI cZ cII aS S_thrown S_s S_aside S_saved S_savedMany S_text S_length S_fetched S_predicted S_fetchedMany S_fetchedWay S_spot S_isWrong S_executedByText ++ []) H → va_D A (wX7 cI cZ cII aS S_thrown S_s S_aside S_saved S_savedMany S_text S_length S_fetched S_predicted S_fetchedMany S_fetchedWay S_spot S_isWrong S_executedByText ++ []) → va_S A s.heap H locs → lv_has ls 4 [(0, .ref (aS 0)), (1, .int x1), (3, .int x3)] → W p l e ({ frames := 1, cells := 0, slots := 0, locals := 21 } : Room) s m args below meth c H locs 0 0 Q (F0 m 75 ls [.int k0]) := by
        intro x3 k0 H locs ls hf hP hD hS hl
        unfold m_X7_isPending_75 at hf
        refine lv_istore_n (lv' := [(2, .int k0), (0, .ref (aS 0)), (1, .int x1), (3, .int x3)]) hx hb dX7_isPending_75 rfl hl (by decide) rfl (fun ls hl => ?_)
        obtain ⟨v76, ev76⟩ : ∃ z : Int32, z = x3 + (1 : Int32) := ⟨_, rfl⟩
        have hf := bd_t ev76 hf
        refine lv_iinc (v := v76) (lv' := [(3, .int v76), (2, .int k0), (0, .ref (aS 0)), (1, .int x1)]) hx hb dX7_isPending_76 hl (k := 3) rfl (by rw [ev76]; rfl) (by decide) rfl (fun ls hl => ?_)
        refine lv_goto (tgt := 29) hx hb dX7_isPending_79 (by decide) ?_
        exact ih29 k0 v76 _ _ _ hf hP hD hS (lv_sub hl [2, 3, 1, 0] rfl)
      intro x2 x3 H locs ls hf hP hD hS hl
      rw [m_X7_isPending_29] at hf
      refine lv_iload_n hx hb dX7_isPending_29 rfl (lv_at hl 3 rfl) ?_
      refine lv_aload_n hx hb dX7_isPending_30 rfl (lv_at hl 0 rfl) ?_
      refine va_get (D := D) (ci := 7) (v := .ref (aS 1)) (C := RX7) (T := TX7) (N := 14) hx hb hts inX7 hown hK hP 0 rfl rfl 1 (by decide) kX7_7 (fun _ h9 => h9) rfl dX7_isPending_31 ?_
      refine lv_sipush (v := 369) hx hb dX7_isPending_34 (by decide) ?_
      obtain ⟨g37, hf⟩ := gd_t hf
      refine va_iald hx hb hK hP 1 0 rfl rfl (inb_t g37) dX7_isPending_37 ?_
      refine lv_icmp_ge (tgt := 82) hx hb dX7_isPending_38 (by decide) (fun c38 => ?_) (fun c38 => ?_)
      · have hf := if_t c38 hf
        exact J82 x2 _ _ _ hf hP hD hS (lv_sub hl [2] rfl)
      · have hf := if_f c38 hf
        refine lv_iload_n hx hb dX7_isPending_41 rfl (lv_at hl 2 rfl) ?_
        refine lv_if_eq (tgt := 82) hx hb dX7_isPending_42 (by decide) (fun c42 => ?_) (fun c42 => ?_)
        · have hf := if_t c42 hf
          exact J82 x2 _ _ _ hf hP hD hS (lv_sub hl [2] rfl)
        · have hf := if_f c42 hf
          refine lv_aload_n hx hb dX7_isPending_45 rfl (lv_at hl 0 rfl) ?_
          refine va_get (D := D) (ci := 7) (v := .ref (aS 1)) (C := RX7) (T := TX7) (N := 14) hx hb hts inX7 hown hK hP 0 rfl rfl 1 (by decide) kX7_7 (fun _ h9 => h9) rfl dX7_isPending_46 ?_
          refine lv_iload_n hx hb dX7_isPending_49 rfl (lv_at hl 1 rfl) ?_
          refine lv_iconst (v := 2) hx hb dX7_isPending_50 (by decide) ?_
          refine lv_iload_n hx hb dX7_isPending_51 rfl (lv_at hl 3 rfl) ?_
          refine lv_iadd hx hb dX7_isPending_52 ?_
          obtain ⟨y53, h53, hf⟩ := bn_t hf
          refine z_ai (x := []) (b := ([] : va_W)) (y := wX7 cI cZ cII aS S_thrown S_s S_aside S_saved S_savedMany S_text S_length S_fetched S_predicted S_fetchedMany S_fetchedWay S_spot S_isWrong S_executedByText ++ []) (b1 := ([] : va_W)) (wsn := wX7 cI cZ cII aS S_thrown S_s S_aside S_saved S_savedMany S_text S_length S_fetched S_predicted S_fetchedMany S_fetchedWay S_spot S_isWrong S_executedByText ++ []) (va_runS (As := [.int x1, .int ((2 : Int32) + x3)]) (rest := [.ref (aS 1)]) ⟨hx, hb, hml, hown, hts⟩ (c_X7_ofLine l D cI cZ cII cJ cM x1 ((2 : Int32) + x3) H.size y53 h53) (va_cwS 2 hts gX7_isPending_X7_ofLine rfl rfl rfl (by decide +kernel) ⟨Nat.le_of_ble_eq_true rfl, Nat.le_of_ble_eq_true rfl⟩) (pz_S (x := []) (b := ([] : va_W)) (y := wX7 cI cZ cII aS S_thrown S_s S_aside S_saved S_savedMany S_text S_length S_fetched S_predicted S_fetchedMany S_fetchedWay S_spot S_isWrong S_executedByText ++ []) hK hN hP hD (by simp only [List.append_assoc, List.nil_append, List.append_nil])) rfl rfl hl.1 rfl (lv_room (Nat.le_of_ble_eq_true rfl)) dX7_isPending_53 ⟨Nat.le_of_ble_eq_true rfl, Nat.le_of_ble_eq_true rfl⟩) hP hD hS hA (by simp only [List.append_assoc, List.nil_append, List.append_nil]) (by simp only [List.append_assoc, List.nil_append, List.append_nil]) (fun H locs hP hD hS => ?_)
          obtain ⟨g56, hf⟩ := gd_t hf
          refine va_iald hx hb hK hP 1 0 rfl rfl (inb_t g56) dX7_isPending_56 ?_
          refine lv_aload_n hx hb dX7_isPending_57 rfl (lv_at hl 0 rfl) ?_
          refine va_get (D := D) (ci := 7) (v := .ref (aS 1)) (C := RX7) (T := TX7) (N := 14) hx hb hts inX7 hown hK hP 0 rfl rfl 1 (by decide) kX7_7 (fun _ h9 => h9) rfl dX7_isPending_58 ?_
          refine lv_sipush (v := 370) hx hb dX7_isPending_61 (by decide) ?_
          refine lv_iload_n hx hb dX7_isPending_64 rfl (lv_at hl 3 rfl) ?_
          refine lv_iadd hx hb dX7_isPending_65 ?_
          refine lv_topi (fun v66 ev66 => ?_)
          have hf := bd_t ev66 hf
          obtain ⟨g66, hf⟩ := gd_t hf
          refine va_iald hx hb hK hP 1 0 rfl rfl (inb_t g66) dX7_isPending_66 ?_
          refine lv_icmp_ne (tgt := 74) hx hb dX7_isPending_67 (by decide) (fun c67 => ?_) (fun c67 => ?_)
          · have hf := if_f c67 hf
            refine lv_iconst (v := 0) hx hb dX7_isPending_74 (by decide) ?_
            exact J75 x3 (0 : Int32) _ _ _ hf hP hD hS (lv_sub hl [0, 1, 3] rfl)
          · have hf := if_t c67 hf
            refine lv_iconst (v := 1) hx hb dX7_isPending_70 (by decide) ?_
            refine lv_goto (tgt := 75) hx hb dX7_isPending_71 (by decide) ?_
            exact J75 x3 (1 : Int32) _ _ _ hf hP hD hS (lv_sub hl [0, 1, 3] rfl)
  have J26 : ∀ (k0 : Int32) (H : Heap) (locs : List Loc) (ls : Array Slot), m_X7_isPending_26 S_s x1 k0 = some y → va_P D vwCl (wX7 cI cZ cII aS S_thrown S_s S_aside S_saved S_savedMany S_text S_length S_fetched S_predicted S_fetchedMany S_fetchedWay S_spot S_isWrong S_executedByText ++ []) H → va_D A (wX7 cI cZ cII aS S_thrown S_s S_aside S_saved S_savedMany S_text S_length S_fetched S_predicted S_fetchedMany S_fetchedWay S_spot S_isWrong S_executedByText ++ []) → va_S A s.heap H locs → lv_has ls 4 [(0, .ref (aS 0)), (1, .int x1)] → W p l e ({ frames := 1, cells := 0, slots := 0, locals := 21 } : Room) s m args below meth c H locs 0 0 Q (F0 m 26 ls [.int k0]) := by
    intro k0 H locs ls hf hP hD hS hl
    unfold m_X7_isPending_26 at hf
    refine lv_istore_n (lv' := [(2, .int k0), (0, .ref (aS 0)), (1, .int x1)]) hx hb dX7_isPending_26 rfl hl (by decide) rfl (fun ls hl => ?_)
    refine lv_iconst (v := 0) hx hb dX7_isPending_27 (by decide) ?_
    refine lv_istore_n (lv' := [(3, .int (0 : Int32)), (2, .int k0), (0, .ref (aS 0)), (1, .int x1)]) hx hb dX7_isPending_28 rfl hl (by decide) rfl (fun ls hl => ?_)
    exact J29 4000 k0 (0 : Int32) _ _ _ hf hP hD hS (lv_sub hl [2, 3, 1, 0] rfl)
  unfold m_X7_isPending at hf
  refine lv_aload_n hx hb dX7_isPending_0 rfl (lv_at hl 0 rfl) ?_
  refine va_get (D := D) (ci := 7) (v := .ref (aS 1)) (C := RX7) (T := TX7) (N := 14) hx hb hts inX7 hown hK hP 0 rfl rfl 1 (by decide) kX7_7 (fun _ h9 => h9) rfl dX7_isPending_1 ?_
  refine lv_iload_n hx hb dX7_isPending_4 rfl (lv_at hl 1 rfl) ?_
  refine lv_iconst (v := 0) hx hb dX7_isPending_5 (by decide) ?_
  obtain ⟨y6, h6, hf⟩ := bn_t hf
  refine z_ai (x := []) (b := ([] : va_W)) (y := wX7 cI cZ cII aS S_thrown S_s S_aside S_saved S_savedMany S_text S_length S_fetched S_predicted S_fetchedMany S_fetchedWay S_spot S_isWrong S_executedByText ++ []) (b1 := ([] : va_W)) (wsn := wX7 cI cZ cII aS S_thrown S_s S_aside S_saved S_savedMany S_text S_length S_fetched S_predicted S_fetchedMany S_fetchedWay S_spot S_isWrong S_executedByText ++ []) (va_runS (As := [.int x1, .int (0 : Int32)]) (rest := [.ref (aS 1)]) ⟨hx, hb, hml, hown, hts⟩ (c_X7_ofLine l D cI cZ cII cJ cM x1 (0 : Int32) H.size y6 h6) (va_cwS 2 hts gX7_isPending_X7_ofLine rfl rfl rfl (by decide +kernel) ⟨Nat.le_of_ble_eq_true rfl, Nat.le_of_ble_eq_true rfl⟩) (pz_S (x := []) (b := ([] : va_W)) (y := wX7 cI cZ cII aS S_thrown S_s S_aside S_saved S_savedMany S_text S_length S_fetched S_predicted S_fetchedMany S_fetchedWay S_spot S_isWrong S_executedByText ++ []) hK hN hP hD (by simp only [List.append_assoc, List.nil_append, List.append_nil])) rfl rfl hl.1 rfl (lv_room (Nat.le_of_ble_eq_true rfl)) dX7_isPending_6 ⟨Nat.le_of_ble_eq_true rfl, Nat.le_of_ble_eq_true rfl⟩) hP hD hS hA (by simp only [List.append_assoc, List.nil_append, List.append_nil]) (by simp only [List.append_assoc, List.nil_append, List.append_nil]) (fun H locs hP hD hS => ?_)
  obtain ⟨g9, hf⟩ := gd_t hf
  refine va_iald hx hb hK hP 1 0 rfl rfl (inb_t g9) dX7_isPending_9 ?_
  refine lv_aload_n hx hb dX7_isPending_10 rfl (lv_at hl 0 rfl) ?_
  refine va_get (D := D) (ci := 7) (v := .ref (aS 1)) (C := RX7) (T := TX7) (N := 14) hx hb hts inX7 hown hK hP 0 rfl rfl 1 (by decide) kX7_7 (fun _ h9 => h9) rfl dX7_isPending_11 ?_
  refine lv_sipush (v := 369) hx hb dX7_isPending_14 (by decide) ?_
  obtain ⟨g17, hf⟩ := gd_t hf
  refine va_iald hx hb hK hP 1 0 rfl rfl (inb_t g17) dX7_isPending_17 ?_
  refine lv_icmp_ne (tgt := 25) hx hb dX7_isPending_18 (by decide) (fun c18 => ?_) (fun c18 => ?_)
  · have hf := if_f c18 hf
    refine lv_iconst (v := 0) hx hb dX7_isPending_25 (by decide) ?_
    exact J26 (0 : Int32) _ _ _ hf hP hD hS (lv_sub hl [0, 1] rfl)
  · have hf := if_t c18 hf
    refine lv_iconst (v := 1) hx hb dX7_isPending_21 (by decide) ?_
    refine lv_goto (tgt := 26) hx hb dX7_isPending_22 (by decide) ?_
    exact J26 (1 : Int32) _ _ _ hf hP hD hS (lv_sub hl [0, 1] rfl)
set_option maxHeartbeats 8000000 in
set_option maxRecDepth 100000 in
theorem c_X7_placeIn (l : Launch) (D : va_G) (cI cZ cII cJ cM : ClassId) (aS : Nat → Nat) (S_thrown : Int32) (S_s : Nat → Int32) (S_aside : Nat → Int32) (S_saved : Nat → Int32) (S_savedMany : Int32) (S_text : Nat → Int32) (S_length : Int32) (S_fetched : Nat → Int32) (S_predicted : Nat → Int32) (S_fetchedMany : Int32) (S_fetchedWay : Int32) (S_spot : Int32) (S_isWrong : Int32) (S_executedByText : Int32) (x1 : Int32) (sz : Nat) (y : (Int32)) (hf : m_X7_placeIn S_s x1 = some y) : Met l yX7_placeIn wsX7_placeIn ({ frames := 1, cells := 0, slots := 0, locals := 21 } : Room) (va_Pc [.ref (aS 0), .int x1] (pzPre D (zT cI cZ cII cJ cM) (wX7 cI cZ cII aS S_thrown S_s S_aside S_saved S_savedMany S_text S_length S_fetched S_predicted S_fetchedMany S_fetchedWay S_spot S_isWrong S_executedByText ++ []) sz)) (va_Qi (fun v (_ : Unit) => v = y) (fun _ t => pzB D (zT cI cZ cII cJ cM) (va_A (wX7 cI cZ cII aS S_thrown S_s S_aside S_saved S_savedMany S_text S_length S_fetched S_predicted S_fetchedMany S_fetchedWay S_spot S_isWrong S_executedByText ++ []) sz) (wX7 cI cZ cII aS S_thrown S_s S_aside S_saved S_savedMany S_text S_length S_fetched S_predicted S_fetchedMany S_fetchedWay S_spot S_isWrong S_executedByText ++ []) t) (va_A (wX7 cI cZ cII aS S_thrown S_s S_aside S_saved S_savedMany S_text S_length S_fetched S_predicted S_fetchedMany S_fetchedWay S_spot S_isWrong S_executedByText ++ []) sz)) 0 0 (va_A (wX7 cI cZ cII aS S_thrown S_s S_aside S_saved S_savedMany S_text S_length S_fetched S_predicted S_fetchedMany S_fetchedWay S_spot S_isWrong S_executedByText ++ []) sz) := by
  refine z_meti (cc := cX7_placeIn) (maxL := 4) (by decide) rfl (Nat.le_of_ble_eq_true rfl) ?_
  intro p e s m args below meth c A ls Q H locs F hP hD hS hl hret
  obtain ⟨hx, hb, hml, hown, hts, hN, hK, hA⟩ := F
  have hown : s.vm.findClass RX7 = some m.cls := hown
  have hl : lv_has ls 4 [(0, .ref (aS 0)), (1, .int x1)] := hl
  have inX7 : ∀ w ∈ u_ws RX7 TX7 14, w ∈ wsX7_placeIn := by decide +kernel
  have kX7_7 := hts (.fieldLink RX7 7 "TraceCacheModel" "s" "[I") (by decide +kernel)
  have J74 : ∀ (k0 : Int32) (H : Heap) (locs : List Loc) (ls : Array Slot), m_X7_placeIn_74 S_s x1 k0 = some y → va_P D vwCl (wX7 cI cZ cII aS S_thrown S_s S_aside S_saved S_savedMany S_text S_length S_fetched S_predicted S_fetchedMany S_fetchedWay S_spot S_isWrong S_executedByText ++ []) H → va_D A (wX7 cI cZ cII aS S_thrown S_s S_aside S_saved S_savedMany S_text S_length S_fetched S_predicted S_fetchedMany S_fetchedWay S_spot S_isWrong S_executedByText ++ []) → va_S A s.heap H locs → lv_has ls 4 [] → W p l e ({ frames := 1, cells := 0, slots := 0, locals := 21 } : Room) s m args below meth c H locs 0 0 Q (F0 m 74 ls [.int k0]) := by
    intro k0 H locs ls hf hP hD hS hl
    unfold m_X7_placeIn_74 at hf
    obtain rfl := Option.some.inj hf
    exact hret _ _ _ _ _ dX7_placeIn_74 rfl hP hD hS
  have J62 : ∀ (x2 : Int32) (k0 : Int32) (H : Heap) (locs : List Loc) (ls : Array Slot), m_X7_placeIn_62 S_s x1 x2 k0 = some y → va_P D vwCl (wX7 cI cZ cII aS S_thrown S_s S_aside S_saved S_savedMany S_text S_length S_fetched S_predicted S_fetchedMany S_fetchedWay S_spot S_isWrong S_executedByText ++ []) H → va_D A (wX7 cI cZ cII aS S_thrown S_s S_aside S_saved S_savedMany S_text S_length S_fetched S_predicted S_fetchedMany S_fetchedWay S_spot S_isWrong S_executedByText ++ []) → va_S A s.heap H locs → lv_has ls 4 [(2, .int x2)] → W p l e ({ frames := 1, cells := 0, slots := 0, locals := 21 } : Room) s m args below meth c H locs 0 0 Q (F0 m 62 ls [.int k0]) := by
    intro x2 k0 H locs ls hf hP hD hS hl
    unfold m_X7_placeIn_62 at hf
    refine lv_istore_n (lv' := [(3, .int k0), (2, .int x2)]) hx hb dX7_placeIn_62 rfl hl (by decide) rfl (fun ls hl => ?_)
    refine lv_iload_n hx hb dX7_placeIn_63 rfl (lv_at hl 0 rfl) ?_
    refine lv_if_eq (tgt := 71) hx hb dX7_placeIn_64 (by decide) (fun c64 => ?_) (fun c64 => ?_)
    · have hf := if_t c64 hf
      refine lv_iload_n hx hb dX7_placeIn_71 rfl (lv_at hl 1 rfl) ?_
      refine lv_iconst (v := 1) hx hb dX7_placeIn_72 (by decide) ?_
      refine lv_iadd hx hb dX7_placeIn_73 ?_
      exact J74 (x2 + (1 : Int32)) _ _ _ hf hP hD hS (lv_sub hl [] rfl)
    · have hf := if_f c64 hf
      refine lv_iload_n hx hb dX7_placeIn_67 rfl (lv_at hl 1 rfl) ?_
      refine lv_goto (tgt := 74) hx hb dX7_placeIn_68 (by decide) ?_
      exact J74 x2 _ _ _ hf hP hD hS (lv_sub hl [] rfl)
  have J57 : ∀ (x2 : Int32) (H : Heap) (locs : List Loc) (ls : Array Slot), m_X7_placeIn_57 S_s x1 x2 = some y → va_P D vwCl (wX7 cI cZ cII aS S_thrown S_s S_aside S_saved S_savedMany S_text S_length S_fetched S_predicted S_fetchedMany S_fetchedWay S_spot S_isWrong S_executedByText ++ []) H → va_D A (wX7 cI cZ cII aS S_thrown S_s S_aside S_saved S_savedMany S_text S_length S_fetched S_predicted S_fetchedMany S_fetchedWay S_spot S_isWrong S_executedByText ++ []) → va_S A s.heap H locs → lv_has ls 4 [(2, .int x2)] → W p l e ({ frames := 1, cells := 0, slots := 0, locals := 21 } : Room) s m args below meth c H locs 0 0 Q (F0 m 57 ls []) := by
    intro x2 H locs ls hf hP hD hS hl
    unfold m_X7_placeIn_57 at hf
    refine lv_iconst (v := 1) hx hb dX7_placeIn_57 (by decide) ?_
    refine lv_goto (tgt := 62) hx hb dX7_placeIn_58 (by decide) ?_
    exact J62 x2 (1 : Int32) _ _ _ hf hP hD hS (lv_sub hl [0] rfl)
  have J61 : ∀ (x2 : Int32) (H : Heap) (locs : List Loc) (ls : Array Slot), m_X7_placeIn_61 S_s x1 x2 = some y → va_P D vwCl (wX7 cI cZ cII aS S_thrown S_s S_aside S_saved S_savedMany S_text S_length S_fetched S_predicted S_fetchedMany S_fetchedWay S_spot S_isWrong S_executedByText ++ []) H → va_D A (wX7 cI cZ cII aS S_thrown S_s S_aside S_saved S_savedMany S_text S_length S_fetched S_predicted S_fetchedMany S_fetchedWay S_spot S_isWrong S_executedByText ++ []) → va_S A s.heap H locs → lv_has ls 4 [(2, .int x2)] → W p l e ({ frames := 1, cells := 0, slots := 0, locals := 21 } : Room) s m args below meth c H locs 0 0 Q (F0 m 61 ls []) := by
    intro x2 H locs ls hf hP hD hS hl
    unfold m_X7_placeIn_61 at hf
    refine lv_iconst (v := 0) hx hb dX7_placeIn_61 (by decide) ?_
    exact J62 x2 (0 : Int32) _ _ _ hf hP hD hS (lv_sub hl [0] rfl)
  unfold m_X7_placeIn at hf
  refine lv_iconst (v := 2) hx hb dX7_placeIn_0 (by decide) ?_
  refine lv_iload_n hx hb dX7_placeIn_1 rfl (lv_at hl 1 rfl) ?_
  refine lv_imul hx hb dX7_placeIn_2 ?_
  refine lv_topi (fun v3 ev3 => ?_)
  have hf := bd_t ev3 hf
  refine lv_istore_n (lv' := [(2, .int v3), (0, .ref (aS 0)), (1, .int x1)]) hx hb dX7_placeIn_3 rfl hl (by decide) rfl (fun ls hl => ?_)
  refine lv_aload_n hx hb dX7_placeIn_4 rfl (lv_at hl 1 rfl) ?_
  refine va_get (D := D) (ci := 7) (v := .ref (aS 1)) (C := RX7) (T := TX7) (N := 14) hx hb hts inX7 hown hK hP 0 rfl rfl 1 (by decide) kX7_7 (fun _ h9 => h9) rfl dX7_placeIn_5 ?_
  refine lv_iload_n hx hb dX7_placeIn_8 rfl (lv_at hl 0 rfl) ?_
  refine lv_iconst (v := 0) hx hb dX7_placeIn_9 (by decide) ?_
  obtain ⟨y10, h10, hf⟩ := bn_t hf
  refine z_ai (x := []) (b := ([] : va_W)) (y := wX7 cI cZ cII aS S_thrown S_s S_aside S_saved S_savedMany S_text S_length S_fetched S_predicted S_fetchedMany S_fetchedWay S_spot S_isWrong S_executedByText ++ []) (b1 := ([] : va_W)) (wsn := wX7 cI cZ cII aS S_thrown S_s S_aside S_saved S_savedMany S_text S_length S_fetched S_predicted S_fetchedMany S_fetchedWay S_spot S_isWrong S_executedByText ++ []) (va_runS (As := [.int v3, .int (0 : Int32)]) (rest := [.ref (aS 1)]) ⟨hx, hb, hml, hown, hts⟩ (c_X7_ofLine l D cI cZ cII cJ cM v3 (0 : Int32) H.size y10 h10) (va_cwS 2 hts gX7_placeIn_X7_ofLine rfl rfl rfl (by decide +kernel) ⟨Nat.le_of_ble_eq_true rfl, Nat.le_of_ble_eq_true rfl⟩) (pz_S (x := []) (b := ([] : va_W)) (y := wX7 cI cZ cII aS S_thrown S_s S_aside S_saved S_savedMany S_text S_length S_fetched S_predicted S_fetchedMany S_fetchedWay S_spot S_isWrong S_executedByText ++ []) hK hN hP hD (by simp only [List.append_assoc, List.nil_append, List.append_nil])) rfl rfl hl.1 rfl (lv_room (Nat.le_of_ble_eq_true rfl)) dX7_placeIn_10 ⟨Nat.le_of_ble_eq_true rfl, Nat.le_of_ble_eq_true rfl⟩) hP hD hS hA (by simp only [List.append_assoc, List.nil_append, List.append_nil]) (by simp only [List.append_assoc, List.nil_append, List.append_nil]) (fun H locs hP hD hS => ?_)
  obtain ⟨g13, hf⟩ := gd_t hf
  refine va_iald hx hb hK hP 1 0 rfl rfl (inb_t g13) dX7_placeIn_13 ?_
  refine lv_if_eq (tgt := 57) hx hb dX7_placeIn_14 (by decide) (fun c14 => ?_) (fun c14 => ?_)
  · have hf := if_t c14 hf
    exact J57 v3 _ _ _ hf hP hD hS (lv_sub hl [0] rfl)
  · have hf := if_f c14 hf
    refine lv_aload_n hx hb dX7_placeIn_17 rfl (lv_at hl 1 rfl) ?_
    refine va_get (D := D) (ci := 7) (v := .ref (aS 1)) (C := RX7) (T := TX7) (N := 14) hx hb hts inX7 hown hK hP 0 rfl rfl 1 (by decide) kX7_7 (fun _ h9 => h9) rfl dX7_placeIn_18 ?_
    refine lv_iload_n hx hb dX7_placeIn_21 rfl (lv_at hl 0 rfl) ?_
    refine lv_iconst (v := 1) hx hb dX7_placeIn_22 (by decide) ?_
    refine lv_iadd hx hb dX7_placeIn_23 ?_
    refine lv_iconst (v := 0) hx hb dX7_placeIn_24 (by decide) ?_
    obtain ⟨y25, h25, hf⟩ := bn_t hf
    refine z_ai (x := []) (b := ([] : va_W)) (y := wX7 cI cZ cII aS S_thrown S_s S_aside S_saved S_savedMany S_text S_length S_fetched S_predicted S_fetchedMany S_fetchedWay S_spot S_isWrong S_executedByText ++ []) (b1 := ([] : va_W)) (wsn := wX7 cI cZ cII aS S_thrown S_s S_aside S_saved S_savedMany S_text S_length S_fetched S_predicted S_fetchedMany S_fetchedWay S_spot S_isWrong S_executedByText ++ []) (va_runS (As := [.int (v3 + (1 : Int32)), .int (0 : Int32)]) (rest := [.ref (aS 1)]) ⟨hx, hb, hml, hown, hts⟩ (c_X7_ofLine l D cI cZ cII cJ cM (v3 + (1 : Int32)) (0 : Int32) H.size y25 h25) (va_cwS 2 hts gX7_placeIn_X7_ofLine rfl rfl rfl (by decide +kernel) ⟨Nat.le_of_ble_eq_true rfl, Nat.le_of_ble_eq_true rfl⟩) (pz_S (x := []) (b := ([] : va_W)) (y := wX7 cI cZ cII aS S_thrown S_s S_aside S_saved S_savedMany S_text S_length S_fetched S_predicted S_fetchedMany S_fetchedWay S_spot S_isWrong S_executedByText ++ []) hK hN hP hD (by simp only [List.append_assoc, List.nil_append, List.append_nil])) rfl rfl hl.1 rfl (lv_room (Nat.le_of_ble_eq_true rfl)) dX7_placeIn_25 ⟨Nat.le_of_ble_eq_true rfl, Nat.le_of_ble_eq_true rfl⟩) hP hD hS hA (by simp only [List.append_assoc, List.nil_append, List.append_nil]) (by simp only [List.append_assoc, List.nil_append, List.append_nil]) (fun H locs hP hD hS => ?_)
    obtain ⟨g28, hf⟩ := gd_t hf
    refine va_iald hx hb hK hP 1 0 rfl rfl (inb_t g28) dX7_placeIn_28 ?_
    refine lv_if_le (tgt := 61) hx hb dX7_placeIn_29 (by decide) (fun c29 => ?_) (fun c29 => ?_)
    · have hf := if_t c29 hf
      exact J61 v3 _ _ _ hf hP hD hS (lv_sub hl [0] rfl)
    · have hf := if_f c29 hf
      refine lv_aload_n hx hb dX7_placeIn_32 rfl (lv_at hl 1 rfl) ?_
      refine va_get (D := D) (ci := 7) (v := .ref (aS 1)) (C := RX7) (T := TX7) (N := 14) hx hb hts inX7 hown hK hP 0 rfl rfl 1 (by decide) kX7_7 (fun _ h9 => h9) rfl dX7_placeIn_33 ?_
      refine lv_iload_n hx hb dX7_placeIn_36 rfl (lv_at hl 0 rfl) ?_
      refine lv_iconst (v := 1) hx hb dX7_placeIn_37 (by decide) ?_
      obtain ⟨y38, h38, hf⟩ := bn_t hf
      refine z_ai (x := []) (b := ([] : va_W)) (y := wX7 cI cZ cII aS S_thrown S_s S_aside S_saved S_savedMany S_text S_length S_fetched S_predicted S_fetchedMany S_fetchedWay S_spot S_isWrong S_executedByText ++ []) (b1 := ([] : va_W)) (wsn := wX7 cI cZ cII aS S_thrown S_s S_aside S_saved S_savedMany S_text S_length S_fetched S_predicted S_fetchedMany S_fetchedWay S_spot S_isWrong S_executedByText ++ []) (va_runS (As := [.int v3, .int (1 : Int32)]) (rest := [.ref (aS 1)]) ⟨hx, hb, hml, hown, hts⟩ (c_X7_ofLine l D cI cZ cII cJ cM v3 (1 : Int32) H.size y38 h38) (va_cwS 2 hts gX7_placeIn_X7_ofLine rfl rfl rfl (by decide +kernel) ⟨Nat.le_of_ble_eq_true rfl, Nat.le_of_ble_eq_true rfl⟩) (pz_S (x := []) (b := ([] : va_W)) (y := wX7 cI cZ cII aS S_thrown S_s S_aside S_saved S_savedMany S_text S_length S_fetched S_predicted S_fetchedMany S_fetchedWay S_spot S_isWrong S_executedByText ++ []) hK hN hP hD (by simp only [List.append_assoc, List.nil_append, List.append_nil])) rfl rfl hl.1 rfl (lv_room (Nat.le_of_ble_eq_true rfl)) dX7_placeIn_38 ⟨Nat.le_of_ble_eq_true rfl, Nat.le_of_ble_eq_true rfl⟩) hP hD hS hA (by simp only [List.append_assoc, List.nil_append, List.append_nil]) (by simp only [List.append_assoc, List.nil_append, List.append_nil]) (fun H locs hP hD hS => ?_)
      obtain ⟨g41, hf⟩ := gd_t hf
      refine va_iald hx hb hK hP 1 0 rfl rfl (inb_t g41) dX7_placeIn_41 ?_
      refine lv_aload_n hx hb dX7_placeIn_42 rfl (lv_at hl 1 rfl) ?_
      refine va_get (D := D) (ci := 7) (v := .ref (aS 1)) (C := RX7) (T := TX7) (N := 14) hx hb hts inX7 hown hK hP 0 rfl rfl 1 (by decide) kX7_7 (fun _ h9 => h9) rfl dX7_placeIn_43 ?_
      refine lv_iload_n hx hb dX7_placeIn_46 rfl (lv_at hl 0 rfl) ?_
      refine lv_iconst (v := 1) hx hb dX7_placeIn_47 (by decide) ?_
      refine lv_iadd hx hb dX7_placeIn_48 ?_
      refine lv_iconst (v := 1) hx hb dX7_placeIn_49 (by decide) ?_
      obtain ⟨y50, h50, hf⟩ := bn_t hf
      refine z_ai (x := []) (b := ([] : va_W)) (y := wX7 cI cZ cII aS S_thrown S_s S_aside S_saved S_savedMany S_text S_length S_fetched S_predicted S_fetchedMany S_fetchedWay S_spot S_isWrong S_executedByText ++ []) (b1 := ([] : va_W)) (wsn := wX7 cI cZ cII aS S_thrown S_s S_aside S_saved S_savedMany S_text S_length S_fetched S_predicted S_fetchedMany S_fetchedWay S_spot S_isWrong S_executedByText ++ []) (va_runS (As := [.int (v3 + (1 : Int32)), .int (1 : Int32)]) (rest := [.ref (aS 1), .int (S_s (Int32.toNatClampNeg y38))]) ⟨hx, hb, hml, hown, hts⟩ (c_X7_ofLine l D cI cZ cII cJ cM (v3 + (1 : Int32)) (1 : Int32) H.size y50 h50) (va_cwS 2 hts gX7_placeIn_X7_ofLine rfl rfl rfl (by decide +kernel) ⟨Nat.le_of_ble_eq_true rfl, Nat.le_of_ble_eq_true rfl⟩) (pz_S (x := []) (b := ([] : va_W)) (y := wX7 cI cZ cII aS S_thrown S_s S_aside S_saved S_savedMany S_text S_length S_fetched S_predicted S_fetchedMany S_fetchedWay S_spot S_isWrong S_executedByText ++ []) hK hN hP hD (by simp only [List.append_assoc, List.nil_append, List.append_nil])) rfl rfl hl.1 rfl (lv_room (Nat.le_of_ble_eq_true rfl)) dX7_placeIn_50 ⟨Nat.le_of_ble_eq_true rfl, Nat.le_of_ble_eq_true rfl⟩) hP hD hS hA (by simp only [List.append_assoc, List.nil_append, List.append_nil]) (by simp only [List.append_assoc, List.nil_append, List.append_nil]) (fun H locs hP hD hS => ?_)
      obtain ⟨g53, hf⟩ := gd_t hf
      refine va_iald hx hb hK hP 1 0 rfl rfl (inb_t g53) dX7_placeIn_53 ?_
      refine lv_icmp_ge (tgt := 61) hx hb dX7_placeIn_54 (by decide) (fun c54 => ?_) (fun c54 => ?_)
      · have hf := if_t c54 hf
        exact J61 v3 _ _ _ hf hP hD hS (lv_sub hl [0] rfl)
      · have hf := if_f c54 hf
        exact J57 v3 _ _ _ hf hP hD hS (lv_sub hl [0] rfl)
set_option maxHeartbeats 8000000 in
set_option maxRecDepth 100000 in
theorem c_X7_nextUse (l : Launch) (D : va_G) (cI cZ cII cJ cM : ClassId) (aS : Nat → Nat) (S_thrown : Int32) (S_s : Nat → Int32) (S_aside : Nat → Int32) (S_saved : Nat → Int32) (S_savedMany : Int32) (S_text : Nat → Int32) (S_length : Int32) (S_fetched : Nat → Int32) (S_predicted : Nat → Int32) (S_fetchedMany : Int32) (S_fetchedWay : Int32) (S_spot : Int32) (S_isWrong : Int32) (S_executedByText : Int32) (sz : Nat) (y : (Int32) × (Nat → Int32)) (hf : m_X7_nextUse S_s = some y) : Met l yX7_nextUse wsX7_nextUse ({ frames := 0, cells := 0, slots := 0, locals := 0 } : Room) (va_Pc [.ref (aS 0)] (pzPre D (zT cI cZ cII cJ cM) (wX7 cI cZ cII aS S_thrown S_s S_aside S_saved S_savedMany S_text S_length S_fetched S_predicted S_fetchedMany S_fetchedWay S_spot S_isWrong S_executedByText ++ []) sz)) (va_Qi (fun v (_ : Unit) => v = y.1) (fun _ t => pzB D (zT cI cZ cII cJ cM) (va_A (wX7 cI cZ cII aS S_thrown S_s S_aside S_saved S_savedMany S_text S_length S_fetched S_predicted S_fetchedMany S_fetchedWay S_spot S_isWrong S_executedByText ++ []) sz) (wX7 cI cZ cII aS S_thrown y.2 S_aside S_saved S_savedMany S_text S_length S_fetched S_predicted S_fetchedMany S_fetchedWay S_spot S_isWrong S_executedByText ++ []) t) (va_A (wX7 cI cZ cII aS S_thrown S_s S_aside S_saved S_savedMany S_text S_length S_fetched S_predicted S_fetchedMany S_fetchedWay S_spot S_isWrong S_executedByText ++ []) sz)) 0 0 (va_A (wX7 cI cZ cII aS S_thrown S_s S_aside S_saved S_savedMany S_text S_length S_fetched S_predicted S_fetchedMany S_fetchedWay S_spot S_isWrong S_executedByText ++ []) sz) := by
  refine z_meti (cc := cX7_nextUse) (maxL := 1) (by decide) rfl (Nat.le_of_ble_eq_true rfl) ?_
  intro p e s m args below meth c A ls Q H locs F hP hD hS hl hret
  obtain ⟨hx, hb, hml, hown, hts, hN, hK, hA⟩ := F
  have hown : s.vm.findClass RX7 = some m.cls := hown
  have hl : lv_has ls 1 [(0, .ref (aS 0))] := hl
  have inX7 : ∀ w ∈ u_ws RX7 TX7 14, w ∈ wsX7_nextUse := by decide +kernel
  have kX7_7 := hts (.fieldLink RX7 7 "TraceCacheModel" "s" "[I") (by decide +kernel)
  unfold m_X7_nextUse at hf
  refine lv_aload_n hx hb dX7_nextUse_0 rfl (lv_at hl 0 rfl) ?_
  refine va_get (D := D) (ci := 7) (v := .ref (aS 1)) (C := RX7) (T := TX7) (N := 14) hx hb hts inX7 hown hK hP 0 rfl rfl 1 (by decide) kX7_7 (fun _ h9 => h9) rfl dX7_nextUse_1 ?_
  refine lv_sipush (v := 378) hx hb dX7_nextUse_4 (by decide) ?_
  refine lv_dup2_11 hx hb dX7_nextUse_7 rfl rfl ?_
  obtain ⟨g8, hf⟩ := gd_t hf
  refine va_iald hx hb hK hP 1 0 rfl rfl (inb_t g8) dX7_nextUse_8 ?_
  refine lv_iconst (v := 1) hx hb dX7_nextUse_9 (by decide) ?_
  refine lv_iadd hx hb dX7_nextUse_10 ?_
  obtain ⟨g11, hf⟩ := gd_t hf
  refine va_iast hx hb hK hP hD hS 1 0 rfl rfl (inb_t g11) dX7_nextUse_11 (fun H locs hP hD hS => ?_)
  obtain ⟨S_s_11, eS_s_11⟩ : ∃ z : Nat → Int32, z = upd S_s (Int32.toNatClampNeg (378 : Int32)) ((S_s (Int32.toNatClampNeg (378 : Int32))) + (1 : Int32)) := ⟨_, rfl⟩
  have hf := bd_t eS_s_11 hf
  have hP : va_P D vwCl (wX7 cI cZ cII aS S_thrown S_s_11 S_aside S_saved S_savedMany S_text S_length S_fetched S_predicted S_fetchedMany S_fetchedWay S_spot S_isWrong S_executedByText ++ []) H := by rw [eS_s_11]; exact hP
  have hD : va_D A (wX7 cI cZ cII aS S_thrown S_s_11 S_aside S_saved S_savedMany S_text S_length S_fetched S_predicted S_fetchedMany S_fetchedWay S_spot S_isWrong S_executedByText ++ []) := by rw [eS_s_11]; exact hD
  refine lv_aload_n hx hb dX7_nextUse_12 rfl (lv_at hl 0 rfl) ?_
  refine va_get (D := D) (ci := 7) (v := .ref (aS 1)) (C := RX7) (T := TX7) (N := 14) hx hb hts inX7 hown hK hP 0 rfl rfl 1 (by decide) kX7_7 (fun _ h9 => h9) rfl dX7_nextUse_13 ?_
  refine lv_sipush (v := 378) hx hb dX7_nextUse_16 (by decide) ?_
  obtain ⟨g19, hf⟩ := gd_t hf
  refine va_iald hx hb hK hP 1 0 rfl rfl (inb_t g19) dX7_nextUse_19 ?_
  refine lv_topi (fun v20 ev20 => ?_)
  have hf := bd_t ev20 hf
  obtain rfl := Option.some.inj hf
  exact hret _ _ _ _ _ dX7_nextUse_20 rfl hP hD hS
set_option maxHeartbeats 8000000 in
set_option maxRecDepth 100000 in
theorem c_X7_stores (l : Launch) (D : va_G) (cI cZ cII cJ cM : ClassId) (aS : Nat → Nat) (S_thrown : Int32) (S_s : Nat → Int32) (S_aside : Nat → Int32) (S_saved : Nat → Int32) (S_savedMany : Int32) (S_text : Nat → Int32) (S_length : Int32) (S_fetched : Nat → Int32) (S_predicted : Nat → Int32) (S_fetchedMany : Int32) (S_fetchedWay : Int32) (S_spot : Int32) (S_isWrong : Int32) (S_executedByText : Int32) (sz : Nat) (y : (Nat → Int32)) (hf : m_X7_stores S_s = some y) : Met l yX7_stores wsX7_stores ({ frames := 2, cells := 0, slots := 0, locals := 44 } : Room) (va_Pc [.ref (aS 0)] (pzPre D (zT cI cZ cII cJ cM) (wX7 cI cZ cII aS S_thrown S_s S_aside S_saved S_savedMany S_text S_length S_fetched S_predicted S_fetchedMany S_fetchedWay S_spot S_isWrong S_executedByText ++ []) sz)) (va_Qv (fun (_ : Unit) => True) (fun _ t => pzB D (zT cI cZ cII cJ cM) (va_A (wX7 cI cZ cII aS S_thrown S_s S_aside S_saved S_savedMany S_text S_length S_fetched S_predicted S_fetchedMany S_fetchedWay S_spot S_isWrong S_executedByText ++ []) sz) (wX7 cI cZ cII aS S_thrown y S_aside S_saved S_savedMany S_text S_length S_fetched S_predicted S_fetchedMany S_fetchedWay S_spot S_isWrong S_executedByText ++ []) t) (va_A (wX7 cI cZ cII aS S_thrown S_s S_aside S_saved S_savedMany S_text S_length S_fetched S_predicted S_fetchedMany S_fetchedWay S_spot S_isWrong S_executedByText ++ []) sz)) 0 0 (va_A (wX7 cI cZ cII aS S_thrown S_s S_aside S_saved S_savedMany S_text S_length S_fetched S_predicted S_fetchedMany S_fetchedWay S_spot S_isWrong S_executedByText ++ []) sz) := by
  refine z_metv (cc := cX7_stores) (maxL := 4) (by decide) rfl (Nat.le_of_ble_eq_true rfl) ?_
  intro p e s m args below meth c A ls Q H locs F hP hD hS hl hret
  obtain ⟨hx, hb, hml, hown, hts, hN, hK, hA⟩ := F
  have hown : s.vm.findClass RX7 = some m.cls := hown
  have hl : lv_has ls 4 [(0, .ref (aS 0))] := hl
  have inX7 : ∀ w ∈ u_ws RX7 TX7 14, w ∈ wsX7_stores := by decide +kernel
  have kX7_7 := hts (.fieldLink RX7 7 "TraceCacheModel" "s" "[I") (by decide +kernel)
  have J161 : ∀ (S_s : Nat → Int32) (x2 : Int32) (H : Heap) (locs : List Loc) (ls : Array Slot), m_X7_stores_161 S_s x2 = some y → va_P D vwCl (wX7 cI cZ cII aS S_thrown S_s S_aside S_saved S_savedMany S_text S_length S_fetched S_predicted S_fetchedMany S_fetchedWay S_spot S_isWrong S_executedByText ++ []) H → va_D A (wX7 cI cZ cII aS S_thrown S_s S_aside S_saved S_savedMany S_text S_length S_fetched S_predicted S_fetchedMany S_fetchedWay S_spot S_isWrong S_executedByText ++ []) → va_S A s.heap H locs → lv_has ls 4 [(0, .ref (aS 0)), (2, .int x2)] → W p l e ({ frames := 2, cells := 0, slots := 0, locals := 44 } : Room) s m args below meth c H locs 0 0 Q (F0 m 161 ls []) := by
    intro S_s x2 H locs ls hf hP hD hS hl
    unfold m_X7_stores_161 at hf
    refine lv_aload_n hx hb dX7_stores_161 rfl (lv_at hl 0 rfl) ?_
    refine va_get (D := D) (ci := 7) (v := .ref (aS 1)) (C := RX7) (T := TX7) (N := 14) hx hb hts inX7 hown hK hP 0 rfl rfl 1 (by decide) kX7_7 (fun _ h9 => h9) rfl dX7_stores_162 ?_
    refine lv_iload_n hx hb dX7_stores_165 rfl (lv_at hl 1 rfl) ?_
    refine lv_iconst (v := 1) hx hb dX7_stores_166 (by decide) ?_
    obtain ⟨y167, h167, hf⟩ := bn_t hf
    refine z_ai (x := []) (b := ([] : va_W)) (y := wX7 cI cZ cII aS S_thrown S_s S_aside S_saved S_savedMany S_text S_length S_fetched S_predicted S_fetchedMany S_fetchedWay S_spot S_isWrong S_executedByText ++ []) (b1 := ([] : va_W)) (wsn := wX7 cI cZ cII aS S_thrown S_s S_aside S_saved S_savedMany S_text S_length S_fetched S_predicted S_fetchedMany S_fetchedWay S_spot S_isWrong S_executedByText ++ []) (va_runS (As := [.int x2, .int (1 : Int32)]) (rest := [.ref (aS 1)]) ⟨hx, hb, hml, hown, hts⟩ (c_X7_ofLine l D cI cZ cII cJ cM x2 (1 : Int32) H.size y167 h167) (va_cwS 2 hts gX7_stores_X7_ofLine rfl rfl rfl (by decide +kernel) ⟨Nat.le_of_ble_eq_true rfl, Nat.le_of_ble_eq_true rfl⟩) (pz_S (x := []) (b := ([] : va_W)) (y := wX7 cI cZ cII aS S_thrown S_s S_aside S_saved S_savedMany S_text S_length S_fetched S_predicted S_fetchedMany S_fetchedWay S_spot S_isWrong S_executedByText ++ []) hK hN hP hD (by simp only [List.append_assoc, List.nil_append, List.append_nil])) rfl rfl hl.1 rfl (lv_room (Nat.le_of_ble_eq_true rfl)) dX7_stores_167 ⟨Nat.le_of_ble_eq_true rfl, Nat.le_of_ble_eq_true rfl⟩) hP hD hS hA (by simp only [List.append_assoc, List.nil_append, List.append_nil]) (by simp only [List.append_assoc, List.nil_append, List.append_nil]) (fun H locs hP hD hS => ?_)
    refine lv_aload_n hx hb dX7_stores_170 rfl (lv_at hl 0 rfl) ?_
    obtain ⟨y171, h171, hf⟩ := bn_t hf
    refine z_ai (x := []) (b := wX7 cI cZ cII aS S_thrown S_s S_aside S_saved S_savedMany S_text S_length S_fetched S_predicted S_fetchedMany S_fetchedWay S_spot S_isWrong S_executedByText ++ []) (y := ([] : va_W)) (b1 := wX7 cI cZ cII aS S_thrown y171.2 S_aside S_saved S_savedMany S_text S_length S_fetched S_predicted S_fetchedMany S_fetchedWay S_spot S_isWrong S_executedByText ++ []) (wsn := wX7 cI cZ cII aS S_thrown y171.2 S_aside S_saved S_savedMany S_text S_length S_fetched S_predicted S_fetchedMany S_fetchedWay S_spot S_isWrong S_executedByText ++ []) (va_runV (As := []) (rest := [.int y167, .ref (aS 1)]) ⟨hx, hb, hml, hown, hts⟩ (c_X7_nextUse l D cI cZ cII cJ cM aS S_thrown S_s S_aside S_saved S_savedMany S_text S_length S_fetched S_predicted S_fetchedMany S_fetchedWay S_spot S_isWrong S_executedByText H.size y171 h171) (cwV 0 hts gX7_stores_X7_nextUse rfl rfl rfl (by decide +kernel) ⟨Nat.le_of_ble_eq_true rfl, Nat.le_of_ble_eq_true rfl⟩) (pz_V (x := []) (b := wX7 cI cZ cII aS S_thrown S_s S_aside S_saved S_savedMany S_text S_length S_fetched S_predicted S_fetchedMany S_fetchedWay S_spot S_isWrong S_executedByText ++ []) (y := ([] : va_W)) (C := RX7) (T := TX7) (N := 14) (ci := 7) (As := []) (bi := 0) hK hN hP hD (by simp only [List.append_assoc, List.nil_append, List.append_nil]) rfl rfl) rfl rfl hl.1 rfl (lv_room (Nat.le_of_ble_eq_true rfl)) dX7_stores_171 ⟨Nat.le_of_ble_eq_true rfl, Nat.le_of_ble_eq_true rfl⟩) hP hD hS hA (by simp only [List.append_assoc, List.nil_append, List.append_nil]) (by simp only [List.append_assoc, List.nil_append, List.append_nil]) (fun H locs hP hD hS => ?_)
    obtain ⟨g174, hf⟩ := gd_t hf
    refine va_iast hx hb hK hP hD hS 1 0 rfl rfl (inb_t g174) dX7_stores_174 (fun H locs hP hD hS => ?_)
    obtain ⟨S_s_174, eS_s_174⟩ : ∃ z : Nat → Int32, z = upd y171.2 (Int32.toNatClampNeg y167) y171.1 := ⟨_, rfl⟩
    have hf := bd_t eS_s_174 hf
    have hP : va_P D vwCl (wX7 cI cZ cII aS S_thrown S_s_174 S_aside S_saved S_savedMany S_text S_length S_fetched S_predicted S_fetchedMany S_fetchedWay S_spot S_isWrong S_executedByText ++ []) H := by rw [eS_s_174]; exact hP
    have hD : va_D A (wX7 cI cZ cII aS S_thrown S_s_174 S_aside S_saved S_savedMany S_text S_length S_fetched S_predicted S_fetchedMany S_fetchedWay S_spot S_isWrong S_executedByText ++ []) := by rw [eS_s_174]; exact hD
    refine lv_aload_n hx hb dX7_stores_175 rfl (lv_at hl 0 rfl) ?_
    refine va_get (D := D) (ci := 7) (v := .ref (aS 1)) (C := RX7) (T := TX7) (N := 14) hx hb hts inX7 hown hK hP 0 rfl rfl 1 (by decide) kX7_7 (fun _ h9 => h9) rfl dX7_stores_176 ?_
    refine lv_sipush (v := 369) hx hb dX7_stores_179 (by decide) ?_
    refine lv_iconst (v := 0) hx hb dX7_stores_182 (by decide) ?_
    obtain ⟨g183, hf⟩ := gd_t hf
    refine va_iast hx hb hK hP hD hS 1 0 rfl rfl (inb_t g183) dX7_stores_183 (fun H locs hP hD hS => ?_)
    obtain ⟨S_s_183, eS_s_183⟩ : ∃ z : Nat → Int32, z = upd S_s_174 (Int32.toNatClampNeg (369 : Int32)) (0 : Int32) := ⟨_, rfl⟩
    have hf := bd_t eS_s_183 hf
    have hP : va_P D vwCl (wX7 cI cZ cII aS S_thrown S_s_183 S_aside S_saved S_savedMany S_text S_length S_fetched S_predicted S_fetchedMany S_fetchedWay S_spot S_isWrong S_executedByText ++ []) H := by rw [eS_s_183]; exact hP
    have hD : va_D A (wX7 cI cZ cII aS S_thrown S_s_183 S_aside S_saved S_savedMany S_text S_length S_fetched S_predicted S_fetchedMany S_fetchedWay S_spot S_isWrong S_executedByText ++ []) := by rw [eS_s_183]; exact hD
    obtain rfl := Option.some.inj hf
    exact hret _ _ _ _ dX7_stores_184 hP hD hS
  have J121 : ∀ (n121 : Nat), ∀ (S_s : Nat → Int32) (x2 : Int32) (x3 : Int32) (H : Heap) (locs : List Loc) (ls : Array Slot), m_X7_stores_121 n121 S_s x2 x3 = some y → va_P D vwCl (wX7 cI cZ cII aS S_thrown S_s S_aside S_saved S_savedMany S_text S_length S_fetched S_predicted S_fetchedMany S_fetchedWay S_spot S_isWrong S_executedByText ++ []) H → va_D A (wX7 cI cZ cII aS S_thrown S_s S_aside S_saved S_savedMany S_text S_length S_fetched S_predicted S_fetchedMany S_fetchedWay S_spot S_isWrong S_executedByText ++ []) → va_S A s.heap H locs → lv_has ls 4 [(0, .ref (aS 0)), (2, .int x2), (3, .int x3)] → W p l e ({ frames := 2, cells := 0, slots := 0, locals := 44 } : Room) s m args below meth c H locs 0 0 Q (F0 m 121 ls []) := by
    intro n121
    induction n121 with
    | zero =>
      intro S_s x2 x3 H locs ls hf hP hD hS hl
      rw [m_X7_stores_121] at hf
      cases hf
    | succ n121 ih121 =>
      intro S_s x2 x3 H locs ls hf hP hD hS hl
      rw [m_X7_stores_121] at hf
      refine lv_iload_n hx hb dX7_stores_121 rfl (lv_at hl 2 rfl) ?_
      refine lv_aload_n hx hb dX7_stores_122 rfl (lv_at hl 0 rfl) ?_
      refine va_get (D := D) (ci := 7) (v := .ref (aS 1)) (C := RX7) (T := TX7) (N := 14) hx hb hts inX7 hown hK hP 0 rfl rfl 1 (by decide) kX7_7 (fun _ h9 => h9) rfl dX7_stores_123 ?_
      refine lv_sipush (v := 369) hx hb dX7_stores_126 (by decide) ?_
      obtain ⟨g129, hf⟩ := gd_t hf
      refine va_iald hx hb hK hP 1 0 rfl rfl (inb_t g129) dX7_stores_129 ?_
      refine lv_icmp_ge (tgt := 161) hx hb dX7_stores_130 (by decide) (fun c130 => ?_) (fun c130 => ?_)
      · have hf := if_t c130 hf
        exact J161 S_s x2 _ _ _ hf hP hD hS (lv_sub hl [0, 1] rfl)
      · have hf := if_f c130 hf
        refine lv_aload_n hx hb dX7_stores_133 rfl (lv_at hl 0 rfl) ?_
        refine va_get (D := D) (ci := 7) (v := .ref (aS 1)) (C := RX7) (T := TX7) (N := 14) hx hb hts inX7 hown hK hP 0 rfl rfl 1 (by decide) kX7_7 (fun _ h9 => h9) rfl dX7_stores_134 ?_
        refine lv_iload_n hx hb dX7_stores_137 rfl (lv_at hl 1 rfl) ?_
        refine lv_iconst (v := 2) hx hb dX7_stores_138 (by decide) ?_
        refine lv_iload_n hx hb dX7_stores_139 rfl (lv_at hl 2 rfl) ?_
        refine lv_iadd hx hb dX7_stores_140 ?_
        obtain ⟨y141, h141, hf⟩ := bn_t hf
        refine z_ai (x := []) (b := ([] : va_W)) (y := wX7 cI cZ cII aS S_thrown S_s S_aside S_saved S_savedMany S_text S_length S_fetched S_predicted S_fetchedMany S_fetchedWay S_spot S_isWrong S_executedByText ++ []) (b1 := ([] : va_W)) (wsn := wX7 cI cZ cII aS S_thrown S_s S_aside S_saved S_savedMany S_text S_length S_fetched S_predicted S_fetchedMany S_fetchedWay S_spot S_isWrong S_executedByText ++ []) (va_runS (As := [.int x2, .int ((2 : Int32) + x3)]) (rest := [.ref (aS 1)]) ⟨hx, hb, hml, hown, hts⟩ (c_X7_ofLine l D cI cZ cII cJ cM x2 ((2 : Int32) + x3) H.size y141 h141) (va_cwS 2 hts gX7_stores_X7_ofLine rfl rfl rfl (by decide +kernel) ⟨Nat.le_of_ble_eq_true rfl, Nat.le_of_ble_eq_true rfl⟩) (pz_S (x := []) (b := ([] : va_W)) (y := wX7 cI cZ cII aS S_thrown S_s S_aside S_saved S_savedMany S_text S_length S_fetched S_predicted S_fetchedMany S_fetchedWay S_spot S_isWrong S_executedByText ++ []) hK hN hP hD (by simp only [List.append_assoc, List.nil_append, List.append_nil])) rfl rfl hl.1 rfl (lv_room (Nat.le_of_ble_eq_true rfl)) dX7_stores_141 ⟨Nat.le_of_ble_eq_true rfl, Nat.le_of_ble_eq_true rfl⟩) hP hD hS hA (by simp only [List.append_assoc, List.nil_append, List.append_nil]) (by simp only [List.append_assoc, List.nil_append, List.append_nil]) (fun H locs hP hD hS => ?_)
        refine lv_aload_n hx hb dX7_stores_144 rfl (lv_at hl 0 rfl) ?_
        refine va_get (D := D) (ci := 7) (v := .ref (aS 1)) (C := RX7) (T := TX7) (N := 14) hx hb hts inX7 hown hK hP 0 rfl rfl 1 (by decide) kX7_7 (fun _ h9 => h9) rfl dX7_stores_145 ?_
        refine lv_sipush (v := 370) hx hb dX7_stores_148 (by decide) ?_
        refine lv_iload_n hx hb dX7_stores_151 rfl (lv_at hl 2 rfl) ?_
        refine lv_iadd hx hb dX7_stores_152 ?_
        refine lv_topi (fun v153 ev153 => ?_)
        have hf := bd_t ev153 hf
        obtain ⟨g153, hf⟩ := gd_t hf
        refine va_iald hx hb hK hP 1 0 rfl rfl (inb_t g153) dX7_stores_153 ?_
        obtain ⟨g154, hf⟩ := gd_t hf
        refine va_iast hx hb hK hP hD hS 1 0 rfl rfl (inb_t g154) dX7_stores_154 (fun H locs hP hD hS => ?_)
        obtain ⟨S_s_154, eS_s_154⟩ : ∃ z : Nat → Int32, z = upd S_s (Int32.toNatClampNeg y141) (S_s (Int32.toNatClampNeg v153)) := ⟨_, rfl⟩
        have hf := bd_t eS_s_154 hf
        have hP : va_P D vwCl (wX7 cI cZ cII aS S_thrown S_s_154 S_aside S_saved S_savedMany S_text S_length S_fetched S_predicted S_fetchedMany S_fetchedWay S_spot S_isWrong S_executedByText ++ []) H := by rw [eS_s_154]; exact hP
        have hD : va_D A (wX7 cI cZ cII aS S_thrown S_s_154 S_aside S_saved S_savedMany S_text S_length S_fetched S_predicted S_fetchedMany S_fetchedWay S_spot S_isWrong S_executedByText ++ []) := by rw [eS_s_154]; exact hD
        obtain ⟨v155, ev155⟩ : ∃ z : Int32, z = x3 + (1 : Int32) := ⟨_, rfl⟩
        have hf := bd_t ev155 hf
        refine lv_iinc (v := v155) (lv' := [(3, .int v155), (0, .ref (aS 0)), (2, .int x2)]) hx hb dX7_stores_155 hl (k := 2) rfl (by rw [ev155]; rfl) (by decide) rfl (fun ls hl => ?_)
        refine lv_goto (tgt := 121) hx hb dX7_stores_158 (by decide) ?_
        exact ih121 S_s_154 x2 v155 _ _ _ hf hP hD hS (lv_sub hl [1, 2, 0] rfl)
  have J87 : ∀ (S_s : Nat → Int32) (x2 : Int32) (k1 : Int32) (k2 : Int32) (k3 : Int32) (H : Heap) (locs : List Loc) (ls : Array Slot), m_X7_stores_87 S_s x2 k1 k2 k3 = some y → va_P D vwCl (wX7 cI cZ cII aS S_thrown S_s S_aside S_saved S_savedMany S_text S_length S_fetched S_predicted S_fetchedMany S_fetchedWay S_spot S_isWrong S_executedByText ++ []) H → va_D A (wX7 cI cZ cII aS S_thrown S_s S_aside S_saved S_savedMany S_text S_length S_fetched S_predicted S_fetchedMany S_fetchedWay S_spot S_isWrong S_executedByText ++ []) → va_S A s.heap H locs → lv_has ls 4 [(0, .ref (aS 0)), (2, .int x2)] → W p l e ({ frames := 2, cells := 0, slots := 0, locals := 44 } : Room) s m args below meth c H locs 0 0 Q (F0 m 87 ls [.int k3, .int k2, .int k1, .ref (aS 1)]) := by
    intro S_s x2 k1 k2 k3 H locs ls hf hP hD hS hl
    unfold m_X7_stores_87 at hf
    refine lv_iadd hx hb dX7_stores_87 ?_
    obtain ⟨g88, hf⟩ := gd_t hf
    refine va_iast hx hb hK hP hD hS 1 0 rfl rfl (inb_t g88) dX7_stores_88 (fun H locs hP hD hS => ?_)
    obtain ⟨S_s_88, eS_s_88⟩ : ∃ z : Nat → Int32, z = upd S_s (Int32.toNatClampNeg k1) (k2 + k3) := ⟨_, rfl⟩
    have hf := bd_t eS_s_88 hf
    have hP : va_P D vwCl (wX7 cI cZ cII aS S_thrown S_s_88 S_aside S_saved S_savedMany S_text S_length S_fetched S_predicted S_fetchedMany S_fetchedWay S_spot S_isWrong S_executedByText ++ []) H := by rw [eS_s_88]; exact hP
    have hD : va_D A (wX7 cI cZ cII aS S_thrown S_s_88 S_aside S_saved S_savedMany S_text S_length S_fetched S_predicted S_fetchedMany S_fetchedWay S_spot S_isWrong S_executedByText ++ []) := by rw [eS_s_88]; exact hD
    refine lv_aload_n hx hb dX7_stores_89 rfl (lv_at hl 0 rfl) ?_
    refine va_get (D := D) (ci := 7) (v := .ref (aS 1)) (C := RX7) (T := TX7) (N := 14) hx hb hts inX7 hown hK hP 0 rfl rfl 1 (by decide) kX7_7 (fun _ h9 => h9) rfl dX7_stores_90 ?_
    refine lv_sipush (v := 386) hx hb dX7_stores_93 (by decide) ?_
    refine lv_dup2_11 hx hb dX7_stores_96 rfl rfl ?_
    obtain ⟨g97, hf⟩ := gd_t hf
    refine va_iald hx hb hK hP 1 0 rfl rfl (inb_t g97) dX7_stores_97 ?_
    refine lv_iconst (v := 1) hx hb dX7_stores_98 (by decide) ?_
    refine lv_iadd hx hb dX7_stores_99 ?_
    obtain ⟨g100, hf⟩ := gd_t hf
    refine va_iast hx hb hK hP hD hS 1 0 rfl rfl (inb_t g100) dX7_stores_100 (fun H locs hP hD hS => ?_)
    obtain ⟨S_s_100, eS_s_100⟩ : ∃ z : Nat → Int32, z = upd S_s_88 (Int32.toNatClampNeg (386 : Int32)) ((S_s_88 (Int32.toNatClampNeg (386 : Int32))) + (1 : Int32)) := ⟨_, rfl⟩
    have hf := bd_t eS_s_100 hf
    have hP : va_P D vwCl (wX7 cI cZ cII aS S_thrown S_s_100 S_aside S_saved S_savedMany S_text S_length S_fetched S_predicted S_fetchedMany S_fetchedWay S_spot S_isWrong S_executedByText ++ []) H := by rw [eS_s_100]; exact hP
    have hD : va_D A (wX7 cI cZ cII aS S_thrown S_s_100 S_aside S_saved S_savedMany S_text S_length S_fetched S_predicted S_fetchedMany S_fetchedWay S_spot S_isWrong S_executedByText ++ []) := by rw [eS_s_100]; exact hD
    refine lv_aload_n hx hb dX7_stores_101 rfl (lv_at hl 0 rfl) ?_
    refine va_get (D := D) (ci := 7) (v := .ref (aS 1)) (C := RX7) (T := TX7) (N := 14) hx hb hts inX7 hown hK hP 0 rfl rfl 1 (by decide) kX7_7 (fun _ h9 => h9) rfl dX7_stores_102 ?_
    refine lv_iload_n hx hb dX7_stores_105 rfl (lv_at hl 1 rfl) ?_
    refine lv_iconst (v := 0) hx hb dX7_stores_106 (by decide) ?_
    obtain ⟨y107, h107, hf⟩ := bn_t hf
    refine z_ai (x := []) (b := ([] : va_W)) (y := wX7 cI cZ cII aS S_thrown S_s_100 S_aside S_saved S_savedMany S_text S_length S_fetched S_predicted S_fetchedMany S_fetchedWay S_spot S_isWrong S_executedByText ++ []) (b1 := ([] : va_W)) (wsn := wX7 cI cZ cII aS S_thrown S_s_100 S_aside S_saved S_savedMany S_text S_length S_fetched S_predicted S_fetchedMany S_fetchedWay S_spot S_isWrong S_executedByText ++ []) (va_runS (As := [.int x2, .int (0 : Int32)]) (rest := [.ref (aS 1)]) ⟨hx, hb, hml, hown, hts⟩ (c_X7_ofLine l D cI cZ cII cJ cM x2 (0 : Int32) H.size y107 h107) (va_cwS 2 hts gX7_stores_X7_ofLine rfl rfl rfl (by decide +kernel) ⟨Nat.le_of_ble_eq_true rfl, Nat.le_of_ble_eq_true rfl⟩) (pz_S (x := []) (b := ([] : va_W)) (y := wX7 cI cZ cII aS S_thrown S_s_100 S_aside S_saved S_savedMany S_text S_length S_fetched S_predicted S_fetchedMany S_fetchedWay S_spot S_isWrong S_executedByText ++ []) hK hN hP hD (by simp only [List.append_assoc, List.nil_append, List.append_nil])) rfl rfl hl.1 rfl (lv_room (Nat.le_of_ble_eq_true rfl)) dX7_stores_107 ⟨Nat.le_of_ble_eq_true rfl, Nat.le_of_ble_eq_true rfl⟩) hP hD hS hA (by simp only [List.append_assoc, List.nil_append, List.append_nil]) (by simp only [List.append_assoc, List.nil_append, List.append_nil]) (fun H locs hP hD hS => ?_)
    refine lv_aload_n hx hb dX7_stores_110 rfl (lv_at hl 0 rfl) ?_
    refine va_get (D := D) (ci := 7) (v := .ref (aS 1)) (C := RX7) (T := TX7) (N := 14) hx hb hts inX7 hown hK hP 0 rfl rfl 1 (by decide) kX7_7 (fun _ h9 => h9) rfl dX7_stores_111 ?_
    refine lv_sipush (v := 369) hx hb dX7_stores_114 (by decide) ?_
    obtain ⟨g117, hf⟩ := gd_t hf
    refine va_iald hx hb hK hP 1 0 rfl rfl (inb_t g117) dX7_stores_117 ?_
    obtain ⟨g118, hf⟩ := gd_t hf
    refine va_iast hx hb hK hP hD hS 1 0 rfl rfl (inb_t g118) dX7_stores_118 (fun H locs hP hD hS => ?_)
    obtain ⟨S_s_118, eS_s_118⟩ : ∃ z : Nat → Int32, z = upd S_s_100 (Int32.toNatClampNeg y107) (S_s_100 (Int32.toNatClampNeg (369 : Int32))) := ⟨_, rfl⟩
    have hf := bd_t eS_s_118 hf
    have hP : va_P D vwCl (wX7 cI cZ cII aS S_thrown S_s_118 S_aside S_saved S_savedMany S_text S_length S_fetched S_predicted S_fetchedMany S_fetchedWay S_spot S_isWrong S_executedByText ++ []) H := by rw [eS_s_118]; exact hP
    have hD : va_D A (wX7 cI cZ cII aS S_thrown S_s_118 S_aside S_saved S_savedMany S_text S_length S_fetched S_predicted S_fetchedMany S_fetchedWay S_spot S_isWrong S_executedByText ++ []) := by rw [eS_s_118]; exact hD
    refine lv_iconst (v := 0) hx hb dX7_stores_119 (by decide) ?_
    refine lv_istore_n (lv' := [(3, .int (0 : Int32)), (0, .ref (aS 0)), (2, .int x2)]) hx hb dX7_stores_120 rfl hl (by decide) rfl (fun ls hl => ?_)
    exact J121 4000 S_s_118 x2 (0 : Int32) _ _ _ hf hP hD hS (lv_sub hl [1, 2, 0] rfl)
  have J48 : ∀ (S_s : Nat → Int32) (x1 : Int32) (k0 : Int32) (H : Heap) (locs : List Loc) (ls : Array Slot), m_X7_stores_48 S_s x1 k0 = some y → va_P D vwCl (wX7 cI cZ cII aS S_thrown S_s S_aside S_saved S_savedMany S_text S_length S_fetched S_predicted S_fetchedMany S_fetchedWay S_spot S_isWrong S_executedByText ++ []) H → va_D A (wX7 cI cZ cII aS S_thrown S_s S_aside S_saved S_savedMany S_text S_length S_fetched S_predicted S_fetchedMany S_fetchedWay S_spot S_isWrong S_executedByText ++ []) → va_S A s.heap H locs → lv_has ls 4 [(0, .ref (aS 0)), (1, .int x1)] → W p l e ({ frames := 2, cells := 0, slots := 0, locals := 44 } : Room) s m args below meth c H locs 0 0 Q (F0 m 48 ls [.int k0]) := by
    intro S_s x1 k0 H locs ls hf hP hD hS hl
    unfold m_X7_stores_48 at hf
    refine lv_istore_n (lv' := [(2, .int k0), (0, .ref (aS 0)), (1, .int x1)]) hx hb dX7_stores_48 rfl hl (by decide) rfl (fun ls hl => ?_)
    refine lv_iload_n hx hb dX7_stores_49 rfl (lv_at hl 0 rfl) ?_
    refine lv_iconst (v := -1) hx hb dX7_stores_50 (by decide) ?_
    refine lv_icmp_ne (tgt := 161) hx hb dX7_stores_51 (by decide) (fun c51 => ?_) (fun c51 => ?_)
    · have hf := if_f c51 hf
      exact J161 S_s k0 _ _ _ hf hP hD hS (lv_sub hl [1, 0] rfl)
    · have hf := if_t c51 hf
      refine lv_aload_n hx hb dX7_stores_54 rfl (lv_at hl 1 rfl) ?_
      refine lv_iload_n hx hb dX7_stores_55 rfl (lv_at hl 2 rfl) ?_
      obtain ⟨y56, h56, hf⟩ := bn_t hf
      refine z_ai (x := []) (b := wX7 cI cZ cII aS S_thrown S_s S_aside S_saved S_savedMany S_text S_length S_fetched S_predicted S_fetchedMany S_fetchedWay S_spot S_isWrong S_executedByText ++ []) (y := ([] : va_W)) (b1 := wX7 cI cZ cII aS S_thrown S_s S_aside S_saved S_savedMany S_text S_length S_fetched S_predicted S_fetchedMany S_fetchedWay S_spot S_isWrong S_executedByText ++ []) (wsn := wX7 cI cZ cII aS S_thrown S_s S_aside S_saved S_savedMany S_text S_length S_fetched S_predicted S_fetchedMany S_fetchedWay S_spot S_isWrong S_executedByText ++ []) (va_runV (As := [.int x1]) (rest := []) ⟨hx, hb, hml, hown, hts⟩ (c_X7_placeIn l D cI cZ cII cJ cM aS S_thrown S_s S_aside S_saved S_savedMany S_text S_length S_fetched S_predicted S_fetchedMany S_fetchedWay S_spot S_isWrong S_executedByText x1 H.size y56 h56) (cwV 1 hts gX7_stores_X7_placeIn rfl rfl rfl (by decide +kernel) ⟨Nat.le_of_ble_eq_true rfl, Nat.le_of_ble_eq_true rfl⟩) (pz_V (x := []) (b := wX7 cI cZ cII aS S_thrown S_s S_aside S_saved S_savedMany S_text S_length S_fetched S_predicted S_fetchedMany S_fetchedWay S_spot S_isWrong S_executedByText ++ []) (y := ([] : va_W)) (C := RX7) (T := TX7) (N := 14) (ci := 7) (As := [.int x1]) (bi := 0) hK hN hP hD (by simp only [List.append_assoc, List.nil_append, List.append_nil]) rfl rfl) rfl rfl hl.1 rfl (lv_room (Nat.le_of_ble_eq_true rfl)) dX7_stores_56 ⟨Nat.le_of_ble_eq_true rfl, Nat.le_of_ble_eq_true rfl⟩) hP hD hS hA (by simp only [List.append_assoc, List.nil_append, List.append_nil]) (by simp only [List.append_assoc, List.nil_append, List.append_nil]) (fun H locs hP hD hS => ?_)
      refine lv_istore_n (lv' := [(2, .int y56), (0, .ref (aS 0)), (1, .int x1)]) hx hb dX7_stores_59 rfl hl (by decide) rfl (fun ls hl => ?_)
      refine lv_aload_n hx hb dX7_stores_60 rfl (lv_at hl 1 rfl) ?_
      refine va_get (D := D) (ci := 7) (v := .ref (aS 1)) (C := RX7) (T := TX7) (N := 14) hx hb hts inX7 hown hK hP 0 rfl rfl 1 (by decide) kX7_7 (fun _ h9 => h9) rfl dX7_stores_61 ?_
      refine lv_sipush (v := 387) hx hb dX7_stores_64 (by decide) ?_
      refine lv_dup2_11 hx hb dX7_stores_67 rfl rfl ?_
      obtain ⟨g68, hf⟩ := gd_t hf
      refine va_iald hx hb hK hP 1 0 rfl rfl (inb_t g68) dX7_stores_68 ?_
      refine lv_aload_n hx hb dX7_stores_69 rfl (lv_at hl 1 rfl) ?_
      refine va_get (D := D) (ci := 7) (v := .ref (aS 1)) (C := RX7) (T := TX7) (N := 14) hx hb hts inX7 hown hK hP 0 rfl rfl 1 (by decide) kX7_7 (fun _ h9 => h9) rfl dX7_stores_70 ?_
      refine lv_iload_n hx hb dX7_stores_73 rfl (lv_at hl 0 rfl) ?_
      refine lv_iconst (v := 0) hx hb dX7_stores_74 (by decide) ?_
      obtain ⟨y75, h75, hf⟩ := bn_t hf
      refine z_ai (x := []) (b := ([] : va_W)) (y := wX7 cI cZ cII aS S_thrown S_s S_aside S_saved S_savedMany S_text S_length S_fetched S_predicted S_fetchedMany S_fetchedWay S_spot S_isWrong S_executedByText ++ []) (b1 := ([] : va_W)) (wsn := wX7 cI cZ cII aS S_thrown S_s S_aside S_saved S_savedMany S_text S_length S_fetched S_predicted S_fetchedMany S_fetchedWay S_spot S_isWrong S_executedByText ++ []) (va_runS (As := [.int y56, .int (0 : Int32)]) (rest := [.ref (aS 1), .int (S_s (Int32.toNatClampNeg (387 : Int32))), .int (387 : Int32), .ref (aS 1)]) ⟨hx, hb, hml, hown, hts⟩ (c_X7_ofLine l D cI cZ cII cJ cM y56 (0 : Int32) H.size y75 h75) (va_cwS 2 hts gX7_stores_X7_ofLine rfl rfl rfl (by decide +kernel) ⟨Nat.le_of_ble_eq_true rfl, Nat.le_of_ble_eq_true rfl⟩) (pz_S (x := []) (b := ([] : va_W)) (y := wX7 cI cZ cII aS S_thrown S_s S_aside S_saved S_savedMany S_text S_length S_fetched S_predicted S_fetchedMany S_fetchedWay S_spot S_isWrong S_executedByText ++ []) hK hN hP hD (by simp only [List.append_assoc, List.nil_append, List.append_nil])) rfl rfl hl.1 rfl (lv_room (Nat.le_of_ble_eq_true rfl)) dX7_stores_75 ⟨Nat.le_of_ble_eq_true rfl, Nat.le_of_ble_eq_true rfl⟩) hP hD hS hA (by simp only [List.append_assoc, List.nil_append, List.append_nil]) (by simp only [List.append_assoc, List.nil_append, List.append_nil]) (fun H locs hP hD hS => ?_)
      obtain ⟨g78, hf⟩ := gd_t hf
      refine va_iald hx hb hK hP 1 0 rfl rfl (inb_t g78) dX7_stores_78 ?_
      refine lv_if_le (tgt := 86) hx hb dX7_stores_79 (by decide) (fun c79 => ?_) (fun c79 => ?_)
      · have hf := if_t c79 hf
        refine lv_iconst (v := 0) hx hb dX7_stores_86 (by decide) ?_
        exact J87 S_s y56 (387 : Int32) (S_s (Int32.toNatClampNeg (387 : Int32))) (0 : Int32) _ _ _ hf hP hD hS (lv_sub hl [1, 0] rfl)
      · have hf := if_f c79 hf
        refine lv_iconst (v := 1) hx hb dX7_stores_82 (by decide) ?_
        refine lv_goto (tgt := 87) hx hb dX7_stores_83 (by decide) ?_
        exact J87 S_s y56 (387 : Int32) (S_s (Int32.toNatClampNeg (387 : Int32))) (1 : Int32) _ _ _ hf hP hD hS (lv_sub hl [1, 0] rfl)
  unfold m_X7_stores at hf
  refine lv_aload_n hx hb dX7_stores_0 rfl (lv_at hl 0 rfl) ?_
  refine va_get (D := D) (ci := 7) (v := .ref (aS 1)) (C := RX7) (T := TX7) (N := 14) hx hb hts inX7 hown hK hP 0 rfl rfl 1 (by decide) kX7_7 (fun _ h9 => h9) rfl dX7_stores_1 ?_
  refine lv_sipush (v := 370) hx hb dX7_stores_4 (by decide) ?_
  obtain ⟨g7, hf⟩ := gd_t hf
  refine va_iald hx hb hK hP 1 0 rfl rfl (inb_t g7) dX7_stores_7 ?_
  refine lv_iconst (v := 4) hx hb dX7_stores_8 (by decide) ?_
  refine lv_irem hx hb dX7_stores_9 (by decide) ?_
  refine lv_topi (fun v10 ev10 => ?_)
  have hf := bd_t ev10 hf
  refine lv_istore_n (lv' := [(1, .int v10), (0, .ref (aS 0))]) hx hb dX7_stores_10 rfl hl (by decide) rfl (fun ls hl => ?_)
  refine lv_aload_n hx hb dX7_stores_11 rfl (lv_at hl 1 rfl) ?_
  refine lv_iconst (v := 2) hx hb dX7_stores_12 (by decide) ?_
  refine lv_iload_n hx hb dX7_stores_13 rfl (lv_at hl 0 rfl) ?_
  refine lv_imul hx hb dX7_stores_14 ?_
  obtain ⟨y15, h15, hf⟩ := bn_t hf
  refine z_ai (x := []) (b := wX7 cI cZ cII aS S_thrown S_s S_aside S_saved S_savedMany S_text S_length S_fetched S_predicted S_fetchedMany S_fetchedWay S_spot S_isWrong S_executedByText ++ []) (y := ([] : va_W)) (b1 := wX7 cI cZ cII aS S_thrown S_s S_aside S_saved S_savedMany S_text S_length S_fetched S_predicted S_fetchedMany S_fetchedWay S_spot S_isWrong S_executedByText ++ []) (wsn := wX7 cI cZ cII aS S_thrown S_s S_aside S_saved S_savedMany S_text S_length S_fetched S_predicted S_fetchedMany S_fetchedWay S_spot S_isWrong S_executedByText ++ []) (va_runV (As := [.int ((2 : Int32) * v10)]) (rest := []) ⟨hx, hb, hml, hown, hts⟩ (c_X7_isPending l D cI cZ cII cJ cM aS S_thrown S_s S_aside S_saved S_savedMany S_text S_length S_fetched S_predicted S_fetchedMany S_fetchedWay S_spot S_isWrong S_executedByText ((2 : Int32) * v10) H.size y15 h15) (cwV 1 hts gX7_stores_X7_isPending rfl rfl rfl (by decide +kernel) ⟨Nat.le_of_ble_eq_true rfl, Nat.le_of_ble_eq_true rfl⟩) (pz_V (x := []) (b := wX7 cI cZ cII aS S_thrown S_s S_aside S_saved S_savedMany S_text S_length S_fetched S_predicted S_fetchedMany S_fetchedWay S_spot S_isWrong S_executedByText ++ []) (y := ([] : va_W)) (C := RX7) (T := TX7) (N := 14) (ci := 7) (As := [.int ((2 : Int32) * v10)]) (bi := 0) hK hN hP hD (by simp only [List.append_assoc, List.nil_append, List.append_nil]) rfl rfl) rfl rfl hl.1 rfl (lv_room (Nat.le_of_ble_eq_true rfl)) dX7_stores_15 ⟨Nat.le_of_ble_eq_true rfl, Nat.le_of_ble_eq_true rfl⟩) hP hD hS hA (by simp only [List.append_assoc, List.nil_append, List.append_nil]) (by simp only [List.append_assoc, List.nil_append, List.append_nil]) (fun H locs hP hD hS => ?_)
  refine lv_if_eq (tgt := 27) hx hb dX7_stores_18 (by decide) (fun c18 => ?_) (fun c18 => ?_)
  · have hf := if_t c18 hf
    refine lv_aload_n hx hb dX7_stores_27 rfl (lv_at hl 1 rfl) ?_
    refine lv_iconst (v := 2) hx hb dX7_stores_28 (by decide) ?_
    refine lv_iload_n hx hb dX7_stores_29 rfl (lv_at hl 0 rfl) ?_
    refine lv_imul hx hb dX7_stores_30 ?_
    refine lv_iconst (v := 1) hx hb dX7_stores_31 (by decide) ?_
    refine lv_iadd hx hb dX7_stores_32 ?_
    obtain ⟨y33, h33, hf⟩ := bn_t hf
    refine z_ai (x := []) (b := wX7 cI cZ cII aS S_thrown S_s S_aside S_saved S_savedMany S_text S_length S_fetched S_predicted S_fetchedMany S_fetchedWay S_spot S_isWrong S_executedByText ++ []) (y := ([] : va_W)) (b1 := wX7 cI cZ cII aS S_thrown S_s S_aside S_saved S_savedMany S_text S_length S_fetched S_predicted S_fetchedMany S_fetchedWay S_spot S_isWrong S_executedByText ++ []) (wsn := wX7 cI cZ cII aS S_thrown S_s S_aside S_saved S_savedMany S_text S_length S_fetched S_predicted S_fetchedMany S_fetchedWay S_spot S_isWrong S_executedByText ++ []) (va_runV (As := [.int (((2 : Int32) * v10) + (1 : Int32))]) (rest := []) ⟨hx, hb, hml, hown, hts⟩ (c_X7_isPending l D cI cZ cII cJ cM aS S_thrown S_s S_aside S_saved S_savedMany S_text S_length S_fetched S_predicted S_fetchedMany S_fetchedWay S_spot S_isWrong S_executedByText (((2 : Int32) * v10) + (1 : Int32)) H.size y33 h33) (cwV 1 hts gX7_stores_X7_isPending rfl rfl rfl (by decide +kernel) ⟨Nat.le_of_ble_eq_true rfl, Nat.le_of_ble_eq_true rfl⟩) (pz_V (x := []) (b := wX7 cI cZ cII aS S_thrown S_s S_aside S_saved S_savedMany S_text S_length S_fetched S_predicted S_fetchedMany S_fetchedWay S_spot S_isWrong S_executedByText ++ []) (y := ([] : va_W)) (C := RX7) (T := TX7) (N := 14) (ci := 7) (As := [.int (((2 : Int32) * v10) + (1 : Int32))]) (bi := 0) hK hN hP hD (by simp only [List.append_assoc, List.nil_append, List.append_nil]) rfl rfl) rfl rfl hl.1 rfl (lv_room (Nat.le_of_ble_eq_true rfl)) dX7_stores_33 ⟨Nat.le_of_ble_eq_true rfl, Nat.le_of_ble_eq_true rfl⟩) hP hD hS hA (by simp only [List.append_assoc, List.nil_append, List.append_nil]) (by simp only [List.append_assoc, List.nil_append, List.append_nil]) (fun H locs hP hD hS => ?_)
    refine lv_if_eq (tgt := 47) hx hb dX7_stores_36 (by decide) (fun c36 => ?_) (fun c36 => ?_)
    · have hf := if_t c36 hf
      refine lv_iconst (v := -1) hx hb dX7_stores_47 (by decide) ?_
      exact J48 S_s v10 (-1 : Int32) _ _ _ hf hP hD hS (lv_sub hl [1, 0] rfl)
    · have hf := if_f c36 hf
      refine lv_iconst (v := 2) hx hb dX7_stores_39 (by decide) ?_
      refine lv_iload_n hx hb dX7_stores_40 rfl (lv_at hl 0 rfl) ?_
      refine lv_imul hx hb dX7_stores_41 ?_
      refine lv_iconst (v := 1) hx hb dX7_stores_42 (by decide) ?_
      refine lv_iadd hx hb dX7_stores_43 ?_
      refine lv_goto (tgt := 48) hx hb dX7_stores_44 (by decide) ?_
      exact J48 S_s v10 (((2 : Int32) * v10) + (1 : Int32)) _ _ _ hf hP hD hS (lv_sub hl [1, 0] rfl)
  · have hf := if_f c18 hf
    refine lv_iconst (v := 2) hx hb dX7_stores_21 (by decide) ?_
    refine lv_iload_n hx hb dX7_stores_22 rfl (lv_at hl 0 rfl) ?_
    refine lv_imul hx hb dX7_stores_23 ?_
    refine lv_goto (tgt := 48) hx hb dX7_stores_24 (by decide) ?_
    exact J48 S_s v10 ((2 : Int32) * v10) _ _ _ hf hP hD hS (lv_sub hl [1, 0] rfl)
set_option maxHeartbeats 8000000 in
set_option maxRecDepth 100000 in
theorem c_X7_pendingBranches (l : Launch) (D : va_G) (cI cZ cII cJ cM : ClassId) (aS : Nat → Nat) (S_thrown : Int32) (S_s : Nat → Int32) (S_aside : Nat → Int32) (S_saved : Nat → Int32) (S_savedMany : Int32) (S_text : Nat → Int32) (S_length : Int32) (S_fetched : Nat → Int32) (S_predicted : Nat → Int32) (S_fetchedMany : Int32) (S_fetchedWay : Int32) (S_spot : Int32) (S_isWrong : Int32) (S_executedByText : Int32) (sz : Nat) (y : (Int32)) (hf : m_X7_pendingBranches S_s = some y) : Met l yX7_pendingBranches wsX7_pendingBranches ({ frames := 1, cells := 0, slots := 0, locals := 21 } : Room) (va_Pc [.ref (aS 0)] (pzPre D (zT cI cZ cII cJ cM) (wX7 cI cZ cII aS S_thrown S_s S_aside S_saved S_savedMany S_text S_length S_fetched S_predicted S_fetchedMany S_fetchedWay S_spot S_isWrong S_executedByText ++ []) sz)) (va_Qi (fun v (_ : Unit) => v = y) (fun _ t => pzB D (zT cI cZ cII cJ cM) (va_A (wX7 cI cZ cII aS S_thrown S_s S_aside S_saved S_savedMany S_text S_length S_fetched S_predicted S_fetchedMany S_fetchedWay S_spot S_isWrong S_executedByText ++ []) sz) (wX7 cI cZ cII aS S_thrown S_s S_aside S_saved S_savedMany S_text S_length S_fetched S_predicted S_fetchedMany S_fetchedWay S_spot S_isWrong S_executedByText ++ []) t) (va_A (wX7 cI cZ cII aS S_thrown S_s S_aside S_saved S_savedMany S_text S_length S_fetched S_predicted S_fetchedMany S_fetchedWay S_spot S_isWrong S_executedByText ++ []) sz)) 0 0 (va_A (wX7 cI cZ cII aS S_thrown S_s S_aside S_saved S_savedMany S_text S_length S_fetched S_predicted S_fetchedMany S_fetchedWay S_spot S_isWrong S_executedByText ++ []) sz) := by
  refine z_meti (cc := cX7_pendingBranches) (maxL := 3) (by decide) rfl (Nat.le_of_ble_eq_true rfl) ?_
  intro p e s m args below meth c A ls Q H locs F hP hD hS hl hret
  obtain ⟨hx, hb, hml, hown, hts, hN, hK, hA⟩ := F
  have hown : s.vm.findClass RX7 = some m.cls := hown
  have hl : lv_has ls 3 [(0, .ref (aS 0))] := hl
  have inX7 : ∀ w ∈ u_ws RX7 TX7 14, w ∈ wsX7_pendingBranches := by decide +kernel
  have kX7_7 := hts (.fieldLink RX7 7 "TraceCacheModel" "s" "[I") (by decide +kernel)
  have J4 : ∀ (n4 : Nat), ∀ (x1 : Int32) (x2 : Int32) (H : Heap) (locs : List Loc) (ls : Array Slot), m_X7_pendingBranches_4 S_s n4 x1 x2 = some y → va_P D vwCl (wX7 cI cZ cII aS S_thrown S_s S_aside S_saved S_savedMany S_text S_length S_fetched S_predicted S_fetchedMany S_fetchedWay S_spot S_isWrong S_executedByText ++ []) H → va_D A (wX7 cI cZ cII aS S_thrown S_s S_aside S_saved S_savedMany S_text S_length S_fetched S_predicted S_fetchedMany S_fetchedWay S_spot S_isWrong S_executedByText ++ []) → va_S A s.heap H locs → lv_has ls 3 [(0, .ref (aS 0)), (1, .int x1), (2, .int x2)] → W p l e ({ frames := 1, cells := 0, slots := 0, locals := 21 } : Room) s m args below meth c H locs 0 0 Q (F0 m 4 ls []) := by
    intro n4
    induction n4 with
    | zero =>
      intro x1 x2 H locs ls hf hP hD hS hl
      rw [m_X7_pendingBranches_4] at hf
      cases hf
    | succ n4 ih4 =>
      have J45 : ∀ (x2 : Int32) (k0 : Int32) (k1 : Int32) (H : Heap) (locs : List Loc) (ls : Array Slot), m_X7_pendingBranches_45 S_s (m_X7_pendingBranches_4 S_s n4) x2 k0 k1 = some y → va_P D vwCl (wX7 cI cZ cII aS S_thrown S_s S_aside S_saved S_savedMany S_text S_length S_fetched S_predicted S_fetchedMany S_fetchedWay S_spot S_isWrong S_executedByText ++ []) H → va_D A (wX7 cI cZ cII aS S_thrown S_s S_aside S_saved S_savedMany S_text S_length S_fetched S_predicted S_fetchedMany S_fetchedWay S_spot S_isWrong S_executedByText ++ []) → va_S A s.heap H locs → lv_has ls 3 [(0, .ref (aS 0)), (2, .int x2)] → W p l e ({ frames := 1, cells := 0, slots := 0, locals := 21 } : Room) s m args below meth c H locs 0 0 Q (F0 m 45 ls [.int k1, .int k0]) := by
        intro x2 k0 k1 H locs ls hf hP hD hS hl
        unfold m_X7_pendingBranches_45 at hf
        refine lv_iadd hx hb dX7_pendingBranches_45 ?_
        refine lv_topi (fun v46 ev46 => ?_)
        have hf := bd_t ev46 hf
        refine lv_istore_n (lv' := [(1, .int v46), (0, .ref (aS 0)), (2, .int x2)]) hx hb dX7_pendingBranches_46 rfl hl (by decide) rfl (fun ls hl => ?_)
        obtain ⟨v47, ev47⟩ : ∃ z : Int32, z = x2 + (1 : Int32) := ⟨_, rfl⟩
        have hf := bd_t ev47 hf
        refine lv_iinc (v := v47) (lv' := [(2, .int v47), (1, .int v46), (0, .ref (aS 0))]) hx hb dX7_pendingBranches_47 hl (k := 2) rfl (by rw [ev47]; rfl) (by decide) rfl (fun ls hl => ?_)
        refine lv_goto (tgt := 4) hx hb dX7_pendingBranches_50 (by decide) ?_
        exact ih4 v46 v47 _ _ _ hf hP hD hS (lv_sub hl [2, 1, 0] rfl)
      intro x1 x2 H locs ls hf hP hD hS hl
      rw [m_X7_pendingBranches_4] at hf
      refine lv_iload_n hx hb dX7_pendingBranches_4 rfl (lv_at hl 2 rfl) ?_
      refine lv_aload_n hx hb dX7_pendingBranches_5 rfl (lv_at hl 0 rfl) ?_
      refine va_get (D := D) (ci := 7) (v := .ref (aS 1)) (C := RX7) (T := TX7) (N := 14) hx hb hts inX7 hown hK hP 0 rfl rfl 1 (by decide) kX7_7 (fun _ h9 => h9) rfl dX7_pendingBranches_6 ?_
      refine lv_sipush (v := 369) hx hb dX7_pendingBranches_9 (by decide) ?_
      obtain ⟨g12, hf⟩ := gd_t hf
      refine va_iald hx hb hK hP 1 0 rfl rfl (inb_t g12) dX7_pendingBranches_12 ?_
      refine lv_icmp_ge (tgt := 53) hx hb dX7_pendingBranches_13 (by decide) (fun c13 => ?_) (fun c13 => ?_)
      · have hf := if_t c13 hf
        refine lv_iload_n hx hb dX7_pendingBranches_53 rfl (lv_at hl 1 rfl) ?_
        obtain rfl := Option.some.inj hf
        exact hret _ _ _ _ _ dX7_pendingBranches_54 rfl hP hD hS
      · have hf := if_f c13 hf
        refine lv_iload_n hx hb dX7_pendingBranches_16 rfl (lv_at hl 1 rfl) ?_
        refine lv_aload_n hx hb dX7_pendingBranches_17 rfl (lv_at hl 0 rfl) ?_
        refine va_get (D := D) (ci := 7) (v := .ref (aS 1)) (C := RX7) (T := TX7) (N := 14) hx hb hts inX7 hown hK hP 0 rfl rfl 1 (by decide) kX7_7 (fun _ h9 => h9) rfl dX7_pendingBranches_18 ?_
        refine lv_aload_n hx hb dX7_pendingBranches_21 rfl (lv_at hl 0 rfl) ?_
        refine va_get (D := D) (ci := 7) (v := .ref (aS 1)) (C := RX7) (T := TX7) (N := 14) hx hb hts inX7 hown hK hP 0 rfl rfl 1 (by decide) kX7_7 (fun _ h9 => h9) rfl dX7_pendingBranches_22 ?_
        refine lv_sipush (v := 370) hx hb dX7_pendingBranches_25 (by decide) ?_
        refine lv_iload_n hx hb dX7_pendingBranches_28 rfl (lv_at hl 2 rfl) ?_
        refine lv_iadd hx hb dX7_pendingBranches_29 ?_
        refine lv_topi (fun v30 ev30 => ?_)
        have hf := bd_t ev30 hf
        obtain ⟨g30, hf⟩ := gd_t hf
        refine va_iald hx hb hK hP 1 0 rfl rfl (inb_t g30) dX7_pendingBranches_30 ?_
        refine lv_iconst (v := 0) hx hb dX7_pendingBranches_31 (by decide) ?_
        obtain ⟨y32, h32, hf⟩ := bn_t hf
        refine z_ai (x := []) (b := ([] : va_W)) (y := wX7 cI cZ cII aS S_thrown S_s S_aside S_saved S_savedMany S_text S_length S_fetched S_predicted S_fetchedMany S_fetchedWay S_spot S_isWrong S_executedByText ++ []) (b1 := ([] : va_W)) (wsn := wX7 cI cZ cII aS S_thrown S_s S_aside S_saved S_savedMany S_text S_length S_fetched S_predicted S_fetchedMany S_fetchedWay S_spot S_isWrong S_executedByText ++ []) (va_runS (As := [.int (S_s (Int32.toNatClampNeg v30)), .int (0 : Int32)]) (rest := [.ref (aS 1), .int x1]) ⟨hx, hb, hml, hown, hts⟩ (c_X7_of l D cI cZ cII cJ cM (S_s (Int32.toNatClampNeg v30)) (0 : Int32) H.size y32 h32) (va_cwS 2 hts gX7_pendingBranches_X7_of rfl rfl rfl (by decide +kernel) ⟨Nat.le_of_ble_eq_true rfl, Nat.le_of_ble_eq_true rfl⟩) (pz_S (x := []) (b := ([] : va_W)) (y := wX7 cI cZ cII aS S_thrown S_s S_aside S_saved S_savedMany S_text S_length S_fetched S_predicted S_fetchedMany S_fetchedWay S_spot S_isWrong S_executedByText ++ []) hK hN hP hD (by simp only [List.append_assoc, List.nil_append, List.append_nil])) rfl rfl hl.1 rfl (lv_room (Nat.le_of_ble_eq_true rfl)) dX7_pendingBranches_32 ⟨Nat.le_of_ble_eq_true rfl, Nat.le_of_ble_eq_true rfl⟩) hP hD hS hA (by simp only [List.append_assoc, List.nil_append, List.append_nil]) (by simp only [List.append_assoc, List.nil_append, List.append_nil]) (fun H locs hP hD hS => ?_)
        obtain ⟨g35, hf⟩ := gd_t hf
        refine va_iald hx hb hK hP 1 0 rfl rfl (inb_t g35) dX7_pendingBranches_35 ?_
        refine lv_iconst (v := 2) hx hb dX7_pendingBranches_36 (by decide) ?_
        refine lv_icmp_ne (tgt := 44) hx hb dX7_pendingBranches_37 (by decide) (fun c37 => ?_) (fun c37 => ?_)
        · have hf := if_f c37 hf
          refine lv_iconst (v := 0) hx hb dX7_pendingBranches_44 (by decide) ?_
          exact J45 x2 x1 (0 : Int32) _ _ _ hf hP hD hS (lv_sub hl [0, 2] rfl)
        · have hf := if_t c37 hf
          refine lv_iconst (v := 1) hx hb dX7_pendingBranches_40 (by decide) ?_
          refine lv_goto (tgt := 45) hx hb dX7_pendingBranches_41 (by decide) ?_
          exact J45 x2 x1 (1 : Int32) _ _ _ hf hP hD hS (lv_sub hl [0, 2] rfl)
  unfold m_X7_pendingBranches at hf
  refine lv_iconst (v := 0) hx hb dX7_pendingBranches_0 (by decide) ?_
  refine lv_istore_n (lv' := [(1, .int (0 : Int32)), (0, .ref (aS 0))]) hx hb dX7_pendingBranches_1 rfl hl (by decide) rfl (fun ls hl => ?_)
  refine lv_iconst (v := 0) hx hb dX7_pendingBranches_2 (by decide) ?_
  refine lv_istore_n (lv' := [(2, .int (0 : Int32)), (1, .int (0 : Int32)), (0, .ref (aS 0))]) hx hb dX7_pendingBranches_3 rfl hl (by decide) rfl (fun ls hl => ?_)
  exact J4 4000 (0 : Int32) (0 : Int32) _ _ _ hf hP hD hS (lv_sub hl [2, 1, 0] rfl)
set_option maxHeartbeats 8000000 in
set_option maxRecDepth 100000 in
theorem c_X7_adds (l : Launch) (D : va_G) (cI cZ cII cJ cM : ClassId) (aS : Nat → Nat) (S_thrown : Int32) (S_s : Nat → Int32) (S_aside : Nat → Int32) (S_saved : Nat → Int32) (S_savedMany : Int32) (S_text : Nat → Int32) (S_length : Int32) (S_fetched : Nat → Int32) (S_predicted : Nat → Int32) (S_fetchedMany : Int32) (S_fetchedWay : Int32) (S_spot : Int32) (S_isWrong : Int32) (S_executedByText : Int32) (x1 : Int32) (sz : Nat) (y : (Nat → Int32)) (hf : m_X7_adds S_s x1 = some y) : Met l yX7_adds wsX7_adds ({ frames := 3, cells := 0, slots := 0, locals := 67 } : Room) (va_Pc [.ref (aS 0), .int x1] (pzPre D (zT cI cZ cII cJ cM) (wX7 cI cZ cII aS S_thrown S_s S_aside S_saved S_savedMany S_text S_length S_fetched S_predicted S_fetchedMany S_fetchedWay S_spot S_isWrong S_executedByText ++ []) sz)) (va_Qv (fun (_ : Unit) => True) (fun _ t => pzB D (zT cI cZ cII cJ cM) (va_A (wX7 cI cZ cII aS S_thrown S_s S_aside S_saved S_savedMany S_text S_length S_fetched S_predicted S_fetchedMany S_fetchedWay S_spot S_isWrong S_executedByText ++ []) sz) (wX7 cI cZ cII aS S_thrown y S_aside S_saved S_savedMany S_text S_length S_fetched S_predicted S_fetchedMany S_fetchedWay S_spot S_isWrong S_executedByText ++ []) t) (va_A (wX7 cI cZ cII aS S_thrown S_s S_aside S_saved S_savedMany S_text S_length S_fetched S_predicted S_fetchedMany S_fetchedWay S_spot S_isWrong S_executedByText ++ []) sz)) 0 0 (va_A (wX7 cI cZ cII aS S_thrown S_s S_aside S_saved S_savedMany S_text S_length S_fetched S_predicted S_fetchedMany S_fetchedWay S_spot S_isWrong S_executedByText ++ []) sz) := by
  refine z_metv (cc := cX7_adds) (maxL := 2) (by decide) rfl (Nat.le_of_ble_eq_true rfl) ?_
  intro p e s m args below meth c A ls Q H locs F hP hD hS hl hret
  obtain ⟨hx, hb, hml, hown, hts, hN, hK, hA⟩ := F
  have hown : s.vm.findClass RX7 = some m.cls := hown
  have hl : lv_has ls 2 [(0, .ref (aS 0)), (1, .int x1)] := hl
  have inX7 : ∀ w ∈ u_ws RX7 TX7 14, w ∈ wsX7_adds := by decide +kernel
  have kX7_7 := hts (.fieldLink RX7 7 "TraceCacheModel" "s" "[I") (by decide +kernel)
  have J51 : ∀ (S_s : Nat → Int32) (H : Heap) (locs : List Loc) (ls : Array Slot), m_X7_adds_51 x1 S_s = some y → va_P D vwCl (wX7 cI cZ cII aS S_thrown S_s S_aside S_saved S_savedMany S_text S_length S_fetched S_predicted S_fetchedMany S_fetchedWay S_spot S_isWrong S_executedByText ++ []) H → va_D A (wX7 cI cZ cII aS S_thrown S_s S_aside S_saved S_savedMany S_text S_length S_fetched S_predicted S_fetchedMany S_fetchedWay S_spot S_isWrong S_executedByText ++ []) → va_S A s.heap H locs → lv_has ls 2 [(0, .ref (aS 0))] → W p l e ({ frames := 3, cells := 0, slots := 0, locals := 67 } : Room) s m args below meth c H locs 0 0 Q (F0 m 51 ls []) := by
    intro S_s H locs ls hf hP hD hS hl
    unfold m_X7_adds_51 at hf
    refine lv_aload_n hx hb dX7_adds_51 rfl (lv_at hl 0 rfl) ?_
    obtain ⟨y52, h52, hf⟩ := bn_t hf
    refine z_av (x := []) (b := wX7 cI cZ cII aS S_thrown S_s S_aside S_saved S_savedMany S_text S_length S_fetched S_predicted S_fetchedMany S_fetchedWay S_spot S_isWrong S_executedByText ++ []) (y := ([] : va_W)) (b1 := wX7 cI cZ cII aS S_thrown y52 S_aside S_saved S_savedMany S_text S_length S_fetched S_predicted S_fetchedMany S_fetchedWay S_spot S_isWrong S_executedByText ++ []) (wsn := wX7 cI cZ cII aS S_thrown y52 S_aside S_saved S_savedMany S_text S_length S_fetched S_predicted S_fetchedMany S_fetchedWay S_spot S_isWrong S_executedByText ++ []) (va_runV (As := []) (rest := []) ⟨hx, hb, hml, hown, hts⟩ (c_X7_stores l D cI cZ cII cJ cM aS S_thrown S_s S_aside S_saved S_savedMany S_text S_length S_fetched S_predicted S_fetchedMany S_fetchedWay S_spot S_isWrong S_executedByText H.size y52 h52) (cwV 0 hts gX7_adds_X7_stores rfl rfl rfl (by decide +kernel) ⟨Nat.le_of_ble_eq_true rfl, Nat.le_of_ble_eq_true rfl⟩) (pz_V (x := []) (b := wX7 cI cZ cII aS S_thrown S_s S_aside S_saved S_savedMany S_text S_length S_fetched S_predicted S_fetchedMany S_fetchedWay S_spot S_isWrong S_executedByText ++ []) (y := ([] : va_W)) (C := RX7) (T := TX7) (N := 14) (ci := 7) (As := []) (bi := 0) hK hN hP hD (by simp only [List.append_assoc, List.nil_append, List.append_nil]) rfl rfl) rfl rfl hl.1 rfl (lv_room (Nat.le_of_ble_eq_true rfl)) dX7_adds_52 ⟨Nat.le_of_ble_eq_true rfl, Nat.le_of_ble_eq_true rfl⟩) hP hD hS hA (by simp only [List.append_assoc, List.nil_append, List.append_nil]) (by simp only [List.append_assoc, List.nil_append, List.append_nil]) (fun H locs hP hD hS => ?_)
    obtain rfl := Option.some.inj hf
    exact hret _ _ _ _ dX7_adds_55 hP hD hS
  unfold m_X7_adds at hf
  refine lv_aload_n hx hb dX7_adds_0 rfl (lv_at hl 0 rfl) ?_
  refine va_get (D := D) (ci := 7) (v := .ref (aS 1)) (C := RX7) (T := TX7) (N := 14) hx hb hts inX7 hown hK hP 0 rfl rfl 1 (by decide) kX7_7 (fun _ h9 => h9) rfl dX7_adds_1 ?_
  refine lv_sipush (v := 370) hx hb dX7_adds_4 (by decide) ?_
  refine lv_aload_n hx hb dX7_adds_7 rfl (lv_at hl 0 rfl) ?_
  refine va_get (D := D) (ci := 7) (v := .ref (aS 1)) (C := RX7) (T := TX7) (N := 14) hx hb hts inX7 hown hK hP 0 rfl rfl 1 (by decide) kX7_7 (fun _ h9 => h9) rfl dX7_adds_8 ?_
  refine lv_sipush (v := 369) hx hb dX7_adds_11 (by decide) ?_
  obtain ⟨g14, hf⟩ := gd_t hf
  refine va_iald hx hb hK hP 1 0 rfl rfl (inb_t g14) dX7_adds_14 ?_
  refine lv_iadd hx hb dX7_adds_15 ?_
  refine lv_iload_n hx hb dX7_adds_16 rfl (lv_at hl 1 rfl) ?_
  obtain ⟨g17, hf⟩ := gd_t hf
  refine va_iast hx hb hK hP hD hS 1 0 rfl rfl (inb_t g17) dX7_adds_17 (fun H locs hP hD hS => ?_)
  obtain ⟨S_s_17, eS_s_17⟩ : ∃ z : Nat → Int32, z = upd S_s (Int32.toNatClampNeg ((370 : Int32) + (S_s (Int32.toNatClampNeg (369 : Int32))))) x1 := ⟨_, rfl⟩
  have hf := bd_t eS_s_17 hf
  have hP : va_P D vwCl (wX7 cI cZ cII aS S_thrown S_s_17 S_aside S_saved S_savedMany S_text S_length S_fetched S_predicted S_fetchedMany S_fetchedWay S_spot S_isWrong S_executedByText ++ []) H := by rw [eS_s_17]; exact hP
  have hD : va_D A (wX7 cI cZ cII aS S_thrown S_s_17 S_aside S_saved S_savedMany S_text S_length S_fetched S_predicted S_fetchedMany S_fetchedWay S_spot S_isWrong S_executedByText ++ []) := by rw [eS_s_17]; exact hD
  refine lv_aload_n hx hb dX7_adds_18 rfl (lv_at hl 0 rfl) ?_
  refine va_get (D := D) (ci := 7) (v := .ref (aS 1)) (C := RX7) (T := TX7) (N := 14) hx hb hts inX7 hown hK hP 0 rfl rfl 1 (by decide) kX7_7 (fun _ h9 => h9) rfl dX7_adds_19 ?_
  refine lv_sipush (v := 369) hx hb dX7_adds_22 (by decide) ?_
  refine lv_dup2_11 hx hb dX7_adds_25 rfl rfl ?_
  obtain ⟨g26, hf⟩ := gd_t hf
  refine va_iald hx hb hK hP 1 0 rfl rfl (inb_t g26) dX7_adds_26 ?_
  refine lv_iconst (v := 1) hx hb dX7_adds_27 (by decide) ?_
  refine lv_iadd hx hb dX7_adds_28 ?_
  obtain ⟨g29, hf⟩ := gd_t hf
  refine va_iast hx hb hK hP hD hS 1 0 rfl rfl (inb_t g29) dX7_adds_29 (fun H locs hP hD hS => ?_)
  obtain ⟨S_s_29, eS_s_29⟩ : ∃ z : Nat → Int32, z = upd S_s_17 (Int32.toNatClampNeg (369 : Int32)) ((S_s_17 (Int32.toNatClampNeg (369 : Int32))) + (1 : Int32)) := ⟨_, rfl⟩
  have hf := bd_t eS_s_29 hf
  have hP : va_P D vwCl (wX7 cI cZ cII aS S_thrown S_s_29 S_aside S_saved S_savedMany S_text S_length S_fetched S_predicted S_fetchedMany S_fetchedWay S_spot S_isWrong S_executedByText ++ []) H := by rw [eS_s_29]; exact hP
  have hD : va_D A (wX7 cI cZ cII aS S_thrown S_s_29 S_aside S_saved S_savedMany S_text S_length S_fetched S_predicted S_fetchedMany S_fetchedWay S_spot S_isWrong S_executedByText ++ []) := by rw [eS_s_29]; exact hD
  refine lv_aload_n hx hb dX7_adds_30 rfl (lv_at hl 0 rfl) ?_
  refine va_get (D := D) (ci := 7) (v := .ref (aS 1)) (C := RX7) (T := TX7) (N := 14) hx hb hts inX7 hown hK hP 0 rfl rfl 1 (by decide) kX7_7 (fun _ h9 => h9) rfl dX7_adds_31 ?_
  refine lv_sipush (v := 369) hx hb dX7_adds_34 (by decide) ?_
  obtain ⟨g37, hf⟩ := gd_t hf
  refine va_iald hx hb hK hP 1 0 rfl rfl (inb_t g37) dX7_adds_37 ?_
  refine lv_bipush (v := 8) hx hb dX7_adds_38 (by decide) ?_
  refine lv_icmp_eq (tgt := 51) hx hb dX7_adds_40 (by decide) (fun c40 => ?_) (fun c40 => ?_)
  · have hf := if_t c40 hf
    exact J51 S_s_29 _ _ _ hf hP hD hS (lv_sub hl [0] rfl)
  · have hf := if_f c40 hf
    refine lv_aload_n hx hb dX7_adds_43 rfl (lv_at hl 0 rfl) ?_
    obtain ⟨y44, h44, hf⟩ := bn_t hf
    refine z_ai (x := []) (b := wX7 cI cZ cII aS S_thrown S_s_29 S_aside S_saved S_savedMany S_text S_length S_fetched S_predicted S_fetchedMany S_fetchedWay S_spot S_isWrong S_executedByText ++ []) (y := ([] : va_W)) (b1 := wX7 cI cZ cII aS S_thrown S_s_29 S_aside S_saved S_savedMany S_text S_length S_fetched S_predicted S_fetchedMany S_fetchedWay S_spot S_isWrong S_executedByText ++ []) (wsn := wX7 cI cZ cII aS S_thrown S_s_29 S_aside S_saved S_savedMany S_text S_length S_fetched S_predicted S_fetchedMany S_fetchedWay S_spot S_isWrong S_executedByText ++ []) (va_runV (As := []) (rest := []) ⟨hx, hb, hml, hown, hts⟩ (c_X7_pendingBranches l D cI cZ cII cJ cM aS S_thrown S_s_29 S_aside S_saved S_savedMany S_text S_length S_fetched S_predicted S_fetchedMany S_fetchedWay S_spot S_isWrong S_executedByText H.size y44 h44) (cwV 0 hts gX7_adds_X7_pendingBranches rfl rfl rfl (by decide +kernel) ⟨Nat.le_of_ble_eq_true rfl, Nat.le_of_ble_eq_true rfl⟩) (pz_V (x := []) (b := wX7 cI cZ cII aS S_thrown S_s_29 S_aside S_saved S_savedMany S_text S_length S_fetched S_predicted S_fetchedMany S_fetchedWay S_spot S_isWrong S_executedByText ++ []) (y := ([] : va_W)) (C := RX7) (T := TX7) (N := 14) (ci := 7) (As := []) (bi := 0) hK hN hP hD (by simp only [List.append_assoc, List.nil_append, List.append_nil]) rfl rfl) rfl rfl hl.1 rfl (lv_room (Nat.le_of_ble_eq_true rfl)) dX7_adds_44 ⟨Nat.le_of_ble_eq_true rfl, Nat.le_of_ble_eq_true rfl⟩) hP hD hS hA (by simp only [List.append_assoc, List.nil_append, List.append_nil]) (by simp only [List.append_assoc, List.nil_append, List.append_nil]) (fun H locs hP hD hS => ?_)
    refine lv_iconst (v := 3) hx hb dX7_adds_47 (by decide) ?_
    refine lv_icmp_ne (tgt := 55) hx hb dX7_adds_48 (by decide) (fun c48 => ?_) (fun c48 => ?_)
    · have hf := if_f c48 hf
      obtain rfl := Option.some.inj hf
      exact hret _ _ _ _ dX7_adds_55 hP hD hS
    · have hf := if_t c48 hf
      exact J51 S_s_29 _ _ _ hf hP hD hS (lv_sub hl [0] rfl)
