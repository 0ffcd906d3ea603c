set_option maxHeartbeats 8000000 in
set_option maxRecDepth 100000 in
theorem c_X7_thrown (l : Launch) (D : va_G) (cI cZ cII cJ cM : ClassId) (aS : Nat → Nat) (S_thrown : Int32) (S_s : Nat → Int32) (S_aside : Nat → Int32) (S_saved : Nat → Int32) (S_savedMany : Int32) (S_text : Nat → Int32) (S_length : Int32) (S_fetched : Nat → Int32) (S_predicted : Nat → Int32) (S_fetchedMany : Int32) (S_fetchedWay : Int32) (S_spot : Int32) (S_isWrong : Int32) (S_executedByText : Int32) (sz : Nat) (y : (Int32)) (hf : m_X7_thrown S_thrown = some y) : Met l yX7_thrown wsX7_thrown ({ frames := 0, cells := 0, slots := 0, locals := 0 } : Room) (va_Pc [.ref (aS 0)] (pzPre D (zT cI cZ cII cJ cM) (wX7 cI cZ cII aS S_thrown S_s S_aside S_saved S_savedMany S_text S_length S_fetched S_predicted S_fetchedMany S_fetchedWay S_spot S_isWrong S_executedByText ++ []) sz)) (va_Qi (fun v (_ : Unit) => v = y) (fun _ t => pzB D (zT cI cZ cII cJ cM) (va_A (wX7 cI cZ cII aS S_thrown S_s S_aside S_saved S_savedMany S_text S_length S_fetched S_predicted S_fetchedMany S_fetchedWay S_spot S_isWrong S_executedByText ++ []) sz) (wX7 cI cZ cII aS S_thrown S_s S_aside S_saved S_savedMany S_text S_length S_fetched S_predicted S_fetchedMany S_fetchedWay S_spot S_isWrong S_executedByText ++ []) t) (va_A (wX7 cI cZ cII aS S_thrown S_s S_aside S_saved S_savedMany S_text S_length S_fetched S_predicted S_fetchedMany S_fetchedWay S_spot S_isWrong S_executedByText ++ []) sz)) 0 0 (va_A (wX7 cI cZ cII aS S_thrown S_s S_aside S_saved S_savedMany S_text S_length S_fetched S_predicted S_fetchedMany S_fetchedWay S_spot S_isWrong S_executedByText ++ []) sz) := by
  refine z_meti (cc := cX7_thrown) (maxL := 1) (by decide) rfl (Nat.le_of_ble_eq_true rfl) ?_
  intro p e s m args below meth c A ls Q H locs F hP hD hS hl hret
  obtain ⟨hx, hb, hml, hown, hts, hN, hK, hA⟩ := F
  have hown : s.vm.findClass RX7 = some m.cls := hown
  have hl : lv_has ls 1 [(0, .ref (aS 0))] := hl
  have inX7 : ∀ w ∈ u_ws RX7 TX7 14, w ∈ wsX7_thrown := by decide +kernel
  have kX7_32 := hts (.fieldLink RX7 32 "TraceCacheModel" "thrown" "I") (by decide +kernel)
  unfold m_X7_thrown at hf
  refine lv_aload_n hx hb dX7_thrown_0 rfl (lv_at hl 0 rfl) ?_
  refine va_get (D := D) (ci := 7) (v := .int S_thrown) (C := RX7) (T := TX7) (N := 14) hx hb hts inX7 hown hK hP 0 rfl rfl 0 (by decide) kX7_32 (fun _ h9 => h9) rfl dX7_thrown_1 ?_
  obtain rfl := Option.some.inj hf
  exact hret _ _ _ _ _ dX7_thrown_4 rfl hP hD hS
set_option maxHeartbeats 8000000 in
set_option maxRecDepth 100000 in
theorem c_X7_in (l : Launch) (D : va_G) (cI cZ cII cJ cM : ClassId) (x0 : Int32) (x1 : Int32) (x2 : Int32) (sz : Nat) (y : (Int32)) (hf : m_X7_in x0 x1 x2 = some y) : Met l yX7_in wsX7_in ({ frames := 0, cells := 0, slots := 0, locals := 0 } : Room) (va_Pc [.int x0, .int x1, .int x2] (pzPre D (zT cI cZ cII cJ cM) (([] : va_W)) sz)) (va_Qi (fun v (_ : Unit) => v = y) (fun _ t => pzB D (zT cI cZ cII cJ cM) (va_A (([] : va_W)) sz) (([] : va_W)) t) (va_A (([] : va_W)) sz)) 0 0 (va_A (([] : va_W)) sz) := by
  refine z_metz (cc := cX7_in) (maxL := 3) (by decide) rfl (Nat.le_of_ble_eq_true rfl) ?_
  intro p e s m args below meth c A ls Q H locs F hP hD hS hl hret
  obtain ⟨hx, hb, hml, hown, hts, hN, hK, hA⟩ := F
  have hown : s.vm.findClass RX7 = some m.cls := hown
  have hl : lv_has ls 3 [(0, .int x0), (1, .int x1), (2, .int x2)] := hl
  have J15 : ∀ (k0 : Int32) (H : Heap) (locs : List Loc) (ls : Array Slot), m_X7_in_15 x0 x1 x2 k0 = some y → va_P D vwCl (([] : va_W)) H → va_D A (([] : va_W)) → va_S A s.heap H locs → lv_has ls 3 [] → W p l e ({ frames := 0, cells := 0, slots := 0, locals := 0 } : Room) s m args below meth c H locs 0 0 Q (F0 m 15 ls [.int k0]) := by
    intro k0 H locs ls hf hP hD hS hl
    unfold m_X7_in_15 at hf
    obtain ⟨g15, hf⟩ := gd_t hf
    obtain rfl := Option.some.inj hf
    exact hret _ _ _ _ _ dX7_in_15 g15 rfl hP hD hS
  have J14 : ∀ (H : Heap) (locs : List Loc) (ls : Array Slot), m_X7_in_14 x0 x1 x2 = some y → va_P D vwCl (([] : va_W)) H → va_D A (([] : va_W)) → va_S A s.heap H locs → lv_has ls 3 [] → W p l e ({ frames := 0, cells := 0, slots := 0, locals := 0 } : Room) s m args below meth c H locs 0 0 Q (F0 m 14 ls []) := by
    intro  H locs ls hf hP hD hS hl
    unfold m_X7_in_14 at hf
    refine lv_iconst (v := 0) hx hb dX7_in_14 (by decide) ?_
    exact J15 (0 : Int32) _ _ _ hf hP hD hS (lv_sub hl [] rfl)
  unfold m_X7_in at hf
  refine lv_iload_n hx hb dX7_in_0 rfl (lv_at hl 0 rfl) ?_
  refine lv_iload_n hx hb dX7_in_1 rfl (lv_at hl 1 rfl) ?_
  refine lv_icmp_lt (tgt := 14) hx hb dX7_in_2 (by decide) (fun c2 => ?_) (fun c2 => ?_)
  · have hf := if_t c2 hf
    exact J14  _ _ _ hf hP hD hS (lv_sub hl [] rfl)
  · have hf := if_f c2 hf
    refine lv_iload_n hx hb dX7_in_5 rfl (lv_at hl 0 rfl) ?_
    refine lv_iload_n hx hb dX7_in_6 rfl (lv_at hl 2 rfl) ?_
    refine lv_icmp_gt (tgt := 14) hx hb dX7_in_7 (by decide) (fun c7 => ?_) (fun c7 => ?_)
    · have hf := if_t c7 hf
      exact J14  _ _ _ hf hP hD hS (lv_sub hl [] rfl)
    · have hf := if_f c7 hf
      refine lv_iconst (v := 1) hx hb dX7_in_10 (by decide) ?_
      refine lv_goto (tgt := 15) hx hb dX7_in_11 (by decide) ?_
      exact J15 (1 : Int32) _ _ _ hf hP hD hS (lv_sub hl [] rfl)
set_option maxHeartbeats 8000000 in
set_option maxRecDepth 100000 in
theorem c_X7_holds (l : Launch) (D : va_G) (cI cZ cII cJ cM : ClassId) (aS : Nat → Nat) (S_thrown : Int32) (S_s : Nat → Int32) (S_aside : Nat → Int32) (S_saved : Nat → Int32) (S_savedMany : Int32) (S_text : Nat → Int32) (S_length : Int32) (S_fetched : Nat → Int32) (S_predicted : Nat → Int32) (S_fetchedMany : Int32) (S_fetchedWay : Int32) (S_spot : Int32) (S_isWrong : Int32) (S_executedByText : Int32) (x1 : Int32) (sz : Nat) (y : (Int32) × (Int32)) (hf : m_X7_holds S_thrown x1 = some y) : Met l yX7_holds wsX7_holds ({ frames := 0, cells := 0, slots := 0, locals := 0 } : Room) (va_Pc [.ref (aS 0), .int x1] (pzPre D (zT cI cZ cII cJ cM) (wX7 cI cZ cII aS S_thrown S_s S_aside S_saved S_savedMany S_text S_length S_fetched S_predicted S_fetchedMany S_fetchedWay S_spot S_isWrong S_executedByText ++ []) sz)) (va_Qi (fun v (_ : Unit) => v = y.1) (fun _ t => pzB D (zT cI cZ cII cJ cM) (va_A (wX7 cI cZ cII aS S_thrown S_s S_aside S_saved S_savedMany S_text S_length S_fetched S_predicted S_fetchedMany S_fetchedWay S_spot S_isWrong S_executedByText ++ []) sz) (wX7 cI cZ cII aS y.2 S_s S_aside S_saved S_savedMany S_text S_length S_fetched S_predicted S_fetchedMany S_fetchedWay S_spot S_isWrong S_executedByText ++ []) t) (va_A (wX7 cI cZ cII aS S_thrown S_s S_aside S_saved S_savedMany S_text S_length S_fetched S_predicted S_fetchedMany S_fetchedWay S_spot S_isWrong S_executedByText ++ []) sz)) 0 0 (va_A (wX7 cI cZ cII aS S_thrown S_s S_aside S_saved S_savedMany S_text S_length S_fetched S_predicted S_fetchedMany S_fetchedWay S_spot S_isWrong S_executedByText ++ []) sz) := by
  refine z_metz (cc := cX7_holds) (maxL := 2) (by decide) rfl (Nat.le_of_ble_eq_true rfl) ?_
  intro p e s m args below meth c A ls Q H locs F hP hD hS hl hret
  obtain ⟨hx, hb, hml, hown, hts, hN, hK, hA⟩ := F
  have hown : s.vm.findClass RX7 = some m.cls := hown
  have hl : lv_has ls 2 [(0, .ref (aS 0)), (1, .int x1)] := hl
  have inX7 : ∀ w ∈ u_ws RX7 TX7 14, w ∈ wsX7_holds := by decide +kernel
  have kX7_32 := hts (.fieldLink RX7 32 "TraceCacheModel" "thrown" "I") (by decide +kernel)
  have J14 : ∀ (S_thrown : Int32) (k0 : Int32) (H : Heap) (locs : List Loc) (ls : Array Slot), m_X7_holds_14 x1 S_thrown k0 = some y → va_P D vwCl (wX7 cI cZ cII aS S_thrown S_s S_aside S_saved S_savedMany S_text S_length S_fetched S_predicted S_fetchedMany S_fetchedWay S_spot S_isWrong S_executedByText ++ []) H → va_D A (wX7 cI cZ cII aS S_thrown S_s S_aside S_saved S_savedMany S_text S_length S_fetched S_predicted S_fetchedMany S_fetchedWay S_spot S_isWrong S_executedByText ++ []) → va_S A s.heap H locs → lv_has ls 2 [] → W p l e ({ frames := 0, cells := 0, slots := 0, locals := 0 } : Room) s m args below meth c H locs 0 0 Q (F0 m 14 ls [.int k0]) := by
    intro S_thrown k0 H locs ls hf hP hD hS hl
    unfold m_X7_holds_14 at hf
    obtain ⟨g14, hf⟩ := gd_t hf
    obtain rfl := Option.some.inj hf
    exact hret _ _ _ _ _ dX7_holds_14 g14 rfl hP hD hS
  unfold m_X7_holds at hf
  refine lv_aload_n hx hb dX7_holds_0 rfl (lv_at hl 0 rfl) ?_
  refine lv_iload_n hx hb dX7_holds_1 rfl (lv_at hl 1 rfl) ?_
  refine va_put (D := D) (ci := 7) (v := .int x1) (ty := .int) (C := RX7) (T := TX7) (N := 14) hx hb hts inX7 tyX7 tyX7_ok nmX7 hown hK hP hD hS 0 rfl rfl 0 (by decide) kX7_32 (fun _ h9 => h9) rfl (by decide +kernel) rfl rfl (Nat.le_of_ble_eq_true rfl) dX7_holds_2 (fun H locs hP hD hS => ?_)
  have hP : va_P D vwCl (wX7 cI cZ cII aS x1 S_s S_aside S_saved S_savedMany S_text S_length S_fetched S_predicted S_fetchedMany S_fetchedWay S_spot S_isWrong S_executedByText ++ []) H := hP
  have hD : va_D A (wX7 cI cZ cII aS x1 S_s S_aside S_saved S_savedMany S_text S_length S_fetched S_predicted S_fetchedMany S_fetchedWay S_spot S_isWrong S_executedByText ++ []) := hD
  refine lv_iload_n hx hb dX7_holds_5 rfl (lv_at hl 1 rfl) ?_
  refine lv_if_ne (tgt := 13) hx hb dX7_holds_6 (by decide) (fun c6 => ?_) (fun c6 => ?_)
  · have hf := if_f c6 hf
    refine lv_iconst (v := 0) hx hb dX7_holds_13 (by decide) ?_
    exact J14 x1 (0 : Int32) _ _ _ hf hP hD hS (lv_sub hl [] rfl)
  · have hf := if_t c6 hf
    refine lv_iconst (v := 1) hx hb dX7_holds_9 (by decide) ?_
    refine lv_goto (tgt := 14) hx hb dX7_holds_10 (by decide) ?_
    exact J14 x1 (1 : Int32) _ _ _ hf hP hD hS (lv_sub hl [] rfl)
set_option maxHeartbeats 8000000 in
set_option maxRecDepth 100000 in
theorem c_X7_isAddress (l : Launch) (D : va_G) (cI cZ cII cJ cM : ClassId) (x0 : Int32) (sz : Nat) (y : (Int32)) (hf : m_X7_isAddress x0 = some y) : Met l yX7_isAddress wsX7_isAddress ({ frames := 1, cells := 0, slots := 0, locals := 22 } : Room) (va_Pc [.int x0] (pzPre D (zT cI cZ cII cJ cM) (([] : va_W)) sz)) (va_Qi (fun v (_ : Unit) => v = y) (fun _ t => pzB D (zT cI cZ cII cJ cM) (va_A (([] : va_W)) sz) (([] : va_W)) t) (va_A (([] : va_W)) sz)) 0 0 (va_A (([] : va_W)) sz) := by
  refine z_metz (cc := cX7_isAddress) (maxL := 1) (by decide) rfl (Nat.le_of_ble_eq_true rfl) ?_
  intro p e s m args below meth c A ls Q H locs F hP hD hS hl hret
  obtain ⟨hx, hb, hml, hown, hts, hN, hK, hA⟩ := F
  have hown : s.vm.findClass RX7 = some m.cls := hown
  have hl : lv_has ls 1 [(0, .int x0)] := hl
  unfold m_X7_isAddress at hf
  refine lv_iload_n hx hb dX7_isAddress_0 rfl (lv_at hl 0 rfl) ?_
  refine lv_iconst (v := 0) hx hb dX7_isAddress_1 (by decide) ?_
  refine lv_bipush (v := 47) hx hb dX7_isAddress_2 (by decide) ?_
  obtain ⟨y4, h4, hf⟩ := bn_t hf
  refine z_ai (x := []) (b := ([] : va_W)) (y := ([] : va_W)) (b1 := ([] : va_W)) (wsn := ([] : va_W)) (va_runS (As := [.int x0, .int (0 : Int32), .int (47 : Int32)]) (rest := []) ⟨hx, hb, hml, hown, hts⟩ (c_X7_in l D cI cZ cII cJ cM x0 (0 : Int32) (47 : Int32) H.size y4 h4) (va_cwS 3 hts gX7_isAddress_X7_in rfl rfl rfl (by decide +kernel) ⟨Nat.le_of_ble_eq_true rfl, Nat.le_of_ble_eq_true rfl⟩) (pz_S (x := []) (b := ([] : va_W)) (y := ([] : va_W)) hK hN hP hD (by simp only [List.append_assoc, List.nil_append, List.append_nil])) rfl rfl hl.1 rfl (lv_room (Nat.le_of_ble_eq_true rfl)) dX7_isAddress_4 ⟨Nat.le_of_ble_eq_true rfl, Nat.le_of_ble_eq_true rfl⟩) hP hD hS hA (by simp only [List.append_assoc, List.nil_append, List.append_nil]) (by simp only [List.append_assoc, List.nil_append, List.append_nil]) (fun H locs hP hD hS => ?_)
  obtain ⟨g7, hf⟩ := gd_t hf
  obtain rfl := Option.some.inj hf
  exact hret _ _ _ _ _ dX7_isAddress_7 g7 rfl hP hD hS
set_option maxHeartbeats 8000000 in
set_option maxRecDepth 100000 in
theorem c_X7_of (l : Launch) (D : va_G) (cI cZ cII cJ cM : ClassId) (x0 : Int32) (x1 : Int32) (sz : Nat) (y : (Int32)) (hf : m_X7_of x0 x1 = some y) : Met l yX7_of wsX7_of ({ frames := 0, cells := 0, slots := 0, locals := 0 } : Room) (va_Pc [.int x0, .int x1] (pzPre D (zT cI cZ cII cJ cM) (([] : va_W)) sz)) (va_Qi (fun v (_ : Unit) => v = y) (fun _ t => pzB D (zT cI cZ cII cJ cM) (va_A (([] : va_W)) sz) (([] : va_W)) t) (va_A (([] : va_W)) sz)) 0 0 (va_A (([] : va_W)) sz) := by
  refine z_meti (cc := cX7_of) (maxL := 2) (by decide) rfl (Nat.le_of_ble_eq_true rfl) ?_
  intro p e s m args below meth c A ls Q H locs F hP hD hS hl hret
  obtain ⟨hx, hb, hml, hown, hts, hN, hK, hA⟩ := F
  have hown : s.vm.findClass RX7 = some m.cls := hown
  have hl : lv_has ls 2 [(0, .int x0), (1, .int x1)] := hl
  unfold m_X7_of at hf
  refine lv_iconst (v := 0) hx hb dX7_of_0 (by decide) ?_
  refine lv_bipush (v := 6) hx hb dX7_of_1 (by decide) ?_
  refine lv_iload_n hx hb dX7_of_3 rfl (lv_at hl 0 rfl) ?_
  refine lv_imul hx hb dX7_of_4 ?_
  refine lv_iadd hx hb dX7_of_5 ?_
  refine lv_iload_n hx hb dX7_of_6 rfl (lv_at hl 1 rfl) ?_
  refine lv_iadd hx hb dX7_of_7 ?_
  refine lv_topi (fun v8 ev8 => ?_)
  have hf := bd_t ev8 hf
  obtain rfl := Option.some.inj hf
  exact hret _ _ _ _ _ dX7_of_8 rfl hP hD hS
set_option maxHeartbeats 8000000 in
set_option maxRecDepth 100000 in
theorem c_X7_ofLine (l : Launch) (D : va_G) (cI cZ cII cJ cM : ClassId) (x0 : Int32) (x1 : Int32) (sz : Nat) (y : (Int32)) (hf : m_X7_ofLine x0 x1 = some y) : Met l yX7_ofLine wsX7_ofLine ({ frames := 0, cells := 0, slots := 0, locals := 0 } : Room) (va_Pc [.int x0, .int x1] (pzPre D (zT cI cZ cII cJ cM) (([] : va_W)) sz)) (va_Qi (fun v (_ : Unit) => v = y) (fun _ t => pzB D (zT cI cZ cII cJ cM) (va_A (([] : va_W)) sz) (([] : va_W)) t) (va_A (([] : va_W)) sz)) 0 0 (va_A (([] : va_W)) sz) := by
  refine z_meti (cc := cX7_ofLine) (maxL := 2) (by decide) rfl (Nat.le_of_ble_eq_true rfl) ?_
  intro p e s m args below meth c A ls Q H locs F hP hD hS hl hret
  obtain ⟨hx, hb, hml, hown, hts, hN, hK, hA⟩ := F
  have hown : s.vm.findClass RX7 = some m.cls := hown
  have hl : lv_has ls 2 [(0, .int x0), (1, .int x1)] := hl
  unfold m_X7_ofLine at hf
  refine lv_sipush (v := 289) hx hb dX7_ofLine_0 (by decide) ?_
  refine lv_bipush (v := 10) hx hb dX7_ofLine_3 (by decide) ?_
  refine lv_iload_n hx hb dX7_ofLine_5 rfl (lv_at hl 0 rfl) ?_
  refine lv_imul hx hb dX7_ofLine_6 ?_
  refine lv_iadd hx hb dX7_ofLine_7 ?_
  refine lv_iload_n hx hb dX7_ofLine_8 rfl (lv_at hl 1 rfl) ?_
  refine lv_iadd hx hb dX7_ofLine_9 ?_
  refine lv_topi (fun v10 ev10 => ?_)
  have hf := bd_t ev10 hf
  obtain rfl := Option.some.inj hf
  exact hret _ _ _ _ _ dX7_ofLine_10 rfl hP hD hS
set_option maxHeartbeats 8000000 in
set_option maxRecDepth 100000 in
theorem c_X7_save (l : Launch) (D : va_G) (cI cZ cII cJ cM : ClassId) (aS : Nat → Nat) (S_thrown : Int32) (S_s : Nat → Int32) (S_aside : Nat → Int32) (S_saved : Nat → Int32) (S_savedMany : Int32) (S_text : Nat → Int32) (S_length : Int32) (S_fetched : Nat → Int32) (S_predicted : Nat → Int32) (S_fetchedMany : Int32) (S_fetchedWay : Int32) (S_spot : Int32) (S_isWrong : Int32) (S_executedByText : Int32) (sz : Nat) (y : (Nat → Int32) × (Int32)) (hf : m_X7_save S_s S_saved S_savedMany = some y) : Met l yX7_save wsX7_save ({ frames := 0, cells := 0, slots := 0, locals := 0 } : Room) (va_Pc [.ref (aS 0)] (pzPre D (zT cI cZ cII cJ cM) (wX7 cI cZ cII aS S_thrown S_s S_aside S_saved S_savedMany S_text S_length S_fetched S_predicted S_fetchedMany S_fetchedWay S_spot S_isWrong S_executedByText ++ []) sz)) (va_Qv (fun (_ : Unit) => True) (fun _ t => pzB D (zT cI cZ cII cJ cM) (va_A (wX7 cI cZ cII aS S_thrown S_s S_aside S_saved S_savedMany S_text S_length S_fetched S_predicted S_fetchedMany S_fetchedWay S_spot S_isWrong S_executedByText ++ []) sz) (wX7 cI cZ cII aS S_thrown S_s S_aside y.1 y.2 S_text S_length S_fetched S_predicted S_fetchedMany S_fetchedWay S_spot S_isWrong S_executedByText ++ []) t) (va_A (wX7 cI cZ cII aS S_thrown S_s S_aside S_saved S_savedMany S_text S_length S_fetched S_predicted S_fetchedMany S_fetchedWay S_spot S_isWrong S_executedByText ++ []) sz)) 0 0 (va_A (wX7 cI cZ cII aS S_thrown S_s S_aside S_saved S_savedMany S_text S_length S_fetched S_predicted S_fetchedMany S_fetchedWay S_spot S_isWrong S_executedByText ++ []) sz) := by
  refine z_metv (cc := cX7_save) (maxL := 2) (by decide) rfl (Nat.le_of_ble_eq_true rfl) ?_
  intro p e s m args below meth c A ls Q H locs F hP hD hS hl hret
  obtain ⟨hx, hb, hml, hown, hts, hN, hK, hA⟩ := F
  have hown : s.vm.findClass RX7 = some m.cls := hown
  have hl : lv_has ls 2 [(0, .ref (aS 0))] := hl
  have inX7 : ∀ w ∈ u_ws RX7 TX7 14, w ∈ wsX7_save := by decide +kernel
  have kX7_7 := hts (.fieldLink RX7 7 "TraceCacheModel" "s" "[I") (by decide +kernel)
  have kX7_16 := hts (.fieldLink RX7 16 "TraceCacheModel" "saved" "[I") (by decide +kernel)
  have kX7_40 := hts (.fieldLink RX7 40 "TraceCacheModel" "savedMany" "I") (by decide +kernel)
  have J52 : ∀ (n52 : Nat), ∀ (S_saved : Nat → Int32) (S_savedMany : Int32) (x1 : Int32) (H : Heap) (locs : List Loc) (ls : Array Slot), m_X7_save_52 S_s n52 S_saved S_savedMany x1 = some y → va_P D vwCl (wX7 cI cZ cII aS S_thrown S_s S_aside S_saved S_savedMany S_text S_length S_fetched S_predicted S_fetchedMany S_fetchedWay S_spot S_isWrong S_executedByText ++ []) H → va_D A (wX7 cI cZ cII aS S_thrown S_s S_aside S_saved S_savedMany S_text S_length S_fetched S_predicted S_fetchedMany S_fetchedWay S_spot S_isWrong S_executedByText ++ []) → va_S A s.heap H locs → lv_has ls 2 [(0, .ref (aS 0)), (1, .int x1)] → W p l e ({ frames := 0, cells := 0, slots := 0, locals := 0 } : Room) s m args below meth c H locs 0 0 Q (F0 m 52 ls []) := by
    intro n52
    induction n52 with
    | zero =>
      intro S_saved S_savedMany x1 H locs ls hf hP hD hS hl
      rw [m_X7_save_52] at hf
      cases hf
    | succ n52 ih52 =>
      intro S_saved S_savedMany x1 H locs ls hf hP hD hS hl
      rw [m_X7_save_52] at hf
      refine lv_iload_n hx hb dX7_save_52 rfl (lv_at hl 1 rfl) ?_
      refine lv_sipush (v := 389) hx hb dX7_save_53 (by decide) ?_
      refine lv_icmp_ge (tgt := 86) hx hb dX7_save_56 (by decide) (fun c56 => ?_) (fun c56 => ?_)
      · have hf := if_t c56 hf
        refine lv_aload_n hx hb dX7_save_86 rfl (lv_at hl 0 rfl) ?_
        refine lv_dup hx hb dX7_save_87 rfl ?_
        refine va_get (D := D) (ci := 7) (v := .int S_savedMany) (C := RX7) (T := TX7) (N := 14) hx hb hts inX7 hown hK hP 0 rfl rfl 4 (by decide) kX7_40 (fun _ h9 => h9) rfl dX7_save_88 ?_
        refine lv_iconst (v := 1) hx hb dX7_save_91 (by decide) ?_
        refine lv_iadd hx hb dX7_save_92 ?_
        refine lv_topi (fun v93 ev93 => ?_)
        have hf := bd_t ev93 hf
        refine va_put (D := D) (ci := 7) (v := .int v93) (ty := .int) (C := RX7) (T := TX7) (N := 14) hx hb hts inX7 tyX7 tyX7_ok nmX7 hown hK hP hD hS 0 rfl rfl 4 (by decide) kX7_40 (fun _ h9 => h9) rfl (by decide +kernel) rfl rfl (Nat.le_of_ble_eq_true rfl) dX7_save_93 (fun H locs hP hD hS => ?_)
        have hP : va_P D vwCl (wX7 cI cZ cII aS S_thrown S_s S_aside S_saved v93 S_text S_length S_fetched S_predicted S_fetchedMany S_fetchedWay S_spot S_isWrong S_executedByText ++ []) H := hP
        have hD : va_D A (wX7 cI cZ cII aS S_thrown S_s S_aside S_saved v93 S_text S_length S_fetched S_predicted S_fetchedMany S_fetchedWay S_spot S_isWrong S_executedByText ++ []) := hD
        obtain rfl := Option.some.inj hf
        exact hret _ _ _ _ dX7_save_96 hP hD hS
      · have hf := if_f c56 hf
        refine lv_aload_n hx hb dX7_save_59 rfl (lv_at hl 0 rfl) ?_
        refine va_get (D := D) (ci := 7) (v := .ref (aS 3)) (C := RX7) (T := TX7) (N := 14) hx hb hts inX7 hown hK hP 0 rfl rfl 3 (by decide) kX7_16 (fun _ h9 => h9) rfl dX7_save_60 ?_
        refine lv_sipush (v := 389) hx hb dX7_save_63 (by decide) ?_
        refine lv_aload_n hx hb dX7_save_66 rfl (lv_at hl 0 rfl) ?_
        refine va_get (D := D) (ci := 7) (v := .int S_savedMany) (C := RX7) (T := TX7) (N := 14) hx hb hts inX7 hown hK hP 0 rfl rfl 4 (by decide) kX7_40 (fun _ h9 => h9) rfl dX7_save_67 ?_
        refine lv_imul hx hb dX7_save_70 ?_
        refine lv_iload_n hx hb dX7_save_71 rfl (lv_at hl 1 rfl) ?_
        refine lv_iadd hx hb dX7_save_72 ?_
        refine lv_aload_n hx hb dX7_save_73 rfl (lv_at hl 0 rfl) ?_
        refine va_get (D := D) (ci := 7) (v := .ref (aS 1)) (C := RX7) (T := TX7) (N := 14) hx hb hts inX7 hown hK hP 0 rfl rfl 1 (by decide) kX7_7 (fun _ h9 => h9) rfl dX7_save_74 ?_
        refine lv_iload_n hx hb dX7_save_77 rfl (lv_at hl 1 rfl) ?_
        obtain ⟨g78, hf⟩ := gd_t hf
        refine va_iald hx hb hK hP 1 0 rfl rfl (inb_t g78) dX7_save_78 ?_
        obtain ⟨g79, hf⟩ := gd_t hf
        refine va_iast hx hb hK hP hD hS 3 0 rfl rfl (inb_t g79) dX7_save_79 (fun H locs hP hD hS => ?_)
        obtain ⟨S_saved_79, eS_saved_79⟩ : ∃ z : Nat → Int32, z = upd S_saved (Int32.toNatClampNeg (((389 : Int32) * S_savedMany) + x1)) (S_s (Int32.toNatClampNeg x1)) := ⟨_, rfl⟩
        have hf := bd_t eS_saved_79 hf
        have hP : va_P D vwCl (wX7 cI cZ cII aS S_thrown S_s S_aside S_saved_79 S_savedMany S_text S_length S_fetched S_predicted S_fetchedMany S_fetchedWay S_spot S_isWrong S_executedByText ++ []) H := by rw [eS_saved_79]; exact hP
        have hD : va_D A (wX7 cI cZ cII aS S_thrown S_s S_aside S_saved_79 S_savedMany S_text S_length S_fetched S_predicted S_fetchedMany S_fetchedWay S_spot S_isWrong S_executedByText ++ []) := by rw [eS_saved_79]; exact hD
        obtain ⟨v80, ev80⟩ : ∃ z : Int32, z = x1 + (1 : Int32) := ⟨_, rfl⟩
        have hf := bd_t ev80 hf
        refine lv_iinc (v := v80) (lv' := [(1, .int v80), (0, .ref (aS 0))]) hx hb dX7_save_80 hl (k := 1) rfl (by rw [ev80]; rfl) (by decide) rfl (fun ls hl => ?_)
        refine lv_goto (tgt := 52) hx hb dX7_save_83 (by decide) ?_
        exact ih52 S_saved_79 S_savedMany v80 _ _ _ hf hP hD hS (lv_sub hl [1, 0] rfl)
  have J50 : ∀ (S_saved : Nat → Int32) (S_savedMany : Int32) (H : Heap) (locs : List Loc) (ls : Array Slot), m_X7_save_50 S_s S_saved S_savedMany = some y → va_P D vwCl (wX7 cI cZ cII aS S_thrown S_s S_aside S_saved S_savedMany S_text S_length S_fetched S_predicted S_fetchedMany S_fetchedWay S_spot S_isWrong S_executedByText ++ []) H → va_D A (wX7 cI cZ cII aS S_thrown S_s S_aside S_saved S_savedMany S_text S_length S_fetched S_predicted S_fetchedMany S_fetchedWay S_spot S_isWrong S_executedByText ++ []) → va_S A s.heap H locs → lv_has ls 2 [(0, .ref (aS 0))] → W p l e ({ frames := 0, cells := 0, slots := 0, locals := 0 } : Room) s m args below meth c H locs 0 0 Q (F0 m 50 ls []) := by
    intro S_saved S_savedMany H locs ls hf hP hD hS hl
    unfold m_X7_save_50 at hf
    refine lv_iconst (v := 0) hx hb dX7_save_50 (by decide) ?_
    refine lv_istore_n (lv' := [(1, .int (0 : Int32)), (0, .ref (aS 0))]) hx hb dX7_save_51 rfl hl (by decide) rfl (fun ls hl => ?_)
    exact J52 4000 S_saved S_savedMany (0 : Int32) _ _ _ hf hP hD hS (lv_sub hl [1, 0] rfl)
  have J11 : ∀ (n11 : Nat), ∀ (S_saved : Nat → Int32) (S_savedMany : Int32) (x1 : Int32) (H : Heap) (locs : List Loc) (ls : Array Slot), m_X7_save_11 S_s n11 S_saved S_savedMany x1 = some y → va_P D vwCl (wX7 cI cZ cII aS S_thrown S_s S_aside S_saved S_savedMany S_text S_length S_fetched S_predicted S_fetchedMany S_fetchedWay S_spot S_isWrong S_executedByText ++ []) H → va_D A (wX7 cI cZ cII aS S_thrown S_s S_aside S_saved S_savedMany S_text S_length S_fetched S_predicted S_fetchedMany S_fetchedWay S_spot S_isWrong S_executedByText ++ []) → va_S A s.heap H locs → lv_has ls 2 [(0, .ref (aS 0)), (1, .int x1)] → W p l e ({ frames := 0, cells := 0, slots := 0, locals := 0 } : Room) s m args below meth c H locs 0 0 Q (F0 m 11 ls []) := by
    intro n11
    induction n11 with
    | zero =>
      intro S_saved S_savedMany x1 H locs ls hf hP hD hS hl
      rw [m_X7_save_11] at hf
      cases hf
    | succ n11 ih11 =>
      intro S_saved S_savedMany x1 H locs ls hf hP hD hS hl
      rw [m_X7_save_11] at hf
      refine lv_iload_n hx hb dX7_save_11 rfl (lv_at hl 1 rfl) ?_
      refine lv_sipush (v := 1945) hx hb dX7_save_12 (by decide) ?_
      refine lv_icmp_ge (tgt := 40) hx hb dX7_save_15 (by decide) (fun c15 => ?_) (fun c15 => ?_)
      · have hf := if_t c15 hf
        refine lv_aload_n hx hb dX7_save_40 rfl (lv_at hl 0 rfl) ?_
        refine lv_dup hx hb dX7_save_41 rfl ?_
        refine va_get (D := D) (ci := 7) (v := .int S_savedMany) (C := RX7) (T := TX7) (N := 14) hx hb hts inX7 hown hK hP 0 rfl rfl 4 (by decide) kX7_40 (fun _ h9 => h9) rfl dX7_save_42 ?_
        refine lv_iconst (v := 1) hx hb dX7_save_45 (by decide) ?_
        refine lv_isub hx hb dX7_save_46 ?_
        refine lv_topi (fun v47 ev47 => ?_)
        have hf := bd_t ev47 hf
        refine va_put (D := D) (ci := 7) (v := .int v47) (ty := .int) (C := RX7) (T := TX7) (N := 14) hx hb hts inX7 tyX7 tyX7_ok nmX7 hown hK hP hD hS 0 rfl rfl 4 (by decide) kX7_40 (fun _ h9 => h9) rfl (by decide +kernel) rfl rfl (Nat.le_of_ble_eq_true rfl) dX7_save_47 (fun H locs hP hD hS => ?_)
        have hP : va_P D vwCl (wX7 cI cZ cII aS S_thrown S_s S_aside S_saved v47 S_text S_length S_fetched S_predicted S_fetchedMany S_fetchedWay S_spot S_isWrong S_executedByText ++ []) H := hP
        have hD : va_D A (wX7 cI cZ cII aS S_thrown S_s S_aside S_saved v47 S_text S_length S_fetched S_predicted S_fetchedMany S_fetchedWay S_spot S_isWrong S_executedByText ++ []) := hD
        exact J50 S_saved v47 _ _ _ hf hP hD hS (lv_sub hl [0] rfl)
      · have hf := if_f c15 hf
        refine lv_aload_n hx hb dX7_save_18 rfl (lv_at hl 0 rfl) ?_
        refine va_get (D := D) (ci := 7) (v := .ref (aS 3)) (C := RX7) (T := TX7) (N := 14) hx hb hts inX7 hown hK hP 0 rfl rfl 3 (by decide) kX7_16 (fun _ h9 => h9) rfl dX7_save_19 ?_
        refine lv_iload_n hx hb dX7_save_22 rfl (lv_at hl 1 rfl) ?_
        refine lv_aload_n hx hb dX7_save_23 rfl (lv_at hl 0 rfl) ?_
        refine va_get (D := D) (ci := 7) (v := .ref (aS 3)) (C := RX7) (T := TX7) (N := 14) hx hb hts inX7 hown hK hP 0 rfl rfl 3 (by decide) kX7_16 (fun _ h9 => h9) rfl dX7_save_24 ?_
        refine lv_iload_n hx hb dX7_save_27 rfl (lv_at hl 1 rfl) ?_
        refine lv_sipush (v := 389) hx hb dX7_save_28 (by decide) ?_
        refine lv_iadd hx hb dX7_save_31 ?_
        refine lv_topi (fun v32 ev32 => ?_)
        have hf := bd_t ev32 hf
        obtain ⟨g32, hf⟩ := gd_t hf
        refine va_iald hx hb hK hP 3 0 rfl rfl (inb_t g32) dX7_save_32 ?_
        obtain ⟨g33, hf⟩ := gd_t hf
        refine va_iast hx hb hK hP hD hS 3 0 rfl rfl (inb_t g33) dX7_save_33 (fun H locs hP hD hS => ?_)
        obtain ⟨S_saved_33, eS_saved_33⟩ : ∃ z : Nat → Int32, z = upd S_saved (Int32.toNatClampNeg x1) (S_saved (Int32.toNatClampNeg v32)) := ⟨_, rfl⟩
        have hf := bd_t eS_saved_33 hf
        have hP : va_P D vwCl (wX7 cI cZ cII aS S_thrown S_s S_aside S_saved_33 S_savedMany S_text S_length S_fetched S_predicted S_fetchedMany S_fetchedWay S_spot S_isWrong S_executedByText ++ []) H := by rw [eS_saved_33]; exact hP
        have hD : va_D A (wX7 cI cZ cII aS S_thrown S_s S_aside S_saved_33 S_savedMany S_text S_length S_fetched S_predicted S_fetchedMany S_fetchedWay S_spot S_isWrong S_executedByText ++ []) := by rw [eS_saved_33]; exact hD
        obtain ⟨v34, ev34⟩ : ∃ z : Int32, z = x1 + (1 : Int32) := ⟨_, rfl⟩
        have hf := bd_t ev34 hf
        refine lv_iinc (v := v34) (lv' := [(1, .int v34), (0, .ref (aS 0))]) hx hb dX7_save_34 hl (k := 1) rfl (by rw [ev34]; rfl) (by decide) rfl (fun ls hl => ?_)
        refine lv_goto (tgt := 11) hx hb dX7_save_37 (by decide) ?_
        exact ih11 S_saved_33 S_savedMany v34 _ _ _ hf hP hD hS (lv_sub hl [1, 0] rfl)
  unfold m_X7_save at hf
  refine lv_aload_n hx hb dX7_save_0 rfl (lv_at hl 0 rfl) ?_
  refine va_get (D := D) (ci := 7) (v := .int S_savedMany) (C := RX7) (T := TX7) (N := 14) hx hb hts inX7 hown hK hP 0 rfl rfl 4 (by decide) kX7_40 (fun _ h9 => h9) rfl dX7_save_1 ?_
  refine lv_bipush (v := 6) hx hb dX7_save_4 (by decide) ?_
  refine lv_icmp_ne (tgt := 50) hx hb dX7_save_6 (by decide) (fun c6 => ?_) (fun c6 => ?_)
  · have hf := if_f c6 hf
    exact J50 S_saved S_savedMany _ _ _ hf hP hD hS (lv_sub hl [0] rfl)
  · have hf := if_t c6 hf
    refine lv_iconst (v := 0) hx hb dX7_save_9 (by decide) ?_
    refine lv_istore_n (lv' := [(1, .int (0 : Int32)), (0, .ref (aS 0))]) hx hb dX7_save_10 rfl hl (by decide) rfl (fun ls hl => ?_)
    exact J11 4000 S_saved S_savedMany (0 : Int32) _ _ _ hf hP hD hS (lv_sub hl [1, 0] rfl)
set_option maxHeartbeats 8000000 in
set_option maxRecDepth 100000 in
theorem c_X7_putAside (l : Launch) (D : va_G) (cI cZ cII cJ cM : ClassId) (aS : Nat → Nat) (S_thrown : Int32) (S_s : Nat → Int32) (S_aside : Nat → Int32) (S_saved : Nat → Int32) (S_savedMany : Int32) (S_text : Nat → Int32) (S_length : Int32) (S_fetched : Nat → Int32) (S_predicted : Nat → Int32) (S_fetchedMany : Int32) (S_fetchedWay : Int32) (S_spot : Int32) (S_isWrong : Int32) (S_executedByText : Int32) (sz : Nat) (y : (Nat → Int32)) (hf : m_X7_putAside S_s S_aside = some y) : Met l yX7_putAside wsX7_putAside ({ frames := 0, cells := 0, slots := 0, locals := 0 } : Room) (va_Pc [.ref (aS 0)] (pzPre D (zT cI cZ cII cJ cM) (wX7 cI cZ cII aS S_thrown S_s S_aside S_saved S_savedMany S_text S_length S_fetched S_predicted S_fetchedMany S_fetchedWay S_spot S_isWrong S_executedByText ++ []) sz)) (va_Qv (fun (_ : Unit) => True) (fun _ t => pzB D (zT cI cZ cII cJ cM) (va_A (wX7 cI cZ cII aS S_thrown S_s S_aside S_saved S_savedMany S_text S_length S_fetched S_predicted S_fetchedMany S_fetchedWay S_spot S_isWrong S_executedByText ++ []) sz) (wX7 cI cZ cII aS S_thrown S_s y S_saved S_savedMany S_text S_length S_fetched S_predicted S_fetchedMany S_fetchedWay S_spot S_isWrong S_executedByText ++ []) t) (va_A (wX7 cI cZ cII aS S_thrown S_s S_aside S_saved S_savedMany S_text S_length S_fetched S_predicted S_fetchedMany S_fetchedWay S_spot S_isWrong S_executedByText ++ []) sz)) 0 0 (va_A (wX7 cI cZ cII aS S_thrown S_s S_aside S_saved S_savedMany S_text S_length S_fetched S_predicted S_fetchedMany S_fetchedWay S_spot S_isWrong S_executedByText ++ []) sz) := by
  refine z_metv (cc := cX7_putAside) (maxL := 2) (by decide) rfl (Nat.le_of_ble_eq_true rfl) ?_
  intro p e s m args below meth c A ls Q H locs F hP hD hS hl hret
  obtain ⟨hx, hb, hml, hown, hts, hN, hK, hA⟩ := F
  have hown : s.vm.findClass RX7 = some m.cls := hown
  have hl : lv_has ls 2 [(0, .ref (aS 0))] := hl
  have inX7 : ∀ w ∈ u_ws RX7 TX7 14, w ∈ wsX7_putAside := by decide +kernel
  have kX7_7 := hts (.fieldLink RX7 7 "TraceCacheModel" "s" "[I") (by decide +kernel)
  have kX7_13 := hts (.fieldLink RX7 13 "TraceCacheModel" "aside" "[I") (by decide +kernel)
  have J2 : ∀ (n2 : Nat), ∀ (S_aside : Nat → Int32) (x1 : Int32) (H : Heap) (locs : List Loc) (ls : Array Slot), m_X7_putAside_2 S_s n2 S_aside x1 = some y → va_P D vwCl (wX7 cI cZ cII aS S_thrown S_s S_aside S_saved S_savedMany S_text S_length S_fetched S_predicted S_fetchedMany S_fetchedWay S_spot S_isWrong S_executedByText ++ []) H → va_D A (wX7 cI cZ cII aS S_thrown S_s S_aside S_saved S_savedMany S_text S_length S_fetched S_predicted S_fetchedMany S_fetchedWay S_spot S_isWrong S_executedByText ++ []) → va_S A s.heap H locs → lv_has ls 2 [(0, .ref (aS 0)), (1, .int x1)] → W p l e ({ frames := 0, cells := 0, slots := 0, locals := 0 } : Room) s m args below meth c H locs 0 0 Q (F0 m 2 ls []) := by
    intro n2
    induction n2 with
    | zero =>
      intro S_aside x1 H locs ls hf hP hD hS hl
      rw [m_X7_putAside_2] at hf
      cases hf
    | succ n2 ih2 =>
      intro S_aside x1 H locs ls hf hP hD hS hl
      rw [m_X7_putAside_2] at hf
      refine lv_iload_n hx hb dX7_putAside_2 rfl (lv_at hl 1 rfl) ?_
      refine lv_sipush (v := 389) hx hb dX7_putAside_3 (by decide) ?_
      refine lv_icmp_ge (tgt := 27) hx hb dX7_putAside_6 (by decide) (fun c6 => ?_) (fun c6 => ?_)
      · have hf := if_t c6 hf
        obtain rfl := Option.some.inj hf
        exact hret _ _ _ _ dX7_putAside_27 hP hD hS
      · have hf := if_f c6 hf
        refine lv_aload_n hx hb dX7_putAside_9 rfl (lv_at hl 0 rfl) ?_
        refine va_get (D := D) (ci := 7) (v := .ref (aS 2)) (C := RX7) (T := TX7) (N := 14) hx hb hts inX7 hown hK hP 0 rfl rfl 2 (by decide) kX7_13 (fun _ h9 => h9) rfl dX7_putAside_10 ?_
        refine lv_iload_n hx hb dX7_putAside_13 rfl (lv_at hl 1 rfl) ?_
        refine lv_aload_n hx hb dX7_putAside_14 rfl (lv_at hl 0 rfl) ?_
        refine va_get (D := D) (ci := 7) (v := .ref (aS 1)) (C := RX7) (T := TX7) (N := 14) hx hb hts inX7 hown hK hP 0 rfl rfl 1 (by decide) kX7_7 (fun _ h9 => h9) rfl dX7_putAside_15 ?_
        refine lv_iload_n hx hb dX7_putAside_18 rfl (lv_at hl 1 rfl) ?_
        obtain ⟨g19, hf⟩ := gd_t hf
        refine va_iald hx hb hK hP 1 0 rfl rfl (inb_t g19) dX7_putAside_19 ?_
        obtain ⟨g20, hf⟩ := gd_t hf
        refine va_iast hx hb hK hP hD hS 2 0 rfl rfl (inb_t g20) dX7_putAside_20 (fun H locs hP hD hS => ?_)
        obtain ⟨S_aside_20, eS_aside_20⟩ : ∃ z : Nat → Int32, z = upd S_aside (Int32.toNatClampNeg x1) (S_s (Int32.toNatClampNeg x1)) := ⟨_, rfl⟩
        have hf := bd_t eS_aside_20 hf
        have hP : va_P D vwCl (wX7 cI cZ cII aS S_thrown S_s S_aside_20 S_saved S_savedMany S_text S_length S_fetched S_predicted S_fetchedMany S_fetchedWay S_spot S_isWrong S_executedByText ++ []) H := by rw [eS_aside_20]; exact hP
        have hD : va_D A (wX7 cI cZ cII aS S_thrown S_s S_aside_20 S_saved S_savedMany S_text S_length S_fetched S_predicted S_fetchedMany S_fetchedWay S_spot S_isWrong S_executedByText ++ []) := by rw [eS_aside_20]; exact hD
        obtain ⟨v21, ev21⟩ : ∃ z : Int32, z = x1 + (1 : Int32) := ⟨_, rfl⟩
        have hf := bd_t ev21 hf
        refine lv_iinc (v := v21) (lv' := [(1, .int v21), (0, .ref (aS 0))]) hx hb dX7_putAside_21 hl (k := 1) rfl (by rw [ev21]; rfl) (by decide) rfl (fun ls hl => ?_)
        refine lv_goto (tgt := 2) hx hb dX7_putAside_24 (by decide) ?_
        exact ih2 S_aside_20 v21 _ _ _ hf hP hD hS (lv_sub hl [1, 0] rfl)
  unfold m_X7_putAside at hf
  refine lv_iconst (v := 0) hx hb dX7_putAside_0 (by decide) ?_
  refine lv_istore_n (lv' := [(1, .int (0 : Int32)), (0, .ref (aS 0))]) hx hb dX7_putAside_1 rfl hl (by decide) rfl (fun ls hl => ?_)
  exact J2 4000 S_aside (0 : Int32) _ _ _ hf hP hD hS (lv_sub hl [1, 0] rfl)
set_option maxHeartbeats 8000000 in
set_option maxRecDepth 100000 in
theorem c_X7_putBack (l : Launch) (D : va_G) (cI cZ cII cJ cM : ClassId) (aS : Nat → Nat) (S_thrown : Int32) (S_s : Nat → Int32) (S_aside : Nat → Int32) (S_saved : Nat → Int32) (S_savedMany : Int32) (S_text : Nat → Int32) (S_length : Int32) (S_fetched : Nat → Int32) (S_predicted : Nat → Int32) (S_fetchedMany : Int32) (S_fetchedWay : Int32) (S_spot : Int32) (S_isWrong : Int32) (S_executedByText : Int32) (sz : Nat) (y : (Nat → Int32)) (hf : m_X7_putBack S_aside S_s = some y) : Met l yX7_putBack wsX7_putBack ({ frames := 0, cells := 0, slots := 0, locals := 0 } : Room) (va_Pc [.ref (aS 0)] (pzPre D (zT cI cZ cII cJ cM) (wX7 cI cZ cII aS S_thrown S_s S_aside S_saved S_savedMany S_text S_length S_fetched S_predicted S_fetchedMany S_fetchedWay S_spot S_isWrong S_executedByText ++ []) sz)) (va_Qv (fun (_ : Unit) => True) (fun _ t => pzB D (zT cI cZ cII cJ cM) (va_A (wX7 cI cZ cII aS S_thrown S_s S_aside S_saved S_savedMany S_text S_length S_fetched S_predicted S_fetchedMany S_fetchedWay S_spot S_isWrong S_executedByText ++ []) sz) (wX7 cI cZ cII aS S_thrown y S_aside S_saved S_savedMany S_text S_length S_fetched S_predicted S_fetchedMany S_fetchedWay S_spot S_isWrong S_executedByText ++ []) t) (va_A (wX7 cI cZ cII aS S_thrown S_s S_aside S_saved S_savedMany S_text S_length S_fetched S_predicted S_fetchedMany S_fetchedWay S_spot S_isWrong S_executedByText ++ []) sz)) 0 0 (va_A (wX7 cI cZ cII aS S_thrown S_s S_aside S_saved S_savedMany S_text S_length S_fetched S_predicted S_fetchedMany S_fetchedWay S_spot S_isWrong S_executedByText ++ []) sz) := by
  refine z_metv (cc := cX7_putBack) (maxL := 2) (by decide) rfl (Nat.le_of_ble_eq_true rfl) ?_
  intro p e s m args below meth c A ls Q H locs F hP hD hS hl hret
  obtain ⟨hx, hb, hml, hown, hts, hN, hK, hA⟩ := F
  have hown : s.vm.findClass RX7 = some m.cls := hown
  have hl : lv_has ls 2 [(0, .ref (aS 0))] := hl
  have inX7 : ∀ w ∈ u_ws RX7 TX7 14, w ∈ wsX7_putBack := by decide +kernel
  have kX7_7 := hts (.fieldLink RX7 7 "TraceCacheModel" "s" "[I") (by decide +kernel)
  have kX7_13 := hts (.fieldLink RX7 13 "TraceCacheModel" "aside" "[I") (by decide +kernel)
  have J2 : ∀ (n2 : Nat), ∀ (S_s : Nat → Int32) (x1 : Int32) (H : Heap) (locs : List Loc) (ls : Array Slot), m_X7_putBack_2 S_aside n2 S_s x1 = some y → va_P D vwCl (wX7 cI cZ cII aS S_thrown S_s S_aside S_saved S_savedMany S_text S_length S_fetched S_predicted S_fetchedMany S_fetchedWay S_spot S_isWrong S_executedByText ++ []) H → va_D A (wX7 cI cZ cII aS S_thrown S_s S_aside S_saved S_savedMany S_text S_length S_fetched S_predicted S_fetchedMany S_fetchedWay S_spot S_isWrong S_executedByText ++ []) → va_S A s.heap H locs → lv_has ls 2 [(0, .ref (aS 0)), (1, .int x1)] → W p l e ({ frames := 0, cells := 0, slots := 0, locals := 0 } : Room) s m args below meth c H locs 0 0 Q (F0 m 2 ls []) := by
    intro n2
    induction n2 with
    | zero =>
      intro S_s x1 H locs ls hf hP hD hS hl
      rw [m_X7_putBack_2] at hf
      cases hf
    | succ n2 ih2 =>
      intro S_s x1 H locs ls hf hP hD hS hl
      rw [m_X7_putBack_2] at hf
      refine lv_iload_n hx hb dX7_putBack_2 rfl (lv_at hl 1 rfl) ?_
      refine lv_sipush (v := 389) hx hb dX7_putBack_3 (by decide) ?_
      refine lv_icmp_ge (tgt := 27) hx hb dX7_putBack_6 (by decide) (fun c6 => ?_) (fun c6 => ?_)
      · have hf := if_t c6 hf
        obtain rfl := Option.some.inj hf
        exact hret _ _ _ _ dX7_putBack_27 hP hD hS
      · have hf := if_f c6 hf
        refine lv_aload_n hx hb dX7_putBack_9 rfl (lv_at hl 0 rfl) ?_
        refine va_get (D := D) (ci := 7) (v := .ref (aS 1)) (C := RX7) (T := TX7) (N := 14) hx hb hts inX7 hown hK hP 0 rfl rfl 1 (by decide) kX7_7 (fun _ h9 => h9) rfl dX7_putBack_10 ?_
        refine lv_iload_n hx hb dX7_putBack_13 rfl (lv_at hl 1 rfl) ?_
        refine lv_aload_n hx hb dX7_putBack_14 rfl (lv_at hl 0 rfl) ?_
        refine va_get (D := D) (ci := 7) (v := .ref (aS 2)) (C := RX7) (T := TX7) (N := 14) hx hb hts inX7 hown hK hP 0 rfl rfl 2 (by decide) kX7_13 (fun _ h9 => h9) rfl dX7_putBack_15 ?_
        refine lv_iload_n hx hb dX7_putBack_18 rfl (lv_at hl 1 rfl) ?_
        obtain ⟨g19, hf⟩ := gd_t hf
        refine va_iald hx hb hK hP 2 0 rfl rfl (inb_t g19) dX7_putBack_19 ?_
        obtain ⟨g20, hf⟩ := gd_t hf
        refine va_iast hx hb hK hP hD hS 1 0 rfl rfl (inb_t g20) dX7_putBack_20 (fun H locs hP hD hS => ?_)
        obtain ⟨S_s_20, eS_s_20⟩ : ∃ z : Nat → Int32, z = upd S_s (Int32.toNatClampNeg x1) (S_aside (Int32.toNatClampNeg x1)) := ⟨_, rfl⟩
        have hf := bd_t eS_s_20 hf
        have hP : va_P D vwCl (wX7 cI cZ cII aS S_thrown S_s_20 S_aside S_saved S_savedMany S_text S_length S_fetched S_predicted S_fetchedMany S_fetchedWay S_spot S_isWrong S_executedByText ++ []) H := by rw [eS_s_20]; exact hP
        have hD : va_D A (wX7 cI cZ cII aS S_thrown S_s_20 S_aside S_saved S_savedMany S_text S_length S_fetched S_predicted S_fetchedMany S_fetchedWay S_spot S_isWrong S_executedByText ++ []) := by rw [eS_s_20]; exact hD
        obtain ⟨v21, ev21⟩ : ∃ z : Int32, z = x1 + (1 : Int32) := ⟨_, rfl⟩
        have hf := bd_t ev21 hf
        refine lv_iinc (v := v21) (lv' := [(1, .int v21), (0, .ref (aS 0))]) hx hb dX7_putBack_21 hl (k := 1) rfl (by rw [ev21]; rfl) (by decide) rfl (fun ls hl => ?_)
        refine lv_goto (tgt := 2) hx hb dX7_putBack_24 (by decide) ?_
        exact ih2 S_s_20 v21 _ _ _ hf hP hD hS (lv_sub hl [1, 0] rfl)
  unfold m_X7_putBack at hf
  refine lv_iconst (v := 0) hx hb dX7_putBack_0 (by decide) ?_
  refine lv_istore_n (lv' := [(1, .int (0 : Int32)), (0, .ref (aS 0))]) hx hb dX7_putBack_1 rfl hl (by decide) rfl (fun ls hl => ?_)
  exact J2 4000 S_s (0 : Int32) _ _ _ hf hP hD hS (lv_sub hl [1, 0] rfl)
set_option maxHeartbeats 8000000 in
set_option maxRecDepth 100000 in
theorem c_X7_after (l : Launch) (D : va_G) (cI cZ cII cJ cM : ClassId) (x0 : Int32) (sz : Nat) (y : (Int32)) (hf : m_X7_after x0 = some y) : Met l yX7_after wsX7_after ({ frames := 0, cells := 0, slots := 0, locals := 0 } : Room) (va_Pc [.int x0] (pzPre D (zT cI cZ cII cJ cM) (([] : va_W)) sz)) (va_Qi (fun v (_ : Unit) => v = y) (fun _ t => pzB D (zT cI cZ cII cJ cM) (va_A (([] : va_W)) sz) (([] : va_W)) t) (va_A (([] : va_W)) sz)) 0 0 (va_A (([] : va_W)) sz) := by
  refine z_meti (cc := cX7_after) (maxL := 1) (by decide) rfl (Nat.le_of_ble_eq_true rfl) ?_
  intro p e s m args below meth c A ls Q H locs F hP hD hS hl hret
  obtain ⟨hx, hb, hml, hown, hts, hN, hK, hA⟩ := F
  have hown : s.vm.findClass RX7 = some m.cls := hown
  have hl : lv_has ls 1 [(0, .int x0)] := hl
  unfold m_X7_after at hf
  refine lv_iload_n hx hb dX7_after_0 rfl (lv_at hl 0 rfl) ?_
  refine lv_iconst (v := 1) hx hb dX7_after_1 (by decide) ?_
  refine lv_iadd hx hb dX7_after_2 ?_
  refine lv_bipush (v := 48) hx hb dX7_after_3 (by decide) ?_
  refine lv_irem hx hb dX7_after_5 (by decide) ?_
  refine lv_topi (fun v6 ev6 => ?_)
  have hf := bd_t ev6 hf
  obtain rfl := Option.some.inj hf
  exact hret _ _ _ _ _ dX7_after_6 rfl hP hD hS
set_option maxHeartbeats 8000000 in
set_option maxRecDepth 100000 in
theorem c_X7_isPredictedTaken (l : Launch) (D : va_G) (cI cZ cII cJ cM : ClassId) (aS : Nat → Nat) (S_thrown : Int32) (S_s : Nat → Int32) (S_aside : Nat → Int32) (S_saved : Nat → Int32) (S_savedMany : Int32) (S_text : Nat → Int32) (S_length : Int32) (S_fetched : Nat → Int32) (S_predicted : Nat → Int32) (S_fetchedMany : Int32) (S_fetchedWay : Int32) (S_spot : Int32) (S_isWrong : Int32) (S_executedByText : Int32) (x1 : Int32) (sz : Nat) (y : (Int32)) (hf : m_X7_isPredictedTaken S_s x1 = some y) : Met l yX7_isPredictedTaken wsX7_isPredictedTaken ({ frames := 1, cells := 0, slots := 0, locals := 21 } : Room) (va_Pc [.ref (aS 0), .int x1] (pzPre D (zT cI cZ cII cJ cM) (wX7 cI cZ cII aS S_thrown S_s S_aside S_saved S_savedMany S_text S_length S_fetched S_predicted S_fetchedMany S_fetchedWay S_spot S_isWrong S_executedByText ++ []) sz)) (va_Qi (fun v (_ : Unit) => v = y) (fun _ t => pzB D (zT cI cZ cII cJ cM) (va_A (wX7 cI cZ cII aS S_thrown S_s S_aside S_saved S_savedMany S_text S_length S_fetched S_predicted S_fetchedMany S_fetchedWay S_spot S_isWrong S_executedByText ++ []) sz) (wX7 cI cZ cII aS S_thrown S_s S_aside S_saved S_savedMany S_text S_length S_fetched S_predicted S_fetchedMany S_fetchedWay S_spot S_isWrong S_executedByText ++ []) t) (va_A (wX7 cI cZ cII aS S_thrown S_s S_aside S_saved S_savedMany S_text S_length S_fetched S_predicted S_fetchedMany S_fetchedWay S_spot S_isWrong S_executedByText ++ []) sz)) 0 0 (va_A (wX7 cI cZ cII aS S_thrown S_s S_aside S_saved S_savedMany S_text S_length S_fetched S_predicted S_fetchedMany S_fetchedWay S_spot S_isWrong S_executedByText ++ []) sz) := by
  refine z_metz (cc := cX7_isPredictedTaken) (maxL := 2) (by decide) rfl (Nat.le_of_ble_eq_true rfl) ?_
  intro p e s m args below meth c A ls Q H locs F hP hD hS hl hret
  obtain ⟨hx, hb, hml, hown, hts, hN, hK, hA⟩ := F
  have hown : s.vm.findClass RX7 = some m.cls := hown
  have hl : lv_has ls 2 [(0, .ref (aS 0)), (1, .int x1)] := hl
  have inX7 : ∀ w ∈ u_ws RX7 TX7 14, w ∈ wsX7_isPredictedTaken := by decide +kernel
  have kX7_7 := hts (.fieldLink RX7 7 "TraceCacheModel" "s" "[I") (by decide +kernel)
  have J33 : ∀ (k0 : Int32) (H : Heap) (locs : List Loc) (ls : Array Slot), m_X7_isPredictedTaken_33 S_s x1 k0 = some y → va_P D vwCl (wX7 cI cZ cII aS S_thrown S_s S_aside S_saved S_savedMany S_text S_length S_fetched S_predicted S_fetchedMany S_fetchedWay S_spot S_isWrong S_executedByText ++ []) H → va_D A (wX7 cI cZ cII aS S_thrown S_s S_aside S_saved S_savedMany S_text S_length S_fetched S_predicted S_fetchedMany S_fetchedWay S_spot S_isWrong S_executedByText ++ []) → va_S A s.heap H locs → lv_has ls 2 [] → W p l e ({ frames := 1, cells := 0, slots := 0, locals := 21 } : Room) s m args below meth c H locs 0 0 Q (F0 m 33 ls [.int k0]) := by
    intro k0 H locs ls hf hP hD hS hl
    unfold m_X7_isPredictedTaken_33 at hf
    obtain ⟨g33, hf⟩ := gd_t hf
    obtain rfl := Option.some.inj hf
    exact hret _ _ _ _ _ dX7_isPredictedTaken_33 g33 rfl hP hD hS
  have J32 : ∀ (H : Heap) (locs : List Loc) (ls : Array Slot), m_X7_isPredictedTaken_32 S_s x1 = some y → va_P D vwCl (wX7 cI cZ cII aS S_thrown S_s S_aside S_saved S_savedMany S_text S_length S_fetched S_predicted S_fetchedMany S_fetchedWay S_spot S_isWrong S_executedByText ++ []) H → va_D A (wX7 cI cZ cII aS S_thrown S_s S_aside S_saved S_savedMany S_text S_length S_fetched S_predicted S_fetchedMany S_fetchedWay S_spot S_isWrong S_executedByText ++ []) → va_S A s.heap H locs → lv_has ls 2 [] → W p l e ({ frames := 1, cells := 0, slots := 0, locals := 21 } : Room) s m args below meth c H locs 0 0 Q (F0 m 32 ls []) := by
    intro  H locs ls hf hP hD hS hl
    unfold m_X7_isPredictedTaken_32 at hf
    refine lv_iconst (v := 0) hx hb dX7_isPredictedTaken_32 (by decide) ?_
    exact J33 (0 : Int32) _ _ _ hf hP hD hS (lv_sub hl [] rfl)
  unfold m_X7_isPredictedTaken at hf
  refine lv_aload_n hx hb dX7_isPredictedTaken_0 rfl (lv_at hl 0 rfl) ?_
  refine va_get (D := D) (ci := 7) (v := .ref (aS 1)) (C := RX7) (T := TX7) (N := 14) hx hb hts inX7 hown hK hP 0 rfl rfl 1 (by decide) kX7_7 (fun _ h9 => h9) rfl dX7_isPredictedTaken_1 ?_
  refine lv_iload_n hx hb dX7_isPredictedTaken_4 rfl (lv_at hl 1 rfl) ?_
  refine lv_iconst (v := 0) hx hb dX7_isPredictedTaken_5 (by decide) ?_
  obtain ⟨y6, h6, hf⟩ := bn_t hf
  refine z_ai (x := []) (b := ([] : va_W)) (y := wX7 cI cZ cII aS S_thrown S_s S_aside S_saved S_savedMany S_text S_length S_fetched S_predicted S_fetchedMany S_fetchedWay S_spot S_isWrong S_executedByText ++ []) (b1 := ([] : va_W)) (wsn := wX7 cI cZ cII aS S_thrown S_s S_aside S_saved S_savedMany S_text S_length S_fetched S_predicted S_fetchedMany S_fetchedWay S_spot S_isWrong S_executedByText ++ []) (va_runS (As := [.int x1, .int (0 : Int32)]) (rest := [.ref (aS 1)]) ⟨hx, hb, hml, hown, hts⟩ (c_X7_of l D cI cZ cII cJ cM x1 (0 : Int32) H.size y6 h6) (va_cwS 2 hts gX7_isPredictedTaken_X7_of rfl rfl rfl (by decide +kernel) ⟨Nat.le_of_ble_eq_true rfl, Nat.le_of_ble_eq_true rfl⟩) (pz_S (x := []) (b := ([] : va_W)) (y := wX7 cI cZ cII aS S_thrown S_s S_aside S_saved S_savedMany S_text S_length S_fetched S_predicted S_fetchedMany S_fetchedWay S_spot S_isWrong S_executedByText ++ []) hK hN hP hD (by simp only [List.append_assoc, List.nil_append, List.append_nil])) rfl rfl hl.1 rfl (lv_room (Nat.le_of_ble_eq_true rfl)) dX7_isPredictedTaken_6 ⟨Nat.le_of_ble_eq_true rfl, Nat.le_of_ble_eq_true rfl⟩) hP hD hS hA (by simp only [List.append_assoc, List.nil_append, List.append_nil]) (by simp only [List.append_assoc, List.nil_append, List.append_nil]) (fun H locs hP hD hS => ?_)
  obtain ⟨g9, hf⟩ := gd_t hf
  refine va_iald hx hb hK hP 1 0 rfl rfl (inb_t g9) dX7_isPredictedTaken_9 ?_
  refine lv_iconst (v := 2) hx hb dX7_isPredictedTaken_10 (by decide) ?_
  refine lv_icmp_ne (tgt := 32) hx hb dX7_isPredictedTaken_11 (by decide) (fun c11 => ?_) (fun c11 => ?_)
  · have hf := if_f c11 hf
    exact J32  _ _ _ hf hP hD hS (lv_sub hl [] rfl)
  · have hf := if_t c11 hf
    refine lv_aload_n hx hb dX7_isPredictedTaken_14 rfl (lv_at hl 0 rfl) ?_
    refine va_get (D := D) (ci := 7) (v := .ref (aS 1)) (C := RX7) (T := TX7) (N := 14) hx hb hts inX7 hown hK hP 0 rfl rfl 1 (by decide) kX7_7 (fun _ h9 => h9) rfl dX7_isPredictedTaken_15 ?_
    refine lv_iload_n hx hb dX7_isPredictedTaken_18 rfl (lv_at hl 1 rfl) ?_
    refine lv_iconst (v := 5) hx hb dX7_isPredictedTaken_19 (by decide) ?_
    obtain ⟨y20, h20, hf⟩ := bn_t hf
    refine z_ai (x := []) (b := ([] : va_W)) (y := wX7 cI cZ cII aS S_thrown S_s S_aside S_saved S_savedMany S_text S_length S_fetched S_predicted S_fetchedMany S_fetchedWay S_spot S_isWrong S_executedByText ++ []) (b1 := ([] : va_W)) (wsn := wX7 cI cZ cII aS S_thrown S_s S_aside S_saved S_savedMany S_text S_length S_fetched S_predicted S_fetchedMany S_fetchedWay S_spot S_isWrong S_executedByText ++ []) (va_runS (As := [.int x1, .int (5 : Int32)]) (rest := [.ref (aS 1)]) ⟨hx, hb, hml, hown, hts⟩ (c_X7_of l D cI cZ cII cJ cM x1 (5 : Int32) H.size y20 h20) (va_cwS 2 hts gX7_isPredictedTaken_X7_of rfl rfl rfl (by decide +kernel) ⟨Nat.le_of_ble_eq_true rfl, Nat.le_of_ble_eq_true rfl⟩) (pz_S (x := []) (b := ([] : va_W)) (y := wX7 cI cZ cII aS S_thrown S_s S_aside S_saved S_savedMany S_text S_length S_fetched S_predicted S_fetchedMany S_fetchedWay S_spot S_isWrong S_executedByText ++ []) hK hN hP hD (by simp only [List.append_assoc, List.nil_append, List.append_nil])) rfl rfl hl.1 rfl (lv_room (Nat.le_of_ble_eq_true rfl)) dX7_isPredictedTaken_20 ⟨Nat.le_of_ble_eq_true rfl, Nat.le_of_ble_eq_true rfl⟩) hP hD hS hA (by simp only [List.append_assoc, List.nil_append, List.append_nil]) (by simp only [List.append_assoc, List.nil_append, List.append_nil]) (fun H locs hP hD hS => ?_)
    obtain ⟨g23, hf⟩ := gd_t hf
    refine va_iald hx hb hK hP 1 0 rfl rfl (inb_t g23) dX7_isPredictedTaken_23 ?_
    refine lv_iconst (v := 1) hx hb dX7_isPredictedTaken_24 (by decide) ?_
    refine lv_icmp_le (tgt := 32) hx hb dX7_isPredictedTaken_25 (by decide) (fun c25 => ?_) (fun c25 => ?_)
    · have hf := if_t c25 hf
      exact J32  _ _ _ hf hP hD hS (lv_sub hl [] rfl)
    · have hf := if_f c25 hf
      refine lv_iconst (v := 1) hx hb dX7_isPredictedTaken_28 (by decide) ?_
      refine lv_goto (tgt := 33) hx hb dX7_isPredictedTaken_29 (by decide) ?_
      exact J33 (1 : Int32) _ _ _ hf hP hD hS (lv_sub hl [] rfl)
set_option maxHeartbeats 8000000 in
set_option maxRecDepth 100000 in
theorem c_X7_successor (l : Launch) (D : va_G) (cI cZ cII cJ cM : ClassId) (aS : Nat → Nat) (S_thrown : Int32) (S_s : Nat → Int32) (S_aside : Nat → Int32) (S_saved : Nat → Int32) (S_savedMany : Int32) (S_text : Nat → Int32) (S_length : Int32) (S_fetched : Nat → Int32) (S_predicted : Nat → Int32) (S_fetchedMany : Int32) (S_fetchedWay : Int32) (S_spot : Int32) (S_isWrong : Int32) (S_executedByText : Int32) (x1 : Int32) (x2 : Int32) (sz : Nat) (y : (Int32)) (hf : m_X7_successor S_s x1 x2 = some y) : Met l yX7_successor wsX7_successor ({ frames := 1, cells := 0, slots := 0, locals := 21 } : Room) (va_Pc [.ref (aS 0), .int x1, .int x2] (pzPre D (zT cI cZ cII cJ cM) (wX7 cI cZ cII aS S_thrown S_s S_aside S_saved S_savedMany S_text S_length S_fetched S_predicted S_fetchedMany S_fetchedWay S_spot S_isWrong S_executedByText ++ []) sz)) (va_Qi (fun v (_ : Unit) => v = y) (fun _ t => pzB D (zT cI cZ cII cJ cM) (va_A (wX7 cI cZ cII aS S_thrown S_s S_aside S_saved S_savedMany S_text S_length S_fetched S_predicted S_fetchedMany S_fetchedWay S_spot S_isWrong S_executedByText ++ []) sz) (wX7 cI cZ cII aS S_thrown S_s S_aside S_saved S_savedMany S_text S_length S_fetched S_predicted S_fetchedMany S_fetchedWay S_spot S_isWrong S_executedByText ++ []) t) (va_A (wX7 cI cZ cII aS S_thrown S_s S_aside S_saved S_savedMany S_text S_length S_fetched S_predicted S_fetchedMany S_fetchedWay S_spot S_isWrong S_executedByText ++ []) sz)) 0 0 (va_A (wX7 cI cZ cII aS S_thrown S_s S_aside S_saved S_savedMany S_text S_length S_fetched S_predicted S_fetchedMany S_fetchedWay S_spot S_isWrong S_executedByText ++ []) sz) := by
  refine z_meti (cc := cX7_successor) (maxL := 4) (by decide) rfl (Nat.le_of_ble_eq_true rfl) ?_
  intro p e s m args below meth c A ls Q H locs F hP hD hS hl hret
  obtain ⟨hx, hb, hml, hown, hts, hN, hK, hA⟩ := F
  have hown : s.vm.findClass RX7 = some m.cls := hown
  have hl : lv_has ls 4 [(0, .ref (aS 0)), (1, .int x1), (2, .int x2)] := hl
  have inX7 : ∀ w ∈ u_ws RX7 TX7 14, w ∈ wsX7_successor := by decide +kernel
  have kX7_7 := hts (.fieldLink RX7 7 "TraceCacheModel" "s" "[I") (by decide +kernel)
  have J42 : ∀ (k0 : Int32) (H : Heap) (locs : List Loc) (ls : Array Slot), m_X7_successor_42 S_s x1 x2 k0 = some y → va_P D vwCl (wX7 cI cZ cII aS S_thrown S_s S_aside S_saved S_savedMany S_text S_length S_fetched S_predicted S_fetchedMany S_fetchedWay S_spot S_isWrong S_executedByText ++ []) H → va_D A (wX7 cI cZ cII aS S_thrown S_s S_aside S_saved S_savedMany S_text S_length S_fetched S_predicted S_fetchedMany S_fetchedWay S_spot S_isWrong S_executedByText ++ []) → va_S A s.heap H locs → lv_has ls 4 [] → W p l e ({ frames := 1, cells := 0, slots := 0, locals := 21 } : Room) s m args below meth c H locs 0 0 Q (F0 m 42 ls [.int k0]) := by
    intro k0 H locs ls hf hP hD hS hl
    unfold m_X7_successor_42 at hf
    obtain rfl := Option.some.inj hf
    exact hret _ _ _ _ _ dX7_successor_42 rfl hP hD hS
  have J25 : ∀ (H : Heap) (locs : List Loc) (ls : Array Slot), m_X7_successor_25 S_s x1 x2 = some y → va_P D vwCl (wX7 cI cZ cII aS S_thrown S_s S_aside S_saved S_savedMany S_text S_length S_fetched S_predicted S_fetchedMany S_fetchedWay S_spot S_isWrong S_executedByText ++ []) H → va_D A (wX7 cI cZ cII aS S_thrown S_s S_aside S_saved S_savedMany S_text S_length S_fetched S_predicted S_fetchedMany S_fetchedWay S_spot S_isWrong S_executedByText ++ []) → va_S A s.heap H locs → lv_has ls 4 [(0, .ref (aS 0)), (1, .int x1)] → W p l e ({ frames := 1, cells := 0, slots := 0, locals := 21 } : Room) s m args below meth c H locs 0 0 Q (F0 m 25 ls []) := by
    intro  H locs ls hf hP hD hS hl
    unfold m_X7_successor_25 at hf
    refine lv_aload_n hx hb dX7_successor_25 rfl (lv_at hl 0 rfl) ?_
    refine va_get (D := D) (ci := 7) (v := .ref (aS 1)) (C := RX7) (T := TX7) (N := 14) hx hb hts inX7 hown hK hP 0 rfl rfl 1 (by decide) kX7_7 (fun _ h9 => h9) rfl dX7_successor_26 ?_
    refine lv_iload_n hx hb dX7_successor_29 rfl (lv_at hl 1 rfl) ?_
    refine lv_iconst (v := 1) hx hb dX7_successor_30 (by decide) ?_
    obtain ⟨y31, h31, hf⟩ := bn_t hf
    refine z_ai (x := []) (b := ([] : va_W)) (y := wX7 cI cZ cII aS S_thrown S_s S_aside S_saved S_savedMany S_text S_length S_fetched S_predicted S_fetchedMany S_fetchedWay S_spot S_isWrong S_executedByText ++ []) (b1 := ([] : va_W)) (wsn := wX7 cI cZ cII aS S_thrown S_s S_aside S_saved S_savedMany S_text S_length S_fetched S_predicted S_fetchedMany S_fetchedWay S_spot S_isWrong S_executedByText ++ []) (va_runS (As := [.int x1, .int (1 : Int32)]) (rest := [.ref (aS 1)]) ⟨hx, hb, hml, hown, hts⟩ (c_X7_of l D cI cZ cII cJ cM x1 (1 : Int32) H.size y31 h31) (va_cwS 2 hts gX7_successor_X7_of rfl rfl rfl (by decide +kernel) ⟨Nat.le_of_ble_eq_true rfl, Nat.le_of_ble_eq_true rfl⟩) (pz_S (x := []) (b := ([] : va_W)) (y := wX7 cI cZ cII aS S_thrown S_s S_aside S_saved S_savedMany S_text S_length S_fetched S_predicted S_fetchedMany S_fetchedWay S_spot S_isWrong S_executedByText ++ []) hK hN hP hD (by simp only [List.append_assoc, List.nil_append, List.append_nil])) rfl rfl hl.1 rfl (lv_room (Nat.le_of_ble_eq_true rfl)) dX7_successor_31 ⟨Nat.le_of_ble_eq_true rfl, Nat.le_of_ble_eq_true rfl⟩) hP hD hS hA (by simp only [List.append_assoc, List.nil_append, List.append_nil]) (by simp only [List.append_assoc, List.nil_append, List.append_nil]) (fun H locs hP hD hS => ?_)
    obtain ⟨g34, hf⟩ := gd_t hf
    refine va_iald hx hb hK hP 1 0 rfl rfl (inb_t g34) dX7_successor_34 ?_
    refine lv_goto (tgt := 42) hx hb dX7_successor_35 (by decide) ?_
    exact J42 (S_s (Int32.toNatClampNeg y31)) _ _ _ hf hP hD hS (lv_sub hl [] rfl)
  have J38 : ∀ (H : Heap) (locs : List Loc) (ls : Array Slot), m_X7_successor_38 S_s x1 x2 = some y → va_P D vwCl (wX7 cI cZ cII aS S_thrown S_s S_aside S_saved S_savedMany S_text S_length S_fetched S_predicted S_fetchedMany S_fetchedWay S_spot S_isWrong S_executedByText ++ []) H → va_D A (wX7 cI cZ cII aS S_thrown S_s S_aside S_saved S_savedMany S_text S_length S_fetched S_predicted S_fetchedMany S_fetchedWay S_spot S_isWrong S_executedByText ++ []) → va_S A s.heap H locs → lv_has ls 4 [(1, .int x1)] → W p l e ({ frames := 1, cells := 0, slots := 0, locals := 21 } : Room) s m args below meth c H locs 0 0 Q (F0 m 38 ls []) := by
    intro  H locs ls hf hP hD hS hl
    unfold m_X7_successor_38 at hf
    refine lv_iload_n hx hb dX7_successor_38 rfl (lv_at hl 0 rfl) ?_
    obtain ⟨y39, h39, hf⟩ := bn_t hf
    refine z_ai (x := []) (b := ([] : va_W)) (y := wX7 cI cZ cII aS S_thrown S_s S_aside S_saved S_savedMany S_text S_length S_fetched S_predicted S_fetchedMany S_fetchedWay S_spot S_isWrong S_executedByText ++ []) (b1 := ([] : va_W)) (wsn := wX7 cI cZ cII aS S_thrown S_s S_aside S_saved S_savedMany S_text S_length S_fetched S_predicted S_fetchedMany S_fetchedWay S_spot S_isWrong S_executedByText ++ []) (va_runS (As := [.int x1]) (rest := []) ⟨hx, hb, hml, hown, hts⟩ (c_X7_after l D cI cZ cII cJ cM x1 H.size y39 h39) (va_cwS 1 hts gX7_successor_X7_after rfl rfl rfl (by decide +kernel) ⟨Nat.le_of_ble_eq_true rfl, Nat.le_of_ble_eq_true rfl⟩) (pz_S (x := []) (b := ([] : va_W)) (y := wX7 cI cZ cII aS S_thrown S_s S_aside S_saved S_savedMany S_text S_length S_fetched S_predicted S_fetchedMany S_fetchedWay S_spot S_isWrong S_executedByText ++ []) hK hN hP hD (by simp only [List.append_assoc, List.nil_append, List.append_nil])) rfl rfl hl.1 rfl (lv_room (Nat.le_of_ble_eq_true rfl)) dX7_successor_39 ⟨Nat.le_of_ble_eq_true rfl, Nat.le_of_ble_eq_true rfl⟩) hP hD hS hA (by simp only [List.append_assoc, List.nil_append, List.append_nil]) (by simp only [List.append_assoc, List.nil_append, List.append_nil]) (fun H locs hP hD hS => ?_)
    exact J42 y39 _ _ _ hf hP hD hS (lv_sub hl [] rfl)
  unfold m_X7_successor at hf
  refine lv_aload_n hx hb dX7_successor_0 rfl (lv_at hl 0 rfl) ?_
  refine va_get (D := D) (ci := 7) (v := .ref (aS 1)) (C := RX7) (T := TX7) (N := 14) hx hb hts inX7 hown hK hP 0 rfl rfl 1 (by decide) kX7_7 (fun _ h9 => h9) rfl dX7_successor_1 ?_
  refine lv_iload_n hx hb dX7_successor_4 rfl (lv_at hl 1 rfl) ?_
  refine lv_iconst (v := 0) hx hb dX7_successor_5 (by decide) ?_
  obtain ⟨y6, h6, hf⟩ := bn_t hf
  refine z_ai (x := []) (b := ([] : va_W)) (y := wX7 cI cZ cII aS S_thrown S_s S_aside S_saved S_savedMany S_text S_length S_fetched S_predicted S_fetchedMany S_fetchedWay S_spot S_isWrong S_executedByText ++ []) (b1 := ([] : va_W)) (wsn := wX7 cI cZ cII aS S_thrown S_s S_aside S_saved S_savedMany S_text S_length S_fetched S_predicted S_fetchedMany S_fetchedWay S_spot S_isWrong S_executedByText ++ []) (va_runS (As := [.int x1, .int (0 : Int32)]) (rest := [.ref (aS 1)]) ⟨hx, hb, hml, hown, hts⟩ (c_X7_of l D cI cZ cII cJ cM x1 (0 : Int32) H.size y6 h6) (va_cwS 2 hts gX7_successor_X7_of rfl rfl rfl (by decide +kernel) ⟨Nat.le_of_ble_eq_true rfl, Nat.le_of_ble_eq_true rfl⟩) (pz_S (x := []) (b := ([] : va_W)) (y := wX7 cI cZ cII aS S_thrown S_s S_aside S_saved S_savedMany S_text S_length S_fetched S_predicted S_fetchedMany S_fetchedWay S_spot S_isWrong S_executedByText ++ []) hK hN hP hD (by simp only [List.append_assoc, List.nil_append, List.append_nil])) rfl rfl hl.1 rfl (lv_room (Nat.le_of_ble_eq_true rfl)) dX7_successor_6 ⟨Nat.le_of_ble_eq_true rfl, Nat.le_of_ble_eq_true rfl⟩) hP hD hS hA (by simp only [List.append_assoc, List.nil_append, List.append_nil]) (by simp only [List.append_assoc, List.nil_append, List.append_nil]) (fun H locs hP hD hS => ?_)
  obtain ⟨g9, hf⟩ := gd_t hf
  refine va_iald hx hb hK hP 1 0 rfl rfl (inb_t g9) dX7_successor_9 ?_
  refine lv_topi (fun v10 ev10 => ?_)
  have hf := bd_t ev10 hf
  refine lv_istore_n (lv' := [(3, .int v10), (0, .ref (aS 0)), (1, .int x1), (2, .int x2)]) hx hb dX7_successor_10 rfl hl (by decide) rfl (fun ls hl => ?_)
  refine lv_iload_n hx hb dX7_successor_11 rfl (lv_at hl 0 rfl) ?_
  refine lv_iconst (v := 1) hx hb dX7_successor_12 (by decide) ?_
  refine lv_icmp_eq (tgt := 25) hx hb dX7_successor_13 (by decide) (fun c13 => ?_) (fun c13 => ?_)
  · have hf := if_t c13 hf
    exact J25  _ _ _ hf hP hD hS (lv_sub hl [1, 2] rfl)
  · have hf := if_f c13 hf
    refine lv_iload_n hx hb dX7_successor_16 rfl (lv_at hl 0 rfl) ?_
    refine lv_iconst (v := 2) hx hb dX7_successor_17 (by decide) ?_
    refine lv_icmp_ne (tgt := 38) hx hb dX7_successor_18 (by decide) (fun c18 => ?_) (fun c18 => ?_)
    · have hf := if_f c18 hf
      exact J38  _ _ _ hf hP hD hS (lv_sub hl [2] rfl)
    · have hf := if_t c18 hf
      refine lv_iload_n hx hb dX7_successor_21 rfl (lv_at hl 3 rfl) ?_
      refine lv_if_eq (tgt := 38) hx hb dX7_successor_22 (by decide) (fun c22 => ?_) (fun c22 => ?_)
      · have hf := if_t c22 hf
        exact J38  _ _ _ hf hP hD hS (lv_sub hl [2] rfl)
      · have hf := if_f c22 hf
        exact J25  _ _ _ hf hP hD hS (lv_sub hl [1, 2] rfl)
set_option maxHeartbeats 8000000 in
set_option maxRecDepth 100000 in
theorem c_X7_predictedSuccessor (l : Launch) (D : va_G) (cI cZ cII cJ cM : ClassId) (aS : Nat → Nat) (S_thrown : Int32) (S_s : Nat → Int32) (S_aside : Nat → Int32) (S_saved : Nat → Int32) (S_savedMany : Int32) (S_text : Nat → Int32) (S_length : Int32) (S_fetched : Nat → Int32) (S_predicted : Nat → Int32) (S_fetchedMany : Int32) (S_fetchedWay : Int32) (S_spot : Int32) (S_isWrong : Int32) (S_executedByText : Int32) (x1 : Int32) (sz : Nat) (y : (Int32)) (hf : m_X7_predictedSuccessor S_s x1 = some y) : Met l yX7_predictedSuccessor wsX7_predictedSuccessor ({ frames := 2, cells := 0, slots := 0, locals := 44 } : Room) (va_Pc [.ref (aS 0), .int x1] (pzPre D (zT cI cZ cII cJ cM) (wX7 cI cZ cII aS S_thrown S_s S_aside S_saved S_savedMany S_text S_length S_fetched S_predicted S_fetchedMany S_fetchedWay S_spot S_isWrong S_executedByText ++ []) sz)) (va_Qi (fun v (_ : Unit) => v = y) (fun _ t => pzB D (zT cI cZ cII cJ cM) (va_A (wX7 cI cZ cII aS S_thrown S_s S_aside S_saved S_savedMany S_text S_length S_fetched S_predicted S_fetchedMany S_fetchedWay S_spot S_isWrong S_executedByText ++ []) sz) (wX7 cI cZ cII aS S_thrown S_s S_aside S_saved S_savedMany S_text S_length S_fetched S_predicted S_fetchedMany S_fetchedWay S_spot S_isWrong S_executedByText ++ []) t) (va_A (wX7 cI cZ cII aS S_thrown S_s S_aside S_saved S_savedMany S_text S_length S_fetched S_predicted S_fetchedMany S_fetchedWay S_spot S_isWrong S_executedByText ++ []) sz)) 0 0 (va_A (wX7 cI cZ cII aS S_thrown S_s S_aside S_saved S_savedMany S_text S_length S_fetched S_predicted S_fetchedMany S_fetchedWay S_spot S_isWrong S_executedByText ++ []) sz) := by
  refine z_meti (cc := cX7_predictedSuccessor) (maxL := 2) (by decide) rfl (Nat.le_of_ble_eq_true rfl) ?_
  intro p e s m args below meth c A ls Q H locs F hP hD hS hl hret
  obtain ⟨hx, hb, hml, hown, hts, hN, hK, hA⟩ := F
  have hown : s.vm.findClass RX7 = some m.cls := hown
  have hl : lv_has ls 2 [(0, .ref (aS 0)), (1, .int x1)] := hl
  unfold m_X7_predictedSuccessor at hf
  refine lv_aload_n hx hb dX7_predictedSuccessor_0 rfl (lv_at hl 0 rfl) ?_
  refine lv_iload_n hx hb dX7_predictedSuccessor_1 rfl (lv_at hl 1 rfl) ?_
  refine lv_aload_n hx hb dX7_predictedSuccessor_2 rfl (lv_at hl 0 rfl) ?_
  refine lv_iload_n hx hb dX7_predictedSuccessor_3 rfl (lv_at hl 1 rfl) ?_
  obtain ⟨y4, h4, hf⟩ := bn_t hf
  refine z_ai (x := []) (b := wX7 cI cZ cII aS S_thrown S_s S_aside S_saved S_savedMany S_text S_length S_fetched S_predicted S_fetchedMany S_fetchedWay S_spot S_isWrong S_executedByText ++ []) (y := ([] : va_W)) (b1 := wX7 cI cZ cII aS S_thrown S_s S_aside S_saved S_savedMany S_text S_length S_fetched S_predicted S_fetchedMany S_fetchedWay S_spot S_isWrong S_executedByText ++ []) (wsn := wX7 cI cZ cII aS S_thrown S_s S_aside S_saved S_savedMany S_text S_length S_fetched S_predicted S_fetchedMany S_fetchedWay S_spot S_isWrong S_executedByText ++ []) (va_runV (As := [.int x1]) (rest := [.int x1, .ref (aS 0)]) ⟨hx, hb, hml, hown, hts⟩ (c_X7_isPredictedTaken l D cI cZ cII cJ cM aS S_thrown S_s S_aside S_saved S_savedMany S_text S_length S_fetched S_predicted S_fetchedMany S_fetchedWay S_spot S_isWrong S_executedByText x1 H.size y4 h4) (cwV 1 hts gX7_predictedSuccessor_X7_isPredictedTaken rfl rfl rfl (by decide +kernel) ⟨Nat.le_of_ble_eq_true rfl, Nat.le_of_ble_eq_true rfl⟩) (pz_V (x := []) (b := wX7 cI cZ cII aS S_thrown S_s S_aside S_saved S_savedMany S_text S_length S_fetched S_predicted S_fetchedMany S_fetchedWay S_spot S_isWrong S_executedByText ++ []) (y := ([] : va_W)) (C := RX7) (T := TX7) (N := 14) (ci := 7) (As := [.int x1]) (bi := 0) hK hN hP hD (by simp only [List.append_assoc, List.nil_append, List.append_nil]) rfl rfl) rfl rfl hl.1 rfl (lv_room (Nat.le_of_ble_eq_true rfl)) dX7_predictedSuccessor_4 ⟨Nat.le_of_ble_eq_true rfl, Nat.le_of_ble_eq_true rfl⟩) hP hD hS hA (by simp only [List.append_assoc, List.nil_append, List.append_nil]) (by simp only [List.append_assoc, List.nil_append, List.append_nil]) (fun H locs hP hD hS => ?_)
  obtain ⟨y7, h7, hf⟩ := bn_t hf
  refine z_ai (x := []) (b := wX7 cI cZ cII aS S_thrown S_s S_aside S_saved S_savedMany S_text S_length S_fetched S_predicted S_fetchedMany S_fetchedWay S_spot S_isWrong S_executedByText ++ []) (y := ([] : va_W)) (b1 := wX7 cI cZ cII aS S_thrown S_s S_aside S_saved S_savedMany S_text S_length S_fetched S_predicted S_fetchedMany S_fetchedWay S_spot S_isWrong S_executedByText ++ []) (wsn := wX7 cI cZ cII aS S_thrown S_s S_aside S_saved S_savedMany S_text S_length S_fetched S_predicted S_fetchedMany S_fetchedWay S_spot S_isWrong S_executedByText ++ []) (va_runV (As := [.int x1, .int y4]) (rest := []) ⟨hx, hb, hml, hown, hts⟩ (c_X7_successor l D cI cZ cII cJ cM aS S_thrown S_s S_aside S_saved S_savedMany S_text S_length S_fetched S_predicted S_fetchedMany S_fetchedWay S_spot S_isWrong S_executedByText x1 y4 H.size y7 h7) (cwV 2 hts gX7_predictedSuccessor_X7_successor rfl rfl rfl (by decide +kernel) ⟨Nat.le_of_ble_eq_true rfl, Nat.le_of_ble_eq_true rfl⟩) (pz_V (x := []) (b := wX7 cI cZ cII aS S_thrown S_s S_aside S_saved S_savedMany S_text S_length S_fetched S_predicted S_fetchedMany S_fetchedWay S_spot S_isWrong S_executedByText ++ []) (y := ([] : va_W)) (C := RX7) (T := TX7) (N := 14) (ci := 7) (As := [.int x1, .int y4]) (bi := 0) hK hN hP hD (by simp only [List.append_assoc, List.nil_append, List.append_nil]) rfl rfl) rfl rfl hl.1 rfl (lv_room (Nat.le_of_ble_eq_true rfl)) dX7_predictedSuccessor_7 ⟨Nat.le_of_ble_eq_true rfl, Nat.le_of_ble_eq_true rfl⟩) hP hD hS hA (by simp only [List.append_assoc, List.nil_append, List.append_nil]) (by simp only [List.append_assoc, List.nil_append, List.append_nil]) (fun H locs hP hD hS => ?_)
  obtain rfl := Option.some.inj hf
  exact hret _ _ _ _ _ dX7_predictedSuccessor_10 rfl hP hD hS
set_option maxHeartbeats 8000000 in
set_option maxRecDepth 100000 in
theorem c_X7_isTakenNow (l : Launch) (D : va_G) (cI cZ cII cJ cM : ClassId) (aS : Nat → Nat) (S_thrown : Int32) (S_s : Nat → Int32) (S_aside : Nat → Int32) (S_saved : Nat → Int32) (S_savedMany : Int32) (S_text : Nat → Int32) (S_length : Int32) (S_fetched : Nat → Int32) (S_predicted : Nat → Int32) (S_fetchedMany : Int32) (S_fetchedWay : Int32) (S_spot : Int32) (S_isWrong : Int32) (S_executedByText : Int32) (x1 : Int32) (sz : Nat) (y : (Int32)) (hf : m_X7_isTakenNow S_s x1 = some y) : Met l yX7_isTakenNow wsX7_isTakenNow ({ frames := 1, cells := 0, slots := 0, locals := 21 } : Room) (va_Pc [.ref (aS 0), .int x1] (pzPre D (zT cI cZ cII cJ cM) (wX7 cI cZ cII aS S_thrown S_s S_aside S_saved S_savedMany S_text S_length S_fetched S_predicted S_fetchedMany S_fetchedWay S_spot S_isWrong S_executedByText ++ []) sz)) (va_Qi (fun v (_ : Unit) => v = y) (fun _ t => pzB D (zT cI cZ cII cJ cM) (va_A (wX7 cI cZ cII aS S_thrown S_s S_aside S_saved S_savedMany S_text S_length S_fetched S_predicted S_fetchedMany S_fetchedWay S_spot S_isWrong S_executedByText ++ []) sz) (wX7 cI cZ cII aS S_thrown S_s S_aside S_saved S_savedMany S_text S_length S_fetched S_predicted S_fetchedMany S_fetchedWay S_spot S_isWrong S_executedByText ++ []) t) (va_A (wX7 cI cZ cII aS S_thrown S_s S_aside S_saved S_savedMany S_text S_length S_fetched S_predicted S_fetchedMany S_fetchedWay S_spot S_isWrong S_executedByText ++ []) sz)) 0 0 (va_A (wX7 cI cZ cII aS S_thrown S_s S_aside S_saved S_savedMany S_text S_length S_fetched S_predicted S_fetchedMany S_fetchedWay S_spot S_isWrong S_executedByText ++ []) sz) := by
  refine z_metz (cc := cX7_isTakenNow) (maxL := 3) (by decide) rfl (Nat.le_of_ble_eq_true rfl) ?_
  intro p e s m args below meth c A ls Q H locs F hP hD hS hl hret
  obtain ⟨hx, hb, hml, hown, hts, hN, hK, hA⟩ := F
  have hown : s.vm.findClass RX7 = some m.cls := hown
  have hl : lv_has ls 3 [(0, .ref (aS 0)), (1, .int x1)] := hl
  have inX7 : ∀ w ∈ u_ws RX7 TX7 14, w ∈ wsX7_isTakenNow := by decide +kernel
  have kX7_7 := hts (.fieldLink RX7 7 "TraceCacheModel" "s" "[I") (by decide +kernel)
  have J59 : ∀ (k0 : Int32) (H : Heap) (locs : List Loc) (ls : Array Slot), m_X7_isTakenNow_59 S_s x1 k0 = some y → va_P D vwCl (wX7 cI cZ cII aS S_thrown S_s S_aside S_saved S_savedMany S_text S_length S_fetched S_predicted S_fetchedMany S_fetchedWay S_spot S_isWrong S_executedByText ++ []) H → va_D A (wX7 cI cZ cII aS S_thrown S_s S_aside S_saved S_savedMany S_text S_length S_fetched S_predicted S_fetchedMany S_fetchedWay S_spot S_isWrong S_executedByText ++ []) → va_S A s.heap H locs → lv_has ls 3 [] → W p l e ({ frames := 1, cells := 0, slots := 0, locals := 21 } : Room) s m args below meth c H locs 0 0 Q (F0 m 59 ls [.int k0]) := by
    intro k0 H locs ls hf hP hD hS hl
    unfold m_X7_isTakenNow_59 at hf
    obtain ⟨g59, hf⟩ := gd_t hf
    obtain rfl := Option.some.inj hf
    exact hret _ _ _ _ _ dX7_isTakenNow_59 g59 rfl hP hD hS
  have J58 : ∀ (H : Heap) (locs : List Loc) (ls : Array Slot), m_X7_isTakenNow_58 S_s x1 = some y → va_P D vwCl (wX7 cI cZ cII aS S_thrown S_s S_aside S_saved S_savedMany S_text S_length S_fetched S_predicted S_fetchedMany S_fetchedWay S_spot S_isWrong S_executedByText ++ []) H → va_D A (wX7 cI cZ cII aS S_thrown S_s S_aside S_saved S_savedMany S_text S_length S_fetched S_predicted S_fetchedMany S_fetchedWay S_spot S_isWrong S_executedByText ++ []) → va_S A s.heap H locs → lv_has ls 3 [] → W p l e ({ frames := 1, cells := 0, slots := 0, locals := 21 } : Room) s m args below meth c H locs 0 0 Q (F0 m 58 ls []) := by
    intro  H locs ls hf hP hD hS hl
    unfold m_X7_isTakenNow_58 at hf
    refine lv_iconst (v := 0) hx hb dX7_isTakenNow_58 (by decide) ?_
    exact J59 (0 : Int32) _ _ _ hf hP hD hS (lv_sub hl [] rfl)
  unfold m_X7_isTakenNow at hf
  refine lv_aload_n hx hb dX7_isTakenNow_0 rfl (lv_at hl 0 rfl) ?_
  refine va_get (D := D) (ci := 7) (v := .ref (aS 1)) (C := RX7) (T := TX7) (N := 14) hx hb hts inX7 hown hK hP 0 rfl rfl 1 (by decide) kX7_7 (fun _ h9 => h9) rfl dX7_isTakenNow_1 ?_
  refine lv_iload_n hx hb dX7_isTakenNow_4 rfl (lv_at hl 1 rfl) ?_
  refine lv_iconst (v := 4) hx hb dX7_isTakenNow_5 (by decide) ?_
  obtain ⟨y6, h6, hf⟩ := bn_t hf
  refine z_ai (x := []) (b := ([] : va_W)) (y := wX7 cI cZ cII aS S_thrown S_s S_aside S_saved S_savedMany S_text S_length S_fetched S_predicted S_fetchedMany S_fetchedWay S_spot S_isWrong S_executedByText ++ []) (b1 := ([] : va_W)) (wsn := wX7 cI cZ cII aS S_thrown S_s S_aside S_saved S_savedMany S_text S_length S_fetched S_predicted S_fetchedMany S_fetchedWay S_spot S_isWrong S_executedByText ++ []) (va_runS (As := [.int x1, .int (4 : Int32)]) (rest := [.ref (aS 1)]) ⟨hx, hb, hml, hown, hts⟩ (c_X7_of l D cI cZ cII cJ cM x1 (4 : Int32) H.size y6 h6) (va_cwS 2 hts gX7_isTakenNow_X7_of rfl rfl rfl (by decide +kernel) ⟨Nat.le_of_ble_eq_true rfl, Nat.le_of_ble_eq_true rfl⟩) (pz_S (x := []) (b := ([] : va_W)) (y := wX7 cI cZ cII aS S_thrown S_s S_aside S_saved S_savedMany S_text S_length S_fetched S_predicted S_fetchedMany S_fetchedWay S_spot S_isWrong S_executedByText ++ []) hK hN hP hD (by simp only [List.append_assoc, List.nil_append, List.append_nil])) rfl rfl hl.1 rfl (lv_room (Nat.le_of_ble_eq_true rfl)) dX7_isTakenNow_6 ⟨Nat.le_of_ble_eq_true rfl, Nat.le_of_ble_eq_true rfl⟩) hP hD hS hA (by simp only [List.append_assoc, List.nil_append, List.append_nil]) (by simp only [List.append_assoc, List.nil_append, List.append_nil]) (fun H locs hP hD hS => ?_)
  obtain ⟨g9, hf⟩ := gd_t hf
  refine va_iald hx hb hK hP 1 0 rfl rfl (inb_t g9) dX7_isTakenNow_9 ?_
  refine lv_aload_n hx hb dX7_isTakenNow_10 rfl (lv_at hl 0 rfl) ?_
  refine va_get (D := D) (ci := 7) (v := .ref (aS 1)) (C := RX7) (T := TX7) (N := 14) hx hb hts inX7 hown hK hP 0 rfl rfl 1 (by decide) kX7_7 (fun _ h9 => h9) rfl dX7_isTakenNow_11 ?_
  refine lv_iload_n hx hb dX7_isTakenNow_14 rfl (lv_at hl 1 rfl) ?_
  refine lv_iconst (v := 3) hx hb dX7_isTakenNow_15 (by decide) ?_
  obtain ⟨y16, h16, hf⟩ := bn_t hf
  refine z_ai (x := []) (b := ([] : va_W)) (y := wX7 cI cZ cII aS S_thrown S_s S_aside S_saved S_savedMany S_text S_length S_fetched S_predicted S_fetchedMany S_fetchedWay S_spot S_isWrong S_executedByText ++ []) (b1 := ([] : va_W)) (wsn := wX7 cI cZ cII aS S_thrown S_s S_aside S_saved S_savedMany S_text S_length S_fetched S_predicted S_fetchedMany S_fetchedWay S_spot S_isWrong S_executedByText ++ []) (va_runS (As := [.int x1, .int (3 : Int32)]) (rest := [.ref (aS 1), .int (S_s (Int32.toNatClampNeg y6))]) ⟨hx, hb, hml, hown, hts⟩ (c_X7_of l D cI cZ cII cJ cM x1 (3 : Int32) H.size y16 h16) (va_cwS 2 hts gX7_isTakenNow_X7_of rfl rfl rfl (by decide +kernel) ⟨Nat.le_of_ble_eq_true rfl, Nat.le_of_ble_eq_true rfl⟩) (pz_S (x := []) (b := ([] : va_W)) (y := wX7 cI cZ cII aS S_thrown S_s S_aside S_saved S_savedMany S_text S_length S_fetched S_predicted S_fetchedMany S_fetchedWay S_spot S_isWrong S_executedByText ++ []) hK hN hP hD (by simp only [List.append_assoc, List.nil_append, List.append_nil])) rfl rfl hl.1 rfl (lv_room (Nat.le_of_ble_eq_true rfl)) dX7_isTakenNow_16 ⟨Nat.le_of_ble_eq_true rfl, Nat.le_of_ble_eq_true rfl⟩) hP hD hS hA (by simp only [List.append_assoc, List.nil_append, List.append_nil]) (by simp only [List.append_assoc, List.nil_append, List.append_nil]) (fun H locs hP hD hS => ?_)
  obtain ⟨g19, hf⟩ := gd_t hf
  refine va_iald hx hb hK hP 1 0 rfl rfl (inb_t g19) dX7_isTakenNow_19 ?_
  obtain ⟨g20, hf⟩ := gd_t hf
  refine lv_irem hx hb dX7_isTakenNow_20 (nzb_t g20) ?_
  refine lv_topi (fun v21 ev21 => ?_)
  have hf := bd_t ev21 hf
  refine lv_istore_n (lv' := [(2, .int v21), (0, .ref (aS 0)), (1, .int x1)]) hx hb dX7_isTakenNow_21 rfl hl (by decide) rfl (fun ls hl => ?_)
  refine lv_aload_n hx hb dX7_isTakenNow_22 rfl (lv_at hl 1 rfl) ?_
  refine va_get (D := D) (ci := 7) (v := .ref (aS 1)) (C := RX7) (T := TX7) (N := 14) hx hb hts inX7 hown hK hP 0 rfl rfl 1 (by decide) kX7_7 (fun _ h9 => h9) rfl dX7_isTakenNow_23 ?_
  refine lv_iload_n hx hb dX7_isTakenNow_26 rfl (lv_at hl 2 rfl) ?_
  refine lv_iconst (v := 0) hx hb dX7_isTakenNow_27 (by decide) ?_
  obtain ⟨y28, h28, hf⟩ := bn_t hf
  refine z_ai (x := []) (b := ([] : va_W)) (y := wX7 cI cZ cII aS S_thrown S_s S_aside S_saved S_savedMany S_text S_length S_fetched S_predicted S_fetchedMany S_fetchedWay S_spot S_isWrong S_executedByText ++ []) (b1 := ([] : va_W)) (wsn := wX7 cI cZ cII aS S_thrown S_s S_aside S_saved S_savedMany S_text S_length S_fetched S_predicted S_fetchedMany S_fetchedWay S_spot S_isWrong S_executedByText ++ []) (va_runS (As := [.int x1, .int (0 : Int32)]) (rest := [.ref (aS 1)]) ⟨hx, hb, hml, hown, hts⟩ (c_X7_of l D cI cZ cII cJ cM x1 (0 : Int32) H.size y28 h28) (va_cwS 2 hts gX7_isTakenNow_X7_of rfl rfl rfl (by decide +kernel) ⟨Nat.le_of_ble_eq_true rfl, Nat.le_of_ble_eq_true rfl⟩) (pz_S (x := []) (b := ([] : va_W)) (y := wX7 cI cZ cII aS S_thrown S_s S_aside S_saved S_savedMany S_text S_length S_fetched S_predicted S_fetchedMany S_fetchedWay S_spot S_isWrong S_executedByText ++ []) hK hN hP hD (by simp only [List.append_assoc, List.nil_append, List.append_nil])) rfl rfl hl.1 rfl (lv_room (Nat.le_of_ble_eq_true rfl)) dX7_isTakenNow_28 ⟨Nat.le_of_ble_eq_true rfl, Nat.le_of_ble_eq_true rfl⟩) hP hD hS hA (by simp only [List.append_assoc, List.nil_append, List.append_nil]) (by simp only [List.append_assoc, List.nil_append, List.append_nil]) (fun H locs hP hD hS => ?_)
  obtain ⟨g31, hf⟩ := gd_t hf
  refine va_iald hx hb hK hP 1 0 rfl rfl (inb_t g31) dX7_isTakenNow_31 ?_
  refine lv_iconst (v := 2) hx hb dX7_isTakenNow_32 (by decide) ?_
  refine lv_icmp_ne (tgt := 58) hx hb dX7_isTakenNow_33 (by decide) (fun c33 => ?_) (fun c33 => ?_)
  · have hf := if_f c33 hf
    exact J58  _ _ _ hf hP hD hS (lv_sub hl [] rfl)
  · have hf := if_t c33 hf
    refine lv_aload_n hx hb dX7_isTakenNow_36 rfl (lv_at hl 1 rfl) ?_
    refine va_get (D := D) (ci := 7) (v := .ref (aS 1)) (C := RX7) (T := TX7) (N := 14) hx hb hts inX7 hown hK hP 0 rfl rfl 1 (by decide) kX7_7 (fun _ h9 => h9) rfl dX7_isTakenNow_37 ?_
    refine lv_iload_n hx hb dX7_isTakenNow_40 rfl (lv_at hl 2 rfl) ?_
    refine lv_iconst (v := 2) hx hb dX7_isTakenNow_41 (by decide) ?_
    obtain ⟨y42, h42, hf⟩ := bn_t hf
    refine z_ai (x := []) (b := ([] : va_W)) (y := wX7 cI cZ cII aS S_thrown S_s S_aside S_saved S_savedMany S_text S_length S_fetched S_predicted S_fetchedMany S_fetchedWay S_spot S_isWrong S_executedByText ++ []) (b1 := ([] : va_W)) (wsn := wX7 cI cZ cII aS S_thrown S_s S_aside S_saved S_savedMany S_text S_length S_fetched S_predicted S_fetchedMany S_fetchedWay S_spot S_isWrong S_executedByText ++ []) (va_runS (As := [.int x1, .int (2 : Int32)]) (rest := [.ref (aS 1)]) ⟨hx, hb, hml, hown, hts⟩ (c_X7_of l D cI cZ cII cJ cM x1 (2 : Int32) H.size y42 h42) (va_cwS 2 hts gX7_isTakenNow_X7_of rfl rfl rfl (by decide +kernel) ⟨Nat.le_of_ble_eq_true rfl, Nat.le_of_ble_eq_true rfl⟩) (pz_S (x := []) (b := ([] : va_W)) (y := wX7 cI cZ cII aS S_thrown S_s S_aside S_saved S_savedMany S_text S_length S_fetched S_predicted S_fetchedMany S_fetchedWay S_spot S_isWrong S_executedByText ++ []) hK hN hP hD (by simp only [List.append_assoc, List.nil_append, List.append_nil])) rfl rfl hl.1 rfl (lv_room (Nat.le_of_ble_eq_true rfl)) dX7_isTakenNow_42 ⟨Nat.le_of_ble_eq_true rfl, Nat.le_of_ble_eq_true rfl⟩) hP hD hS hA (by simp only [List.append_assoc, List.nil_append, List.append_nil]) (by simp only [List.append_assoc, List.nil_append, List.append_nil]) (fun H locs hP hD hS => ?_)
    obtain ⟨g45, hf⟩ := gd_t hf
    refine va_iald hx hb hK hP 1 0 rfl rfl (inb_t g45) dX7_isTakenNow_45 ?_
    refine lv_iload_n hx hb dX7_isTakenNow_46 rfl (lv_at hl 0 rfl) ?_
    refine lv_ishr hx hb dX7_isTakenNow_47 ?_
    refine lv_iconst (v := 1) hx hb dX7_isTakenNow_48 (by decide) ?_
    refine lv_iand hx hb dX7_isTakenNow_49 ?_
    refine lv_iconst (v := 1) hx hb dX7_isTakenNow_50 (by decide) ?_
    refine lv_icmp_ne (tgt := 58) hx hb dX7_isTakenNow_51 (by decide) (fun c51 => ?_) (fun c51 => ?_)
    · have hf := if_f c51 hf
      exact J58  _ _ _ hf hP hD hS (lv_sub hl [] rfl)
    · have hf := if_t c51 hf
      refine lv_iconst (v := 1) hx hb dX7_isTakenNow_54 (by decide) ?_
      refine lv_goto (tgt := 59) hx hb dX7_isTakenNow_55 (by decide) ?_
      exact J59 (1 : Int32) _ _ _ hf hP hD hS (lv_sub hl [] rfl)
set_option maxHeartbeats 8000000 in
set_option maxRecDepth 100000 in
theorem c_X7_usable (l : Launch) (D : va_G) (cI cZ cII cJ cM : ClassId) (aS : Nat → Nat) (S_thrown : Int32) (S_s : Nat → Int32) (S_aside : Nat → Int32) (S_saved : Nat → Int32) (S_savedMany : Int32) (S_text : Nat → Int32) (S_length : Int32) (S_fetched : Nat → Int32) (S_predicted : Nat → Int32) (S_fetchedMany : Int32) (S_fetchedWay : Int32) (S_spot : Int32) (S_isWrong : Int32) (S_executedByText : Int32) (x1 : Int32) (sz : Nat) (y : (Int32)) (hf : m_X7_usable S_s x1 = some y) : Met l yX7_usable wsX7_usable ({ frames := 3, cells := 0, slots := 0, locals := 65 } : Room) (va_Pc [.ref (aS 0), .int x1] (pzPre D (zT cI cZ cII cJ cM) (wX7 cI cZ cII aS S_thrown S_s S_aside S_saved S_savedMany S_text S_length S_fetched S_predicted S_fetchedMany S_fetchedWay S_spot S_isWrong S_executedByText ++ []) sz)) (va_Qi (fun v (_ : Unit) => v = y) (fun _ t => pzB D (zT cI cZ cII cJ cM) (va_A (wX7 cI cZ cII aS S_thrown S_s S_aside S_saved S_savedMany S_text S_length S_fetched S_predicted S_fetchedMany S_fetchedWay S_spot S_isWrong S_executedByText ++ []) sz) (wX7 cI cZ cII aS S_thrown S_s S_aside S_saved S_savedMany S_text S_length S_fetched S_predicted S_fetchedMany S_fetchedWay S_spot S_isWrong S_executedByText ++ []) t) (va_A (wX7 cI cZ cII aS S_thrown S_s S_aside S_saved S_savedMany S_text S_length S_fetched S_predicted S_fetchedMany S_fetchedWay S_spot S_isWrong S_executedByText ++ []) sz)) 0 0 (va_A (wX7 cI cZ cII aS S_thrown S_s S_aside S_saved S_savedMany S_text S_length S_fetched S_predicted S_fetchedMany S_fetchedWay S_spot S_isWrong S_executedByText ++ []) sz) := by
  refine z_meti (cc := cX7_usable) (maxL := 4) (by decide) rfl (Nat.le_of_ble_eq_true rfl) ?_
  intro p e s m args below meth c A ls Q H locs F hP hD hS hl hret
  obtain ⟨hx, hb, hml, hown, hts, hN, hK, hA⟩ := F
  have hown : s.vm.findClass RX7 = some m.cls := hown
  have hl : lv_has ls 4 [(0, .ref (aS 0)), (1, .int x1)] := hl
  have inX7 : ∀ w ∈ u_ws RX7 TX7 14, w ∈ wsX7_usable := by decide +kernel
  have kX7_7 := hts (.fieldLink RX7 7 "TraceCacheModel" "s" "[I") (by decide +kernel)
  have J69 : ∀ (x3 : Int32) (H : Heap) (locs : List Loc) (ls : Array Slot), m_X7_usable_69 S_s x1 x3 = some y → va_P D vwCl (wX7 cI cZ cII aS S_thrown S_s S_aside S_saved S_savedMany S_text S_length S_fetched S_predicted S_fetchedMany S_fetchedWay S_spot S_isWrong S_executedByText ++ []) H → va_D A (wX7 cI cZ cII aS S_thrown S_s S_aside S_saved S_savedMany S_text S_length S_fetched S_predicted S_fetchedMany S_fetchedWay S_spot S_isWrong S_executedByText ++ []) → va_S A s.heap H locs → lv_has ls 4 [(3, .int x3)] → W p l e ({ frames := 3, cells := 0, slots := 0, locals := 65 } : Room) s m args below meth c H locs 0 0 Q (F0 m 69 ls []) := by
    intro x3 H locs ls hf hP hD hS hl
    unfold m_X7_usable_69 at hf
    refine lv_iload_n hx hb dX7_usable_69 rfl (lv_at hl 0 rfl) ?_
    obtain rfl := Option.some.inj hf
    exact hret _ _ _ _ _ dX7_usable_70 rfl hP hD hS
  have J21 : ∀ (n21 : Nat), ∀ (x2 : Int32) (x3 : Int32) (H : Heap) (locs : List Loc) (ls : Array Slot), m_X7_usable_21 S_s x1 n21 x2 x3 = some y → va_P D vwCl (wX7 cI cZ cII aS S_thrown S_s S_aside S_saved S_savedMany S_text S_length S_fetched S_predicted S_fetchedMany S_fetchedWay S_spot S_isWrong S_executedByText ++ []) H → va_D A (wX7 cI cZ cII aS S_thrown S_s S_aside S_saved S_savedMany S_text S_length S_fetched S_predicted S_fetchedMany S_fetchedWay S_spot S_isWrong S_executedByText ++ []) → va_S A s.heap H locs → lv_has ls 4 [(0, .ref (aS 0)), (1, .int x1), (2, .int x2), (3, .int x3)] → W p l e ({ frames := 3, cells := 0, slots := 0, locals := 65 } : Room) s m args below meth c H locs 0 0 Q (F0 m 21 ls []) := by
    intro n21
    induction n21 with
    | zero =>
      intro x2 x3 H locs ls hf hP hD hS hl
      rw [m_X7_usable_21] at hf
      cases hf
    | succ n21 ih21 =>
      intro x2 x3 H locs ls hf hP hD hS hl
      rw [m_X7_usable_21] at hf
      refine lv_iload_n hx hb dX7_usable_21 rfl (lv_at hl 3 rfl) ?_
      refine lv_if_le (tgt := 69) hx hb dX7_usable_22 (by decide) (fun c22 => ?_) (fun c22 => ?_)
      · have hf := if_t c22 hf
        exact J69 x3 _ _ _ hf hP hD hS (lv_sub hl [3] rfl)
      · have hf := if_f c22 hf
        refine lv_iload_n hx hb dX7_usable_25 rfl (lv_at hl 3 rfl) ?_
        refine lv_iload_n hx hb dX7_usable_26 rfl (lv_at hl 2 rfl) ?_
        refine lv_icmp_ge (tgt := 69) hx hb dX7_usable_27 (by decide) (fun c27 => ?_) (fun c27 => ?_)
        · have hf := if_t c27 hf
          exact J69 x3 _ _ _ hf hP hD hS (lv_sub hl [3] rfl)
        · have hf := if_f c27 hf
          refine lv_aload_n hx hb dX7_usable_30 rfl (lv_at hl 0 rfl) ?_
          refine va_get (D := D) (ci := 7) (v := .ref (aS 1)) (C := RX7) (T := TX7) (N := 14) hx hb hts inX7 hown hK hP 0 rfl rfl 1 (by decide) kX7_7 (fun _ h9 => h9) rfl dX7_usable_31 ?_
          refine lv_iload_n hx hb dX7_usable_34 rfl (lv_at hl 1 rfl) ?_
          refine lv_iconst (v := 2) hx hb dX7_usable_35 (by decide) ?_
          refine lv_iload_n hx hb dX7_usable_36 rfl (lv_at hl 3 rfl) ?_
          refine lv_iadd hx hb dX7_usable_37 ?_
          obtain ⟨y38, h38, hf⟩ := bn_t hf
          refine z_ai (x := []) (b := ([] : va_W)) (y := wX7 cI cZ cII aS S_thrown S_s S_aside S_saved S_savedMany S_text S_length S_fetched S_predicted S_fetchedMany S_fetchedWay S_spot S_isWrong S_executedByText ++ []) (b1 := ([] : va_W)) (wsn := wX7 cI cZ cII aS S_thrown S_s S_aside S_saved S_savedMany S_text S_length S_fetched S_predicted S_fetchedMany S_fetchedWay S_spot S_isWrong S_executedByText ++ []) (va_runS (As := [.int x1, .int ((2 : Int32) + x3)]) (rest := [.ref (aS 1)]) ⟨hx, hb, hml, hown, hts⟩ (c_X7_ofLine l D cI cZ cII cJ cM x1 ((2 : Int32) + x3) H.size y38 h38) (va_cwS 2 hts gX7_usable_X7_ofLine rfl rfl rfl (by decide +kernel) ⟨Nat.le_of_ble_eq_true rfl, Nat.le_of_ble_eq_true rfl⟩) (pz_S (x := []) (b := ([] : va_W)) (y := wX7 cI cZ cII aS S_thrown S_s S_aside S_saved S_savedMany S_text S_length S_fetched S_predicted S_fetchedMany S_fetchedWay S_spot S_isWrong S_executedByText ++ []) hK hN hP hD (by simp only [List.append_assoc, List.nil_append, List.append_nil])) rfl rfl hl.1 rfl (lv_room (Nat.le_of_ble_eq_true rfl)) dX7_usable_38 ⟨Nat.le_of_ble_eq_true rfl, Nat.le_of_ble_eq_true rfl⟩) hP hD hS hA (by simp only [List.append_assoc, List.nil_append, List.append_nil]) (by simp only [List.append_assoc, List.nil_append, List.append_nil]) (fun H locs hP hD hS => ?_)
          obtain ⟨g41, hf⟩ := gd_t hf
          refine va_iald hx hb hK hP 1 0 rfl rfl (inb_t g41) dX7_usable_41 ?_
          refine lv_aload_n hx hb dX7_usable_42 rfl (lv_at hl 0 rfl) ?_
          refine lv_aload_n hx hb dX7_usable_43 rfl (lv_at hl 0 rfl) ?_
          refine va_get (D := D) (ci := 7) (v := .ref (aS 1)) (C := RX7) (T := TX7) (N := 14) hx hb hts inX7 hown hK hP 0 rfl rfl 1 (by decide) kX7_7 (fun _ h9 => h9) rfl dX7_usable_44 ?_
          refine lv_iload_n hx hb dX7_usable_47 rfl (lv_at hl 1 rfl) ?_
          refine lv_iconst (v := 2) hx hb dX7_usable_48 (by decide) ?_
          refine lv_iload_n hx hb dX7_usable_49 rfl (lv_at hl 3 rfl) ?_
          refine lv_iadd hx hb dX7_usable_50 ?_
          refine lv_iconst (v := 1) hx hb dX7_usable_51 (by decide) ?_
          refine lv_isub hx hb dX7_usable_52 ?_
          obtain ⟨y53, h53, hf⟩ := bn_t hf
          refine z_ai (x := []) (b := ([] : va_W)) (y := wX7 cI cZ cII aS S_thrown S_s S_aside S_saved S_savedMany S_text S_length S_fetched S_predicted S_fetchedMany S_fetchedWay S_spot S_isWrong S_executedByText ++ []) (b1 := ([] : va_W)) (wsn := wX7 cI cZ cII aS S_thrown S_s S_aside S_saved S_savedMany S_text S_length S_fetched S_predicted S_fetchedMany S_fetchedWay S_spot S_isWrong S_executedByText ++ []) (va_runS (As := [.int x1, .int (((2 : Int32) + x3) - (1 : Int32))]) (rest := [.ref (aS 1), .ref (aS 0), .int (S_s (Int32.toNatClampNeg y38))]) ⟨hx, hb, hml, hown, hts⟩ (c_X7_ofLine l D cI cZ cII cJ cM x1 (((2 : Int32) + x3) - (1 : Int32)) H.size y53 h53) (va_cwS 2 hts gX7_usable_X7_ofLine rfl rfl rfl (by decide +kernel) ⟨Nat.le_of_ble_eq_true rfl, Nat.le_of_ble_eq_true rfl⟩) (pz_S (x := []) (b := ([] : va_W)) (y := wX7 cI cZ cII aS S_thrown S_s S_aside S_saved S_savedMany S_text S_length S_fetched S_predicted S_fetchedMany S_fetchedWay S_spot S_isWrong S_executedByText ++ []) hK hN hP hD (by simp only [List.append_assoc, List.nil_append, List.append_nil])) rfl rfl hl.1 rfl (lv_room (Nat.le_of_ble_eq_true rfl)) dX7_usable_53 ⟨Nat.le_of_ble_eq_true rfl, Nat.le_of_ble_eq_true rfl⟩) hP hD hS hA (by simp only [List.append_assoc, List.nil_append, List.append_nil]) (by simp only [List.append_assoc, List.nil_append, List.append_nil]) (fun H locs hP hD hS => ?_)
          obtain ⟨g56, hf⟩ := gd_t hf
          refine va_iald hx hb hK hP 1 0 rfl rfl (inb_t g56) dX7_usable_56 ?_
          obtain ⟨y57, h57, hf⟩ := bn_t hf
          refine z_ai (x := []) (b := wX7 cI cZ cII aS S_thrown S_s S_aside S_saved S_savedMany S_text S_length S_fetched S_predicted S_fetchedMany S_fetchedWay S_spot S_isWrong S_executedByText ++ []) (y := ([] : va_W)) (b1 := wX7 cI cZ cII aS S_thrown S_s S_aside S_saved S_savedMany S_text S_length S_fetched S_predicted S_fetchedMany S_fetchedWay S_spot S_isWrong S_executedByText ++ []) (wsn := wX7 cI cZ cII aS S_thrown S_s S_aside S_saved S_savedMany S_text S_length S_fetched S_predicted S_fetchedMany S_fetchedWay S_spot S_isWrong S_executedByText ++ []) (va_runV (As := [.int (S_s (Int32.toNatClampNeg y53))]) (rest := [.int (S_s (Int32.toNatClampNeg y38))]) ⟨hx, hb, hml, hown, hts⟩ (c_X7_predictedSuccessor l D cI cZ cII cJ cM aS S_thrown S_s S_aside S_saved S_savedMany S_text S_length S_fetched S_predicted S_fetchedMany S_fetchedWay S_spot S_isWrong S_executedByText (S_s (Int32.toNatClampNeg y53)) H.size y57 h57) (cwV 1 hts gX7_usable_X7_predictedSuccessor rfl rfl rfl (by decide +kernel) ⟨Nat.le_of_ble_eq_true rfl, Nat.le_of_ble_eq_true rfl⟩) (pz_V (x := []) (b := wX7 cI cZ cII aS S_thrown S_s S_aside S_saved S_savedMany S_text S_length S_fetched S_predicted S_fetchedMany S_fetchedWay S_spot S_isWrong S_executedByText ++ []) (y := ([] : va_W)) (C := RX7) (T := TX7) (N := 14) (ci := 7) (As := [.int (S_s (Int32.toNatClampNeg y53))]) (bi := 0) hK hN hP hD (by simp only [List.append_assoc, List.nil_append, List.append_nil]) rfl rfl) rfl rfl hl.1 rfl (lv_room (Nat.le_of_ble_eq_true rfl)) dX7_usable_57 ⟨Nat.le_of_ble_eq_true rfl, Nat.le_of_ble_eq_true rfl⟩) hP hD hS hA (by simp only [List.append_assoc, List.nil_append, List.append_nil]) (by simp only [List.append_assoc, List.nil_append, List.append_nil]) (fun H locs hP hD hS => ?_)
          refine lv_icmp_ne (tgt := 69) hx hb dX7_usable_60 (by decide) (fun c60 => ?_) (fun c60 => ?_)
          · have hf := if_f c60 hf
            exact J69 x3 _ _ _ hf hP hD hS (lv_sub hl [3] rfl)
          · have hf := if_t c60 hf
            obtain ⟨v63, ev63⟩ : ∃ z : Int32, z = x3 + (1 : Int32) := ⟨_, rfl⟩
            have hf := bd_t ev63 hf
            refine lv_iinc (v := v63) (lv' := [(3, .int v63), (0, .ref (aS 0)), (1, .int x1), (2, .int x2)]) hx hb dX7_usable_63 hl (k := 3) rfl (by rw [ev63]; rfl) (by decide) rfl (fun ls hl => ?_)
            refine lv_goto (tgt := 21) hx hb dX7_usable_66 (by decide) ?_
            exact ih21 x2 v63 _ _ _ hf hP hD hS (lv_sub hl [1, 2, 3, 0] rfl)
  have J20 : ∀ (x2 : Int32) (k0 : Int32) (H : Heap) (locs : List Loc) (ls : Array Slot), m_X7_usable_20 S_s x1 x2 k0 = some y → va_P D vwCl (wX7 cI cZ cII aS S_thrown S_s S_aside S_saved S_savedMany S_text S_length S_fetched S_predicted S_fetchedMany S_fetchedWay S_spot S_isWrong S_executedByText ++ []) H → va_D A (wX7 cI cZ cII aS S_thrown S_s S_aside S_saved S_savedMany S_text S_length S_fetched S_predicted S_fetchedMany S_fetchedWay S_spot S_isWrong S_executedByText ++ []) → va_S A s.heap H locs → lv_has ls 4 [(0, .ref (aS 0)), (1, .int x1), (2, .int x2)] → W p l e ({ frames := 3, cells := 0, slots := 0, locals := 65 } : Room) s m args below meth c H locs 0 0 Q (F0 m 20 ls [.int k0]) := by
    intro x2 k0 H locs ls hf hP hD hS hl
    unfold m_X7_usable_20 at hf
    refine lv_istore_n (lv' := [(3, .int k0), (0, .ref (aS 0)), (1, .int x1), (2, .int x2)]) hx hb dX7_usable_20 rfl hl (by decide) rfl (fun ls hl => ?_)
    exact J21 4000 x2 k0 _ _ _ hf hP hD hS (lv_sub hl [1, 2, 3, 0] rfl)
  unfold m_X7_usable at hf
  refine lv_aload_n hx hb dX7_usable_0 rfl (lv_at hl 0 rfl) ?_
  refine va_get (D := D) (ci := 7) (v := .ref (aS 1)) (C := RX7) (T := TX7) (N := 14) hx hb hts inX7 hown hK hP 0 rfl rfl 1 (by decide) kX7_7 (fun _ h9 => h9) rfl dX7_usable_1 ?_
  refine lv_iload_n hx hb dX7_usable_4 rfl (lv_at hl 1 rfl) ?_
  refine lv_iconst (v := 0) hx hb dX7_usable_5 (by decide) ?_
  obtain ⟨y6, h6, hf⟩ := bn_t hf
  refine z_ai (x := []) (b := ([] : va_W)) (y := wX7 cI cZ cII aS S_thrown S_s S_aside S_saved S_savedMany S_text S_length S_fetched S_predicted S_fetchedMany S_fetchedWay S_spot S_isWrong S_executedByText ++ []) (b1 := ([] : va_W)) (wsn := wX7 cI cZ cII aS S_thrown S_s S_aside S_saved S_savedMany S_text S_length S_fetched S_predicted S_fetchedMany S_fetchedWay S_spot S_isWrong S_executedByText ++ []) (va_runS (As := [.int x1, .int (0 : Int32)]) (rest := [.ref (aS 1)]) ⟨hx, hb, hml, hown, hts⟩ (c_X7_ofLine l D cI cZ cII cJ cM x1 (0 : Int32) H.size y6 h6) (va_cwS 2 hts gX7_usable_X7_ofLine rfl rfl rfl (by decide +kernel) ⟨Nat.le_of_ble_eq_true rfl, Nat.le_of_ble_eq_true rfl⟩) (pz_S (x := []) (b := ([] : va_W)) (y := wX7 cI cZ cII aS S_thrown S_s S_aside S_saved S_savedMany S_text S_length S_fetched S_predicted S_fetchedMany S_fetchedWay S_spot S_isWrong S_executedByText ++ []) hK hN hP hD (by simp only [List.append_assoc, List.nil_append, List.append_nil])) rfl rfl hl.1 rfl (lv_room (Nat.le_of_ble_eq_true rfl)) dX7_usable_6 ⟨Nat.le_of_ble_eq_true rfl, Nat.le_of_ble_eq_true rfl⟩) hP hD hS hA (by simp only [List.append_assoc, List.nil_append, List.append_nil]) (by simp only [List.append_assoc, List.nil_append, List.append_nil]) (fun H locs hP hD hS => ?_)
  obtain ⟨g9, hf⟩ := gd_t hf
  refine va_iald hx hb hK hP 1 0 rfl rfl (inb_t g9) dX7_usable_9 ?_
  refine lv_topi (fun v10 ev10 => ?_)
  have hf := bd_t ev10 hf
  refine lv_istore_n (lv' := [(2, .int v10), (0, .ref (aS 0)), (1, .int x1)]) hx hb dX7_usable_10 rfl hl (by decide) rfl (fun ls hl => ?_)
  refine lv_iload_n hx hb dX7_usable_11 rfl (lv_at hl 0 rfl) ?_
  refine lv_if_le (tgt := 19) hx hb dX7_usable_12 (by decide) (fun c12 => ?_) (fun c12 => ?_)
  · have hf := if_t c12 hf
    refine lv_iconst (v := 0) hx hb dX7_usable_19 (by decide) ?_
    exact J20 v10 (0 : Int32) _ _ _ hf hP hD hS (lv_sub hl [1, 2, 0] rfl)
  · have hf := if_f c12 hf
    refine lv_iconst (v := 1) hx hb dX7_usable_15 (by decide) ?_
    refine lv_goto (tgt := 20) hx hb dX7_usable_16 (by decide) ?_
    exact J20 v10 (1 : Int32) _ _ _ hf hP hD hS (lv_sub hl [1, 2, 0] rfl)
