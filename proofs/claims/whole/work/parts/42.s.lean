set_option maxHeartbeats 8000000 in
set_option maxRecDepth 100000 in
theorem c_X7_fetchesOne (l : Launch) (D : va_G) (cI cZ cII cJ cM : ClassId) (aS : Nat → Nat) (S_thrown : Int32) (S_s : Nat → Int32) (S_aside : Nat → Int32) (S_saved : Nat → Int32) (S_savedMany : Int32) (S_text : Nat → Int32) (S_length : Int32) (S_fetched : Nat → Int32) (S_predicted : Nat → Int32) (S_fetchedMany : Int32) (S_fetchedWay : Int32) (S_spot : Int32) (S_isWrong : Int32) (S_executedByText : Int32) (x1 : Int32) (sz : Nat) (y : (Nat → Int32) × (Nat → Int32) × (Int32)) (hf : m_X7_fetchesOne S_s S_fetched S_predicted S_fetchedMany x1 = some y) : Met l yX7_fetchesOne wsX7_fetchesOne ({ frames := 2, cells := 0, slots := 0, locals := 42 } : Room) (va_Pc [.ref (aS 0), .int x1] (pzPre D (zT cI cZ cII cJ cM) (wX7 cI cZ cII aS S_thrown S_s S_aside S_saved S_savedMany S_text S_length S_fetched S_predicted S_fetchedMany S_fetchedWay S_spot S_isWrong S_executedByText ++ []) sz)) (va_Qv (fun (_ : Unit) => True) (fun _ t => pzB D (zT cI cZ cII cJ cM) (va_A (wX7 cI cZ cII aS S_thrown S_s S_aside S_saved S_savedMany S_text S_length S_fetched S_predicted S_fetchedMany S_fetchedWay S_spot S_isWrong S_executedByText ++ []) sz) (wX7 cI cZ cII aS S_thrown S_s S_aside S_saved S_savedMany S_text S_length y.1 y.2.1 y.2.2 S_fetchedWay S_spot S_isWrong S_executedByText ++ []) t) (va_A (wX7 cI cZ cII aS S_thrown S_s S_aside S_saved S_savedMany S_text S_length S_fetched S_predicted S_fetchedMany S_fetchedWay S_spot S_isWrong S_executedByText ++ []) sz)) 0 0 (va_A (wX7 cI cZ cII aS S_thrown S_s S_aside S_saved S_savedMany S_text S_length S_fetched S_predicted S_fetchedMany S_fetchedWay S_spot S_isWrong S_executedByText ++ []) sz) := by
  refine z_metv (cc := cX7_fetchesOne) (maxL := 2) (by decide) rfl (Nat.le_of_ble_eq_true rfl) ?_
  intro p e s m args below meth c A ls Q H locs F hP hD hS hl hret
  obtain ⟨hx, hb, hml, hown, hts, hN, hK, hA⟩ := F
  have hown : s.vm.findClass RX7 = some m.cls := hown
  have hl : lv_has ls 2 [(0, .ref (aS 0)), (1, .int x1)] := hl
  have inX7 : ∀ w ∈ u_ws RX7 TX7 14, w ∈ wsX7_fetchesOne := by decide +kernel
  have kX7_22 := hts (.fieldLink RX7 22 "TraceCacheModel" "fetched" "[I") (by decide +kernel)
  have kX7_25 := hts (.fieldLink RX7 25 "TraceCacheModel" "predicted" "[I") (by decide +kernel)
  have kX7_77 := hts (.fieldLink RX7 77 "TraceCacheModel" "fetchedMany" "I") (by decide +kernel)
  have J31 : ∀ (S_fetched : Nat → Int32) (S_predicted : Nat → Int32) (S_fetchedMany : Int32) (k1 : Int32) (k2 : Int32) (H : Heap) (locs : List Loc) (ls : Array Slot), m_X7_fetchesOne_31 S_s x1 S_fetched S_predicted S_fetchedMany k1 k2 = some y → va_P D vwCl (wX7 cI cZ cII aS S_thrown S_s S_aside S_saved S_savedMany S_text S_length S_fetched S_predicted S_fetchedMany S_fetchedWay S_spot S_isWrong S_executedByText ++ []) H → va_D A (wX7 cI cZ cII aS S_thrown S_s S_aside S_saved S_savedMany S_text S_length S_fetched S_predicted S_fetchedMany S_fetchedWay S_spot S_isWrong S_executedByText ++ []) → va_S A s.heap H locs → lv_has ls 2 [(0, .ref (aS 0))] → W p l e ({ frames := 2, cells := 0, slots := 0, locals := 42 } : Room) s m args below meth c H locs 0 0 Q (F0 m 31 ls [.int k2, .int k1, .ref (aS 6)]) := by
    intro S_fetched S_predicted S_fetchedMany k1 k2 H locs ls hf hP hD hS hl
    unfold m_X7_fetchesOne_31 at hf
    obtain ⟨g31, hf⟩ := gd_t hf
    refine va_iast hx hb hK hP hD hS 6 0 rfl rfl (inb_t g31) dX7_fetchesOne_31 (fun H locs hP hD hS => ?_)
    obtain ⟨S_predicted_31, eS_predicted_31⟩ : ∃ z : Nat → Int32, z = upd S_predicted (Int32.toNatClampNeg k1) k2 := ⟨_, rfl⟩
    have hf := bd_t eS_predicted_31 hf
    have hP : va_P D vwCl (wX7 cI cZ cII aS S_thrown S_s S_aside S_saved S_savedMany S_text S_length S_fetched S_predicted_31 S_fetchedMany S_fetchedWay S_spot S_isWrong S_executedByText ++ []) H := by rw [eS_predicted_31]; exact hP
    have hD : va_D A (wX7 cI cZ cII aS S_thrown S_s S_aside S_saved S_savedMany S_text S_length S_fetched S_predicted_31 S_fetchedMany S_fetchedWay S_spot S_isWrong S_executedByText ++ []) := by rw [eS_predicted_31]; exact hD
    refine lv_aload_n hx hb dX7_fetchesOne_32 rfl (lv_at hl 0 rfl) ?_
    refine lv_dup hx hb dX7_fetchesOne_33 rfl ?_
    refine va_get (D := D) (ci := 7) (v := .int S_fetchedMany) (C := RX7) (T := TX7) (N := 14) hx hb hts inX7 hown hK hP 0 rfl rfl 9 (by decide) kX7_77 (fun _ h9 => h9) rfl dX7_fetchesOne_34 ?_
    refine lv_iconst (v := 1) hx hb dX7_fetchesOne_37 (by decide) ?_
    refine lv_iadd hx hb dX7_fetchesOne_38 ?_
    refine lv_topi (fun v39 ev39 => ?_)
    have hf := bd_t ev39 hf
    refine va_put (D := D) (ci := 7) (v := .int v39) (ty := .int) (C := RX7) (T := TX7) (N := 14) hx hb hts inX7 tyX7 tyX7_ok nmX7 hown hK hP hD hS 0 rfl rfl 9 (by decide) kX7_77 (fun _ h9 => h9) rfl (by decide +kernel) rfl rfl (Nat.le_of_ble_eq_true rfl) dX7_fetchesOne_39 (fun H locs hP hD hS => ?_)
    have hP : va_P D vwCl (wX7 cI cZ cII aS S_thrown S_s S_aside S_saved S_savedMany S_text S_length S_fetched S_predicted_31 v39 S_fetchedWay S_spot S_isWrong S_executedByText ++ []) H := hP
    have hD : va_D A (wX7 cI cZ cII aS S_thrown S_s S_aside S_saved S_savedMany S_text S_length S_fetched S_predicted_31 v39 S_fetchedWay S_spot S_isWrong S_executedByText ++ []) := hD
    obtain rfl := Option.some.inj hf
    exact hret _ _ _ _ dX7_fetchesOne_42 hP hD hS
  unfold m_X7_fetchesOne at hf
  refine lv_aload_n hx hb dX7_fetchesOne_0 rfl (lv_at hl 0 rfl) ?_
  refine va_get (D := D) (ci := 7) (v := .ref (aS 5)) (C := RX7) (T := TX7) (N := 14) hx hb hts inX7 hown hK hP 0 rfl rfl 7 (by decide) kX7_22 (fun _ h9 => h9) rfl dX7_fetchesOne_1 ?_
  refine lv_aload_n hx hb dX7_fetchesOne_4 rfl (lv_at hl 0 rfl) ?_
  refine va_get (D := D) (ci := 7) (v := .int S_fetchedMany) (C := RX7) (T := TX7) (N := 14) hx hb hts inX7 hown hK hP 0 rfl rfl 9 (by decide) kX7_77 (fun _ h9 => h9) rfl dX7_fetchesOne_5 ?_
  refine lv_iload_n hx hb dX7_fetchesOne_8 rfl (lv_at hl 1 rfl) ?_
  obtain ⟨g9, hf⟩ := gd_t hf
  refine va_iast hx hb hK hP hD hS 5 0 rfl rfl (inb_t g9) dX7_fetchesOne_9 (fun H locs hP hD hS => ?_)
  obtain ⟨S_fetched_9, eS_fetched_9⟩ : ∃ z : Nat → Int32, z = upd S_fetched (Int32.toNatClampNeg S_fetchedMany) x1 := ⟨_, rfl⟩
  have hf := bd_t eS_fetched_9 hf
  have hP : va_P D vwCl (wX7 cI cZ cII aS S_thrown S_s S_aside S_saved S_savedMany S_text S_length S_fetched_9 S_predicted S_fetchedMany S_fetchedWay S_spot S_isWrong S_executedByText ++ []) H := by rw [eS_fetched_9]; exact hP
  have hD : va_D A (wX7 cI cZ cII aS S_thrown S_s S_aside S_saved S_savedMany S_text S_length S_fetched_9 S_predicted S_fetchedMany S_fetchedWay S_spot S_isWrong S_executedByText ++ []) := by rw [eS_fetched_9]; exact hD
  refine lv_aload_n hx hb dX7_fetchesOne_10 rfl (lv_at hl 0 rfl) ?_
  refine va_get (D := D) (ci := 7) (v := .ref (aS 6)) (C := RX7) (T := TX7) (N := 14) hx hb hts inX7 hown hK hP 0 rfl rfl 8 (by decide) kX7_25 (fun _ h9 => h9) rfl dX7_fetchesOne_11 ?_
  refine lv_aload_n hx hb dX7_fetchesOne_14 rfl (lv_at hl 0 rfl) ?_
  refine va_get (D := D) (ci := 7) (v := .int S_fetchedMany) (C := RX7) (T := TX7) (N := 14) hx hb hts inX7 hown hK hP 0 rfl rfl 9 (by decide) kX7_77 (fun _ h9 => h9) rfl dX7_fetchesOne_15 ?_
  refine lv_aload_n hx hb dX7_fetchesOne_18 rfl (lv_at hl 0 rfl) ?_
  refine lv_iload_n hx hb dX7_fetchesOne_19 rfl (lv_at hl 1 rfl) ?_
  obtain ⟨y20, h20, hf⟩ := bn_t hf
  refine z_ai (x := []) (b := wX7 cI cZ cII aS S_thrown S_s S_aside S_saved S_savedMany S_text S_length S_fetched_9 S_predicted S_fetchedMany S_fetchedWay S_spot S_isWrong S_executedByText ++ []) (y := ([] : va_W)) (b1 := wX7 cI cZ cII aS S_thrown S_s S_aside S_saved S_savedMany S_text S_length S_fetched_9 S_predicted S_fetchedMany S_fetchedWay S_spot S_isWrong S_executedByText ++ []) (wsn := wX7 cI cZ cII aS S_thrown S_s S_aside S_saved S_savedMany S_text S_length S_fetched_9 S_predicted S_fetchedMany S_fetchedWay S_spot S_isWrong S_executedByText ++ []) (va_runV (As := [.int x1]) (rest := [.int S_fetchedMany, .ref (aS 6)]) ⟨hx, hb, hml, hown, hts⟩ (c_X7_isPredictedTaken l D cI cZ cII cJ cM aS S_thrown S_s S_aside S_saved S_savedMany S_text S_length S_fetched_9 S_predicted S_fetchedMany S_fetchedWay S_spot S_isWrong S_executedByText x1 H.size y20 h20) (cwV 1 hts gX7_fetchesOne_X7_isPredictedTaken rfl rfl rfl (by decide +kernel) ⟨Nat.le_of_ble_eq_true rfl, Nat.le_of_ble_eq_true rfl⟩) (pz_V (x := []) (b := wX7 cI cZ cII aS S_thrown S_s S_aside S_saved S_savedMany S_text S_length S_fetched_9 S_predicted S_fetchedMany S_fetchedWay S_spot S_isWrong S_executedByText ++ []) (y := ([] : va_W)) (C := RX7) (T := TX7) (N := 14) (ci := 7) (As := [.int x1]) (bi := 0) hK hN hP hD (by simp only [List.append_assoc, List.nil_append, List.append_nil]) rfl rfl) rfl rfl hl.1 rfl (lv_room (Nat.le_of_ble_eq_true rfl)) dX7_fetchesOne_20 ⟨Nat.le_of_ble_eq_true rfl, Nat.le_of_ble_eq_true rfl⟩) hP hD hS hA (by simp only [List.append_assoc, List.nil_append, List.append_nil]) (by simp only [List.append_assoc, List.nil_append, List.append_nil]) (fun H locs hP hD hS => ?_)
  refine lv_if_eq (tgt := 30) hx hb dX7_fetchesOne_23 (by decide) (fun c23 => ?_) (fun c23 => ?_)
  · have hf := if_t c23 hf
    refine lv_iconst (v := 0) hx hb dX7_fetchesOne_30 (by decide) ?_
    exact J31 S_fetched_9 S_predicted S_fetchedMany S_fetchedMany (0 : Int32) _ _ _ hf hP hD hS (lv_sub hl [0] rfl)
  · have hf := if_f c23 hf
    refine lv_iconst (v := 1) hx hb dX7_fetchesOne_26 (by decide) ?_
    refine lv_goto (tgt := 31) hx hb dX7_fetchesOne_27 (by decide) ?_
    exact J31 S_fetched_9 S_predicted S_fetchedMany S_fetchedMany (1 : Int32) _ _ _ hf hP hD hS (lv_sub hl [0] rfl)
set_option maxHeartbeats 8000000 in
set_option maxRecDepth 100000 in
theorem c_X7_looks (l : Launch) (D : va_G) (cI cZ cII cJ cM : ClassId) (aS : Nat → Nat) (S_thrown : Int32) (S_s : Nat → Int32) (S_aside : Nat → Int32) (S_saved : Nat → Int32) (S_savedMany : Int32) (S_text : Nat → Int32) (S_length : Int32) (S_fetched : Nat → Int32) (S_predicted : Nat → Int32) (S_fetchedMany : Int32) (S_fetchedWay : Int32) (S_spot : Int32) (S_isWrong : Int32) (S_executedByText : Int32) (sz : Nat) (y : (Nat → Int32) × (Nat → Int32) × (Int32) × (Int32)) (hf : m_X7_looks S_s S_fetched S_predicted S_fetchedMany S_fetchedWay = some y) : Met l yX7_looks wsX7_looks ({ frames := 4, cells := 0, slots := 0, locals := 88 } : Room) (va_Pc [.ref (aS 0)] (pzPre D (zT cI cZ cII cJ cM) (wX7 cI cZ cII aS S_thrown S_s S_aside S_saved S_savedMany S_text S_length S_fetched S_predicted S_fetchedMany S_fetchedWay S_spot S_isWrong S_executedByText ++ []) sz)) (va_Qv (fun (_ : Unit) => True) (fun _ t => pzB D (zT cI cZ cII cJ cM) (va_A (wX7 cI cZ cII aS S_thrown S_s S_aside S_saved S_savedMany S_text S_length S_fetched S_predicted S_fetchedMany S_fetchedWay S_spot S_isWrong S_executedByText ++ []) sz) (wX7 cI cZ cII aS S_thrown S_s S_aside S_saved S_savedMany S_text S_length y.1 y.2.1 y.2.2.1 y.2.2.2 S_spot S_isWrong S_executedByText ++ []) t) (va_A (wX7 cI cZ cII aS S_thrown S_s S_aside S_saved S_savedMany S_text S_length S_fetched S_predicted S_fetchedMany S_fetchedWay S_spot S_isWrong S_executedByText ++ []) sz)) 0 0 (va_A (wX7 cI cZ cII aS S_thrown S_s S_aside S_saved S_savedMany S_text S_length S_fetched S_predicted S_fetchedMany S_fetchedWay S_spot S_isWrong S_executedByText ++ []) sz) := by
  refine z_metv (cc := cX7_looks) (maxL := 6) (by decide) rfl (Nat.le_of_ble_eq_true rfl) ?_
  intro p e s m args below meth c A ls Q H locs F hP hD hS hl hret
  obtain ⟨hx, hb, hml, hown, hts, hN, hK, hA⟩ := F
  have hown : s.vm.findClass RX7 = some m.cls := hown
  have hl : lv_has ls 6 [(0, .ref (aS 0))] := hl
  have inX7 : ∀ w ∈ u_ws RX7 TX7 14, w ∈ wsX7_looks := by decide +kernel
  have kX7_7 := hts (.fieldLink RX7 7 "TraceCacheModel" "s" "[I") (by decide +kernel)
  have kX7_77 := hts (.fieldLink RX7 77 "TraceCacheModel" "fetchedMany" "I") (by decide +kernel)
  have kX7_83 := hts (.fieldLink RX7 83 "TraceCacheModel" "fetchedWay" "I") (by decide +kernel)
  have J169 : ∀ (n169 : Nat), ∀ (S_fetched : Nat → Int32) (S_predicted : Nat → Int32) (S_fetchedMany : Int32) (S_fetchedWay : Int32) (x3 : Int32) (x4 : Int32) (H : Heap) (locs : List Loc) (ls : Array Slot), m_X7_looks_169 S_s n169 S_fetched S_predicted S_fetchedMany S_fetchedWay x3 x4 = some y → va_P D vwCl (wX7 cI cZ cII aS S_thrown S_s S_aside S_saved S_savedMany S_text S_length S_fetched S_predicted S_fetchedMany S_fetchedWay S_spot S_isWrong S_executedByText ++ []) H → va_D A (wX7 cI cZ cII aS S_thrown S_s S_aside S_saved S_savedMany S_text S_length S_fetched S_predicted S_fetchedMany S_fetchedWay S_spot S_isWrong S_executedByText ++ []) → va_S A s.heap H locs → lv_has ls 6 [(0, .ref (aS 0)), (3, .int x3), (4, .int x4)] → W p l e ({ frames := 4, cells := 0, slots := 0, locals := 88 } : Room) s m args below meth c H locs 0 0 Q (F0 m 169 ls []) := by
    intro n169
    induction n169 with
    | zero =>
      intro S_fetched S_predicted S_fetchedMany S_fetchedWay x3 x4 H locs ls hf hP hD hS hl
      rw [m_X7_looks_169] at hf
      cases hf
    | succ n169 ih169 =>
      have J214 : ∀ (S_fetched : Nat → Int32) (S_predicted : Nat → Int32) (S_fetchedMany : Int32) (S_fetchedWay : Int32) (x3 : Int32) (k0 : Int32) (H : Heap) (locs : List Loc) (ls : Array Slot), m_X7_looks_214 S_s (m_X7_looks_169 S_s n169) S_fetched S_predicted S_fetchedMany S_fetchedWay x3 k0 = some y → va_P D vwCl (wX7 cI cZ cII aS S_thrown S_s S_aside S_saved S_savedMany S_text S_length S_fetched S_predicted S_fetchedMany S_fetchedWay S_spot S_isWrong S_executedByText ++ []) H → va_D A (wX7 cI cZ cII aS S_thrown S_s S_aside S_saved S_savedMany S_text S_length S_fetched S_predicted S_fetchedMany S_fetchedWay S_spot S_isWrong S_executedByText ++ []) → va_S A s.heap H locs → lv_has ls 6 [(0, .ref (aS 0)), (3, .int x3)] → W p l e ({ frames := 4, cells := 0, slots := 0, locals := 88 } : Room) s m args below meth c H locs 0 0 Q (F0 m 214 ls [.int k0]) := by
        intro S_fetched S_predicted S_fetchedMany S_fetchedWay x3 k0 H locs ls hf hP hD hS hl
        unfold m_X7_looks_214 at hf
        refine lv_istore (lv' := [(4, .int k0), (0, .ref (aS 0)), (3, .int x3)]) hx hb dX7_looks_214 hl (by decide) rfl (fun ls hl => ?_)
        refine lv_iload_n hx hb dX7_looks_216 rfl (lv_at hl 2 rfl) ?_
        obtain ⟨y217, h217, hf⟩ := bn_t hf
        refine z_ai (x := []) (b := ([] : va_W)) (y := wX7 cI cZ cII aS S_thrown S_s S_aside S_saved S_savedMany S_text S_length S_fetched S_predicted S_fetchedMany S_fetchedWay S_spot S_isWrong S_executedByText ++ []) (b1 := ([] : va_W)) (wsn := wX7 cI cZ cII aS S_thrown S_s S_aside S_saved S_savedMany S_text S_length S_fetched S_predicted S_fetchedMany S_fetchedWay S_spot S_isWrong S_executedByText ++ []) (va_runS (As := [.int x3]) (rest := []) ⟨hx, hb, hml, hown, hts⟩ (c_X7_after l D cI cZ cII cJ cM x3 H.size y217 h217) (va_cwS 1 hts gX7_looks_X7_after rfl rfl rfl (by decide +kernel) ⟨Nat.le_of_ble_eq_true rfl, Nat.le_of_ble_eq_true rfl⟩) (pz_S (x := []) (b := ([] : va_W)) (y := wX7 cI cZ cII aS S_thrown S_s S_aside S_saved S_savedMany S_text S_length S_fetched S_predicted S_fetchedMany S_fetchedWay S_spot S_isWrong S_executedByText ++ []) hK hN hP hD (by simp only [List.append_assoc, List.nil_append, List.append_nil])) rfl rfl hl.1 rfl (lv_room (Nat.le_of_ble_eq_true rfl)) dX7_looks_217 ⟨Nat.le_of_ble_eq_true rfl, Nat.le_of_ble_eq_true rfl⟩) hP hD hS hA (by simp only [List.append_assoc, List.nil_append, List.append_nil]) (by simp only [List.append_assoc, List.nil_append, List.append_nil]) (fun H locs hP hD hS => ?_)
        refine lv_istore_n (lv' := [(3, .int y217), (4, .int k0), (0, .ref (aS 0))]) hx hb dX7_looks_220 rfl hl (by decide) rfl (fun ls hl => ?_)
        refine lv_goto (tgt := 169) hx hb dX7_looks_221 (by decide) ?_
        exact ih169 S_fetched S_predicted S_fetchedMany S_fetchedWay y217 k0 _ _ _ hf hP hD hS (lv_sub hl [2, 0, 1] rfl)
      have J213 : ∀ (S_fetched : Nat → Int32) (S_predicted : Nat → Int32) (S_fetchedMany : Int32) (S_fetchedWay : Int32) (x3 : Int32) (H : Heap) (locs : List Loc) (ls : Array Slot), m_X7_looks_213 S_s (m_X7_looks_169 S_s n169) S_fetched S_predicted S_fetchedMany S_fetchedWay x3 = some y → va_P D vwCl (wX7 cI cZ cII aS S_thrown S_s S_aside S_saved S_savedMany S_text S_length S_fetched S_predicted S_fetchedMany S_fetchedWay S_spot S_isWrong S_executedByText ++ []) H → va_D A (wX7 cI cZ cII aS S_thrown S_s S_aside S_saved S_savedMany S_text S_length S_fetched S_predicted S_fetchedMany S_fetchedWay S_spot S_isWrong S_executedByText ++ []) → va_S A s.heap H locs → lv_has ls 6 [(0, .ref (aS 0)), (3, .int x3)] → W p l e ({ frames := 4, cells := 0, slots := 0, locals := 88 } : Room) s m args below meth c H locs 0 0 Q (F0 m 213 ls []) := by
        intro S_fetched S_predicted S_fetchedMany S_fetchedWay x3 H locs ls hf hP hD hS hl
        unfold m_X7_looks_213 at hf
        refine lv_iconst (v := 0) hx hb dX7_looks_213 (by decide) ?_
        exact J214 S_fetched S_predicted S_fetchedMany S_fetchedWay x3 (0 : Int32) _ _ _ hf hP hD hS (lv_sub hl [0, 1] rfl)
      intro S_fetched S_predicted S_fetchedMany S_fetchedWay x3 x4 H locs ls hf hP hD hS hl
      rw [m_X7_looks_169] at hf
      refine lv_iload hx hb dX7_looks_169 (lv_at hl 2 rfl) ?_
      refine lv_if_eq (tgt := 224) hx hb dX7_looks_171 (by decide) (fun c171 => ?_) (fun c171 => ?_)
      · have hf := if_t c171 hf
        obtain rfl := Option.some.inj hf
        exact hret _ _ _ _ dX7_looks_224 hP hD hS
      · have hf := if_f c171 hf
        refine lv_aload_n hx hb dX7_looks_174 rfl (lv_at hl 0 rfl) ?_
        refine lv_iload_n hx hb dX7_looks_175 rfl (lv_at hl 1 rfl) ?_
        obtain ⟨y176, h176, hf⟩ := bn_t hf
        refine z_av (x := []) (b := wX7 cI cZ cII aS S_thrown S_s S_aside S_saved S_savedMany S_text S_length S_fetched S_predicted S_fetchedMany S_fetchedWay S_spot S_isWrong S_executedByText ++ []) (y := ([] : va_W)) (b1 := wX7 cI cZ cII aS S_thrown S_s S_aside S_saved S_savedMany S_text S_length y176.1 y176.2.1 y176.2.2 S_fetchedWay S_spot S_isWrong S_executedByText ++ []) (wsn := wX7 cI cZ cII aS S_thrown S_s S_aside S_saved S_savedMany S_text S_length y176.1 y176.2.1 y176.2.2 S_fetchedWay S_spot S_isWrong S_executedByText ++ []) (va_runV (As := [.int x3]) (rest := []) ⟨hx, hb, hml, hown, hts⟩ (c_X7_fetchesOne l D cI cZ cII cJ cM aS S_thrown S_s S_aside S_saved S_savedMany S_text S_length S_fetched S_predicted S_fetchedMany S_fetchedWay S_spot S_isWrong S_executedByText x3 H.size y176 h176) (cwV 1 hts gX7_looks_X7_fetchesOne rfl rfl rfl (by decide +kernel) ⟨Nat.le_of_ble_eq_true rfl, Nat.le_of_ble_eq_true rfl⟩) (pz_V (x := []) (b := wX7 cI cZ cII aS S_thrown S_s S_aside S_saved S_savedMany S_text S_length S_fetched S_predicted S_fetchedMany S_fetchedWay S_spot S_isWrong S_executedByText ++ []) (y := ([] : va_W)) (C := RX7) (T := TX7) (N := 14) (ci := 7) (As := [.int x3]) (bi := 0) hK hN hP hD (by simp only [List.append_assoc, List.nil_append, List.append_nil]) rfl rfl) rfl rfl hl.1 rfl (lv_room (Nat.le_of_ble_eq_true rfl)) dX7_looks_176 ⟨Nat.le_of_ble_eq_true rfl, Nat.le_of_ble_eq_true rfl⟩) hP hD hS hA (by simp only [List.append_assoc, List.nil_append, List.append_nil]) (by simp only [List.append_assoc, List.nil_append, List.append_nil]) (fun H locs hP hD hS => ?_)
        refine lv_aload_n hx hb dX7_looks_179 rfl (lv_at hl 0 rfl) ?_
        refine va_get (D := D) (ci := 7) (v := .int y176.2.2) (C := RX7) (T := TX7) (N := 14) hx hb hts inX7 hown hK hP 0 rfl rfl 9 (by decide) kX7_77 (fun _ h9 => h9) rfl dX7_looks_180 ?_
        refine lv_iconst (v := 4) hx hb dX7_looks_183 (by decide) ?_
        refine lv_icmp_ge (tgt := 213) hx hb dX7_looks_184 (by decide) (fun c184 => ?_) (fun c184 => ?_)
        · have hf := if_t c184 hf
          exact J213 y176.1 y176.2.1 y176.2.2 S_fetchedWay x3 _ _ _ hf hP hD hS (lv_sub hl [0, 1] rfl)
        · have hf := if_f c184 hf
          refine lv_aload_n hx hb dX7_looks_187 rfl (lv_at hl 0 rfl) ?_
          refine va_get (D := D) (ci := 7) (v := .ref (aS 1)) (C := RX7) (T := TX7) (N := 14) hx hb hts inX7 hown hK hP 0 rfl rfl 1 (by decide) kX7_7 (fun _ h9 => h9) rfl dX7_looks_188 ?_
          refine lv_iload_n hx hb dX7_looks_191 rfl (lv_at hl 1 rfl) ?_
          refine lv_iconst (v := 0) hx hb dX7_looks_192 (by decide) ?_
          obtain ⟨y193, h193, hf⟩ := bn_t hf
          refine z_ai (x := []) (b := ([] : va_W)) (y := wX7 cI cZ cII aS S_thrown S_s S_aside S_saved S_savedMany S_text S_length y176.1 y176.2.1 y176.2.2 S_fetchedWay S_spot S_isWrong S_executedByText ++ []) (b1 := ([] : va_W)) (wsn := wX7 cI cZ cII aS S_thrown S_s S_aside S_saved S_savedMany S_text S_length y176.1 y176.2.1 y176.2.2 S_fetchedWay S_spot S_isWrong S_executedByText ++ []) (va_runS (As := [.int x3, .int (0 : Int32)]) (rest := [.ref (aS 1)]) ⟨hx, hb, hml, hown, hts⟩ (c_X7_of l D cI cZ cII cJ cM x3 (0 : Int32) H.size y193 h193) (va_cwS 2 hts gX7_looks_X7_of rfl rfl rfl (by decide +kernel) ⟨Nat.le_of_ble_eq_true rfl, Nat.le_of_ble_eq_true rfl⟩) (pz_S (x := []) (b := ([] : va_W)) (y := wX7 cI cZ cII aS S_thrown S_s S_aside S_saved S_savedMany S_text S_length y176.1 y176.2.1 y176.2.2 S_fetchedWay S_spot S_isWrong S_executedByText ++ []) hK hN hP hD (by simp only [List.append_assoc, List.nil_append, List.append_nil])) rfl rfl hl.1 rfl (lv_room (Nat.le_of_ble_eq_true rfl)) dX7_looks_193 ⟨Nat.le_of_ble_eq_true rfl, Nat.le_of_ble_eq_true rfl⟩) hP hD hS hA (by simp only [List.append_assoc, List.nil_append, List.append_nil]) (by simp only [List.append_assoc, List.nil_append, List.append_nil]) (fun H locs hP hD hS => ?_)
          obtain ⟨g196, hf⟩ := gd_t hf
          refine va_iald hx hb hK hP 1 0 rfl rfl (inb_t g196) dX7_looks_196 ?_
          refine lv_iconst (v := 1) hx hb dX7_looks_197 (by decide) ?_
          refine lv_icmp_eq (tgt := 213) hx hb dX7_looks_198 (by decide) (fun c198 => ?_) (fun c198 => ?_)
          · have hf := if_t c198 hf
            exact J213 y176.1 y176.2.1 y176.2.2 S_fetchedWay x3 _ _ _ hf hP hD hS (lv_sub hl [0, 1] rfl)
          · have hf := if_f c198 hf
            refine lv_aload_n hx hb dX7_looks_201 rfl (lv_at hl 0 rfl) ?_
            refine lv_iload_n hx hb dX7_looks_202 rfl (lv_at hl 1 rfl) ?_
            obtain ⟨y203, h203, hf⟩ := bn_t hf
            refine z_ai (x := []) (b := wX7 cI cZ cII aS S_thrown S_s S_aside S_saved S_savedMany S_text S_length y176.1 y176.2.1 y176.2.2 S_fetchedWay S_spot S_isWrong S_executedByText ++ []) (y := ([] : va_W)) (b1 := wX7 cI cZ cII aS S_thrown S_s S_aside S_saved S_savedMany S_text S_length y176.1 y176.2.1 y176.2.2 S_fetchedWay S_spot S_isWrong S_executedByText ++ []) (wsn := wX7 cI cZ cII aS S_thrown S_s S_aside S_saved S_savedMany S_text S_length y176.1 y176.2.1 y176.2.2 S_fetchedWay S_spot S_isWrong S_executedByText ++ []) (va_runV (As := [.int x3]) (rest := []) ⟨hx, hb, hml, hown, hts⟩ (c_X7_isPredictedTaken l D cI cZ cII cJ cM aS S_thrown S_s S_aside S_saved S_savedMany S_text S_length y176.1 y176.2.1 y176.2.2 S_fetchedWay S_spot S_isWrong S_executedByText x3 H.size y203 h203) (cwV 1 hts gX7_looks_X7_isPredictedTaken rfl rfl rfl (by decide +kernel) ⟨Nat.le_of_ble_eq_true rfl, Nat.le_of_ble_eq_true rfl⟩) (pz_V (x := []) (b := wX7 cI cZ cII aS S_thrown S_s S_aside S_saved S_savedMany S_text S_length y176.1 y176.2.1 y176.2.2 S_fetchedWay S_spot S_isWrong S_executedByText ++ []) (y := ([] : va_W)) (C := RX7) (T := TX7) (N := 14) (ci := 7) (As := [.int x3]) (bi := 0) hK hN hP hD (by simp only [List.append_assoc, List.nil_append, List.append_nil]) rfl rfl) rfl rfl hl.1 rfl (lv_room (Nat.le_of_ble_eq_true rfl)) dX7_looks_203 ⟨Nat.le_of_ble_eq_true rfl, Nat.le_of_ble_eq_true rfl⟩) hP hD hS hA (by simp only [List.append_assoc, List.nil_append, List.append_nil]) (by simp only [List.append_assoc, List.nil_append, List.append_nil]) (fun H locs hP hD hS => ?_)
            refine lv_if_ne (tgt := 213) hx hb dX7_looks_206 (by decide) (fun c206 => ?_) (fun c206 => ?_)
            · have hf := if_f c206 hf
              exact J213 y176.1 y176.2.1 y176.2.2 S_fetchedWay x3 _ _ _ hf hP hD hS (lv_sub hl [0, 1] rfl)
            · have hf := if_t c206 hf
              refine lv_iconst (v := 1) hx hb dX7_looks_209 (by decide) ?_
              refine lv_goto (tgt := 214) hx hb dX7_looks_210 (by decide) ?_
              exact J214 y176.1 y176.2.1 y176.2.2 S_fetchedWay x3 (1 : Int32) _ _ _ hf hP hD hS (lv_sub hl [0, 1] rfl)
  have J134 : ∀ (n134 : Nat), ∀ (S_fetched : Nat → Int32) (S_predicted : Nat → Int32) (S_fetchedMany : Int32) (S_fetchedWay : Int32) (x2 : Int32) (x3 : Int32) (x4 : Int32) (H : Heap) (locs : List Loc) (ls : Array Slot), m_X7_looks_134 S_s n134 S_fetched S_predicted S_fetchedMany S_fetchedWay x2 x3 x4 = some y → va_P D vwCl (wX7 cI cZ cII aS S_thrown S_s S_aside S_saved S_savedMany S_text S_length S_fetched S_predicted S_fetchedMany S_fetchedWay S_spot S_isWrong S_executedByText ++ []) H → va_D A (wX7 cI cZ cII aS S_thrown S_s S_aside S_saved S_savedMany S_text S_length S_fetched S_predicted S_fetchedMany S_fetchedWay S_spot S_isWrong S_executedByText ++ []) → va_S A s.heap H locs → lv_has ls 6 [(0, .ref (aS 0)), (2, .int x2), (3, .int x3), (4, .int x4)] → W p l e ({ frames := 4, cells := 0, slots := 0, locals := 88 } : Room) s m args below meth c H locs 0 0 Q (F0 m 134 ls []) := by
    intro n134
    induction n134 with
    | zero =>
      intro S_fetched S_predicted S_fetchedMany S_fetchedWay x2 x3 x4 H locs ls hf hP hD hS hl
      rw [m_X7_looks_134] at hf
      cases hf
    | succ n134 ih134 =>
      intro S_fetched S_predicted S_fetchedMany S_fetchedWay x2 x3 x4 H locs ls hf hP hD hS hl
      rw [m_X7_looks_134] at hf
      refine lv_iload hx hb dX7_looks_134 (lv_at hl 3 rfl) ?_
      refine lv_iload_n hx hb dX7_looks_136 rfl (lv_at hl 2 rfl) ?_
      refine lv_icmp_ge (tgt := 163) hx hb dX7_looks_137 (by decide) (fun c137 => ?_) (fun c137 => ?_)
      · have hf := if_t c137 hf
        obtain rfl := Option.some.inj hf
        exact hret _ _ _ _ dX7_looks_163 hP hD hS
      · have hf := if_f c137 hf
        refine lv_aload_n hx hb dX7_looks_140 rfl (lv_at hl 0 rfl) ?_
        refine lv_aload_n hx hb dX7_looks_141 rfl (lv_at hl 0 rfl) ?_
        refine va_get (D := D) (ci := 7) (v := .ref (aS 1)) (C := RX7) (T := TX7) (N := 14) hx hb hts inX7 hown hK hP 0 rfl rfl 1 (by decide) kX7_7 (fun _ h9 => h9) rfl dX7_looks_142 ?_
        refine lv_iload_n hx hb dX7_looks_145 rfl (lv_at hl 1 rfl) ?_
        refine lv_iconst (v := 2) hx hb dX7_looks_146 (by decide) ?_
        refine lv_iload hx hb dX7_looks_147 (lv_at hl 3 rfl) ?_
        refine lv_iadd hx hb dX7_looks_149 ?_
        obtain ⟨y150, h150, hf⟩ := bn_t hf
        refine z_ai (x := []) (b := ([] : va_W)) (y := wX7 cI cZ cII aS S_thrown S_s S_aside S_saved S_savedMany S_text S_length S_fetched S_predicted S_fetchedMany S_fetchedWay S_spot S_isWrong S_executedByText ++ []) (b1 := ([] : va_W)) (wsn := wX7 cI cZ cII aS S_thrown S_s S_aside S_saved S_savedMany S_text S_length S_fetched S_predicted S_fetchedMany S_fetchedWay S_spot S_isWrong S_executedByText ++ []) (va_runS (As := [.int x2, .int ((2 : Int32) + x4)]) (rest := [.ref (aS 1), .ref (aS 0)]) ⟨hx, hb, hml, hown, hts⟩ (c_X7_ofLine l D cI cZ cII cJ cM x2 ((2 : Int32) + x4) H.size y150 h150) (va_cwS 2 hts gX7_looks_X7_ofLine rfl rfl rfl (by decide +kernel) ⟨Nat.le_of_ble_eq_true rfl, Nat.le_of_ble_eq_true rfl⟩) (pz_S (x := []) (b := ([] : va_W)) (y := wX7 cI cZ cII aS S_thrown S_s S_aside S_saved S_savedMany S_text S_length S_fetched S_predicted S_fetchedMany S_fetchedWay S_spot S_isWrong S_executedByText ++ []) hK hN hP hD (by simp only [List.append_assoc, List.nil_append, List.append_nil])) rfl rfl hl.1 rfl (lv_room (Nat.le_of_ble_eq_true rfl)) dX7_looks_150 ⟨Nat.le_of_ble_eq_true rfl, Nat.le_of_ble_eq_true rfl⟩) hP hD hS hA (by simp only [List.append_assoc, List.nil_append, List.append_nil]) (by simp only [List.append_assoc, List.nil_append, List.append_nil]) (fun H locs hP hD hS => ?_)
        obtain ⟨g153, hf⟩ := gd_t hf
        refine va_iald hx hb hK hP 1 0 rfl rfl (inb_t g153) dX7_looks_153 ?_
        obtain ⟨y154, h154, hf⟩ := bn_t hf
        refine z_av (x := []) (b := wX7 cI cZ cII aS S_thrown S_s S_aside S_saved S_savedMany S_text S_length S_fetched S_predicted S_fetchedMany S_fetchedWay S_spot S_isWrong S_executedByText ++ []) (y := ([] : va_W)) (b1 := wX7 cI cZ cII aS S_thrown S_s S_aside S_saved S_savedMany S_text S_length y154.1 y154.2.1 y154.2.2 S_fetchedWay S_spot S_isWrong S_executedByText ++ []) (wsn := wX7 cI cZ cII aS S_thrown S_s S_aside S_saved S_savedMany S_text S_length y154.1 y154.2.1 y154.2.2 S_fetchedWay S_spot S_isWrong S_executedByText ++ []) (va_runV (As := [.int (S_s (Int32.toNatClampNeg y150))]) (rest := []) ⟨hx, hb, hml, hown, hts⟩ (c_X7_fetchesOne l D cI cZ cII cJ cM aS S_thrown S_s S_aside S_saved S_savedMany S_text S_length S_fetched S_predicted S_fetchedMany S_fetchedWay S_spot S_isWrong S_executedByText (S_s (Int32.toNatClampNeg y150)) H.size y154 h154) (cwV 1 hts gX7_looks_X7_fetchesOne rfl rfl rfl (by decide +kernel) ⟨Nat.le_of_ble_eq_true rfl, Nat.le_of_ble_eq_true rfl⟩) (pz_V (x := []) (b := wX7 cI cZ cII aS S_thrown S_s S_aside S_saved S_savedMany S_text S_length S_fetched S_predicted S_fetchedMany S_fetchedWay S_spot S_isWrong S_executedByText ++ []) (y := ([] : va_W)) (C := RX7) (T := TX7) (N := 14) (ci := 7) (As := [.int (S_s (Int32.toNatClampNeg y150))]) (bi := 0) hK hN hP hD (by simp only [List.append_assoc, List.nil_append, List.append_nil]) rfl rfl) rfl rfl hl.1 rfl (lv_room (Nat.le_of_ble_eq_true rfl)) dX7_looks_154 ⟨Nat.le_of_ble_eq_true rfl, Nat.le_of_ble_eq_true rfl⟩) hP hD hS hA (by simp only [List.append_assoc, List.nil_append, List.append_nil]) (by simp only [List.append_assoc, List.nil_append, List.append_nil]) (fun H locs hP hD hS => ?_)
        obtain ⟨v157, ev157⟩ : ∃ z : Int32, z = x4 + (1 : Int32) := ⟨_, rfl⟩
        have hf := bd_t ev157 hf
        refine lv_iinc (v := v157) (lv' := [(4, .int v157), (0, .ref (aS 0)), (2, .int x2), (3, .int x3)]) hx hb dX7_looks_157 hl (k := 3) rfl (by rw [ev157]; rfl) (by decide) rfl (fun ls hl => ?_)
        refine lv_goto (tgt := 134) hx hb dX7_looks_160 (by decide) ?_
        exact ih134 y154.1 y154.2.1 y154.2.2 S_fetchedWay x2 x3 v157 _ _ _ hf hP hD hS (lv_sub hl [1, 2, 3, 0] rfl)
  have J117 : ∀ (S_fetched : Nat → Int32) (S_predicted : Nat → Int32) (S_fetchedMany : Int32) (S_fetchedWay : Int32) (x1 : Int32) (x2 : Int32) (k1 : Int32) (H : Heap) (locs : List Loc) (ls : Array Slot), m_X7_looks_117 S_s S_fetched S_predicted S_fetchedMany S_fetchedWay x1 x2 k1 = some y → va_P D vwCl (wX7 cI cZ cII aS S_thrown S_s S_aside S_saved S_savedMany S_text S_length S_fetched S_predicted S_fetchedMany S_fetchedWay S_spot S_isWrong S_executedByText ++ []) H → va_D A (wX7 cI cZ cII aS S_thrown S_s S_aside S_saved S_savedMany S_text S_length S_fetched S_predicted S_fetchedMany S_fetchedWay S_spot S_isWrong S_executedByText ++ []) → va_S A s.heap H locs → lv_has ls 6 [(0, .ref (aS 0)), (1, .int x1), (2, .int x2)] → W p l e ({ frames := 4, cells := 0, slots := 0, locals := 88 } : Room) s m args below meth c H locs 0 0 Q (F0 m 117 ls [.int k1, .ref (aS 0)]) := by
    intro S_fetched S_predicted S_fetchedMany S_fetchedWay x1 x2 k1 H locs ls hf hP hD hS hl
    unfold m_X7_looks_117 at hf
    refine va_put (D := D) (ci := 7) (v := .int k1) (ty := .int) (C := RX7) (T := TX7) (N := 14) hx hb hts inX7 tyX7 tyX7_ok nmX7 hown hK hP hD hS 0 rfl rfl 10 (by decide) kX7_83 (fun _ h9 => h9) rfl (by decide +kernel) rfl rfl (Nat.le_of_ble_eq_true rfl) dX7_looks_117 (fun H locs hP hD hS => ?_)
    have hP : va_P D vwCl (wX7 cI cZ cII aS S_thrown S_s S_aside S_saved S_savedMany S_text S_length S_fetched S_predicted S_fetchedMany k1 S_spot S_isWrong S_executedByText ++ []) H := hP
    have hD : va_D A (wX7 cI cZ cII aS S_thrown S_s S_aside S_saved S_savedMany S_text S_length S_fetched S_predicted S_fetchedMany k1 S_spot S_isWrong S_executedByText ++ []) := hD
    refine lv_iload_n hx hb dX7_looks_120 rfl (lv_at hl 2 rfl) ?_
    refine lv_iconst (v := -1) hx hb dX7_looks_121 (by decide) ?_
    refine lv_icmp_eq (tgt := 164) hx hb dX7_looks_122 (by decide) (fun c122 => ?_) (fun c122 => ?_)
    · have hf := if_t c122 hf
      refine lv_iload_n hx hb dX7_looks_164 rfl (lv_at hl 1 rfl) ?_
      refine lv_istore_n (lv' := [(3, .int x1), (0, .ref (aS 0)), (1, .int x1), (2, .int x2)]) hx hb dX7_looks_165 rfl hl (by decide) rfl (fun ls hl => ?_)
      refine lv_iconst (v := 1) hx hb dX7_looks_166 (by decide) ?_
      refine lv_istore (lv' := [(4, .int (1 : Int32)), (3, .int x1), (0, .ref (aS 0)), (1, .int x1), (2, .int x2)]) hx hb dX7_looks_167 hl (by decide) rfl (fun ls hl => ?_)
      exact J169 4000 S_fetched S_predicted S_fetchedMany k1 x1 (1 : Int32) _ _ _ hf hP hD hS (lv_sub hl [2, 1, 0] rfl)
    · have hf := if_f c122 hf
      refine lv_aload_n hx hb dX7_looks_125 rfl (lv_at hl 0 rfl) ?_
      refine lv_iload_n hx hb dX7_looks_126 rfl (lv_at hl 2 rfl) ?_
      obtain ⟨y127, h127, hf⟩ := bn_t hf
      refine z_ai (x := []) (b := wX7 cI cZ cII aS S_thrown S_s S_aside S_saved S_savedMany S_text S_length S_fetched S_predicted S_fetchedMany k1 S_spot S_isWrong S_executedByText ++ []) (y := ([] : va_W)) (b1 := wX7 cI cZ cII aS S_thrown S_s S_aside S_saved S_savedMany S_text S_length S_fetched S_predicted S_fetchedMany k1 S_spot S_isWrong S_executedByText ++ []) (wsn := wX7 cI cZ cII aS S_thrown S_s S_aside S_saved S_savedMany S_text S_length S_fetched S_predicted S_fetchedMany k1 S_spot S_isWrong S_executedByText ++ []) (va_runV (As := [.int x2]) (rest := []) ⟨hx, hb, hml, hown, hts⟩ (c_X7_usable l D cI cZ cII cJ cM aS S_thrown S_s S_aside S_saved S_savedMany S_text S_length S_fetched S_predicted S_fetchedMany k1 S_spot S_isWrong S_executedByText x2 H.size y127 h127) (cwV 1 hts gX7_looks_X7_usable rfl rfl rfl (by decide +kernel) ⟨Nat.le_of_ble_eq_true rfl, Nat.le_of_ble_eq_true rfl⟩) (pz_V (x := []) (b := wX7 cI cZ cII aS S_thrown S_s S_aside S_saved S_savedMany S_text S_length S_fetched S_predicted S_fetchedMany k1 S_spot S_isWrong S_executedByText ++ []) (y := ([] : va_W)) (C := RX7) (T := TX7) (N := 14) (ci := 7) (As := [.int x2]) (bi := 0) hK hN hP hD (by simp only [List.append_assoc, List.nil_append, List.append_nil]) rfl rfl) rfl rfl hl.1 rfl (lv_room (Nat.le_of_ble_eq_true rfl)) dX7_looks_127 ⟨Nat.le_of_ble_eq_true rfl, Nat.le_of_ble_eq_true rfl⟩) hP hD hS hA (by simp only [List.append_assoc, List.nil_append, List.append_nil]) (by simp only [List.append_assoc, List.nil_append, List.append_nil]) (fun H locs hP hD hS => ?_)
      refine lv_istore_n (lv' := [(3, .int y127), (0, .ref (aS 0)), (1, .int x1), (2, .int x2)]) hx hb dX7_looks_130 rfl hl (by decide) rfl (fun ls hl => ?_)
      refine lv_iconst (v := 0) hx hb dX7_looks_131 (by decide) ?_
      refine lv_istore (lv' := [(4, .int (0 : Int32)), (3, .int y127), (0, .ref (aS 0)), (1, .int x1), (2, .int x2)]) hx hb dX7_looks_132 hl (by decide) rfl (fun ls hl => ?_)
      exact J134 4000 S_fetched S_predicted S_fetchedMany k1 x2 y127 (0 : Int32) _ _ _ hf hP hD hS (lv_sub hl [2, 4, 1, 0] rfl)
  have J18 : ∀ (n18 : Nat), ∀ (S_fetched : Nat → Int32) (S_predicted : Nat → Int32) (S_fetchedMany : Int32) (S_fetchedWay : Int32) (x1 : Int32) (x2 : Int32) (x3 : Int32) (H : Heap) (locs : List Loc) (ls : Array Slot), m_X7_looks_18 S_s n18 S_fetched S_predicted S_fetchedMany S_fetchedWay x1 x2 x3 = some y → va_P D vwCl (wX7 cI cZ cII aS S_thrown S_s S_aside S_saved S_savedMany S_text S_length S_fetched S_predicted S_fetchedMany S_fetchedWay S_spot S_isWrong S_executedByText ++ []) H → va_D A (wX7 cI cZ cII aS S_thrown S_s S_aside S_saved S_savedMany S_text S_length S_fetched S_predicted S_fetchedMany S_fetchedWay S_spot S_isWrong S_executedByText ++ []) → va_S A s.heap H locs → lv_has ls 6 [(0, .ref (aS 0)), (1, .int x1), (2, .int x2), (3, .int x3)] → W p l e ({ frames := 4, cells := 0, slots := 0, locals := 88 } : Room) s m args below meth c H locs 0 0 Q (F0 m 18 ls []) := by
    intro n18
    induction n18 with
    | zero =>
      intro S_fetched S_predicted S_fetchedMany S_fetchedWay x1 x2 x3 H locs ls hf hP hD hS hl
      rw [m_X7_looks_18] at hf
      cases hf
    | succ n18 ih18 =>
      have J97 : ∀ (S_fetched : Nat → Int32) (S_predicted : Nat → Int32) (S_fetchedMany : Int32) (S_fetchedWay : Int32) (x1 : Int32) (x3 : Int32) (k0 : Int32) (H : Heap) (locs : List Loc) (ls : Array Slot), m_X7_looks_97 S_s (m_X7_looks_18 S_s n18) S_fetched S_predicted S_fetchedMany S_fetchedWay x1 x3 k0 = some y → va_P D vwCl (wX7 cI cZ cII aS S_thrown S_s S_aside S_saved S_savedMany S_text S_length S_fetched S_predicted S_fetchedMany S_fetchedWay S_spot S_isWrong S_executedByText ++ []) H → va_D A (wX7 cI cZ cII aS S_thrown S_s S_aside S_saved S_savedMany S_text S_length S_fetched S_predicted S_fetchedMany S_fetchedWay S_spot S_isWrong S_executedByText ++ []) → va_S A s.heap H locs → lv_has ls 6 [(0, .ref (aS 0)), (1, .int x1), (3, .int x3)] → W p l e ({ frames := 4, cells := 0, slots := 0, locals := 88 } : Room) s m args below meth c H locs 0 0 Q (F0 m 97 ls [.int k0]) := by
        intro S_fetched S_predicted S_fetchedMany S_fetchedWay x1 x3 k0 H locs ls hf hP hD hS hl
        unfold m_X7_looks_97 at hf
        refine lv_istore_n (lv' := [(2, .int k0), (0, .ref (aS 0)), (1, .int x1), (3, .int x3)]) hx hb dX7_looks_97 rfl hl (by decide) rfl (fun ls hl => ?_)
        obtain ⟨v98, ev98⟩ : ∃ z : Int32, z = x3 + (-1 : Int32) := ⟨_, rfl⟩
        have hf := bd_t ev98 hf
        refine lv_iinc (v := v98) (lv' := [(3, .int v98), (2, .int k0), (0, .ref (aS 0)), (1, .int x1)]) hx hb dX7_looks_98 hl (k := 3) rfl (by rw [ev98]; rfl) (by decide) rfl (fun ls hl => ?_)
        refine lv_goto (tgt := 18) hx hb dX7_looks_101 (by decide) ?_
        exact ih18 S_fetched S_predicted S_fetchedMany S_fetchedWay x1 k0 v98 _ _ _ hf hP hD hS (lv_sub hl [2, 3, 1, 0] rfl)
      have J96 : ∀ (S_fetched : Nat → Int32) (S_predicted : Nat → Int32) (S_fetchedMany : Int32) (S_fetchedWay : Int32) (x1 : Int32) (x2 : Int32) (x3 : Int32) (H : Heap) (locs : List Loc) (ls : Array Slot), m_X7_looks_96 S_s (m_X7_looks_18 S_s n18) S_fetched S_predicted S_fetchedMany S_fetchedWay x1 x2 x3 = some y → va_P D vwCl (wX7 cI cZ cII aS S_thrown S_s S_aside S_saved S_savedMany S_text S_length S_fetched S_predicted S_fetchedMany S_fetchedWay S_spot S_isWrong S_executedByText ++ []) H → va_D A (wX7 cI cZ cII aS S_thrown S_s S_aside S_saved S_savedMany S_text S_length S_fetched S_predicted S_fetchedMany S_fetchedWay S_spot S_isWrong S_executedByText ++ []) → va_S A s.heap H locs → lv_has ls 6 [(0, .ref (aS 0)), (1, .int x1), (2, .int x2), (3, .int x3)] → W p l e ({ frames := 4, cells := 0, slots := 0, locals := 88 } : Room) s m args below meth c H locs 0 0 Q (F0 m 96 ls []) := by
        intro S_fetched S_predicted S_fetchedMany S_fetchedWay x1 x2 x3 H locs ls hf hP hD hS hl
        unfold m_X7_looks_96 at hf
        refine lv_iload_n hx hb dX7_looks_96 rfl (lv_at hl 2 rfl) ?_
        exact J97 S_fetched S_predicted S_fetchedMany S_fetchedWay x1 x3 x2 _ _ _ hf hP hD hS (lv_sub hl [0, 1, 3] rfl)
      have J91 : ∀ (S_fetched : Nat → Int32) (S_predicted : Nat → Int32) (S_fetchedMany : Int32) (S_fetchedWay : Int32) (x1 : Int32) (x3 : Int32) (x4 : Int32) (H : Heap) (locs : List Loc) (ls : Array Slot), m_X7_looks_91 S_s (m_X7_looks_18 S_s n18) S_fetched S_predicted S_fetchedMany S_fetchedWay x1 x3 x4 = some y → va_P D vwCl (wX7 cI cZ cII aS S_thrown S_s S_aside S_saved S_savedMany S_text S_length S_fetched S_predicted S_fetchedMany S_fetchedWay S_spot S_isWrong S_executedByText ++ []) H → va_D A (wX7 cI cZ cII aS S_thrown S_s S_aside S_saved S_savedMany S_text S_length S_fetched S_predicted S_fetchedMany S_fetchedWay S_spot S_isWrong S_executedByText ++ []) → va_S A s.heap H locs → lv_has ls 6 [(0, .ref (aS 0)), (1, .int x1), (3, .int x3), (4, .int x4)] → W p l e ({ frames := 4, cells := 0, slots := 0, locals := 88 } : Room) s m args below meth c H locs 0 0 Q (F0 m 91 ls []) := by
        intro S_fetched S_predicted S_fetchedMany S_fetchedWay x1 x3 x4 H locs ls hf hP hD hS hl
        unfold m_X7_looks_91 at hf
        refine lv_iload hx hb dX7_looks_91 (lv_at hl 3 rfl) ?_
        refine lv_goto (tgt := 97) hx hb dX7_looks_93 (by decide) ?_
        exact J97 S_fetched S_predicted S_fetchedMany S_fetchedWay x1 x3 x4 _ _ _ hf hP hD hS (lv_sub hl [0, 1, 2] rfl)
      have J65 : ∀ (S_fetched : Nat → Int32) (S_predicted : Nat → Int32) (S_fetchedMany : Int32) (S_fetchedWay : Int32) (x1 : Int32) (x2 : Int32) (x3 : Int32) (x4 : Int32) (k0 : Int32) (H : Heap) (locs : List Loc) (ls : Array Slot), m_X7_looks_65 S_s (m_X7_looks_18 S_s n18) S_fetched S_predicted S_fetchedMany S_fetchedWay x1 x2 x3 x4 k0 = some y → va_P D vwCl (wX7 cI cZ cII aS S_thrown S_s S_aside S_saved S_savedMany S_text S_length S_fetched S_predicted S_fetchedMany S_fetchedWay S_spot S_isWrong S_executedByText ++ []) H → va_D A (wX7 cI cZ cII aS S_thrown S_s S_aside S_saved S_savedMany S_text S_length S_fetched S_predicted S_fetchedMany S_fetchedWay S_spot S_isWrong S_executedByText ++ []) → va_S A s.heap H locs → lv_has ls 6 [(0, .ref (aS 0)), (1, .int x1), (2, .int x2), (3, .int x3), (4, .int x4)] → W p l e ({ frames := 4, cells := 0, slots := 0, locals := 88 } : Room) s m args below meth c H locs 0 0 Q (F0 m 65 ls [.int k0]) := by
        intro S_fetched S_predicted S_fetchedMany S_fetchedWay x1 x2 x3 x4 k0 H locs ls hf hP hD hS hl
        unfold m_X7_looks_65 at hf
        refine lv_istore (lv' := [(5, .int k0), (0, .ref (aS 0)), (1, .int x1), (2, .int x2), (3, .int x3), (4, .int x4)]) hx hb dX7_looks_65 hl (by decide) rfl (fun ls hl => ?_)
        refine lv_iload hx hb dX7_looks_67 (lv_at hl 0 rfl) ?_
        refine lv_if_eq (tgt := 96) hx hb dX7_looks_69 (by decide) (fun c69 => ?_) (fun c69 => ?_)
        · have hf := if_t c69 hf
          exact J96 S_fetched S_predicted S_fetchedMany S_fetchedWay x1 x2 x3 _ _ _ hf hP hD hS (lv_sub hl [1, 2, 3, 4] rfl)
        · have hf := if_f c69 hf
          refine lv_iload_n hx hb dX7_looks_72 rfl (lv_at hl 3 rfl) ?_
          refine lv_iconst (v := -1) hx hb dX7_looks_73 (by decide) ?_
          refine lv_icmp_eq (tgt := 91) hx hb dX7_looks_74 (by decide) (fun c74 => ?_) (fun c74 => ?_)
          · have hf := if_t c74 hf
            exact J91 S_fetched S_predicted S_fetchedMany S_fetchedWay x1 x3 x4 _ _ _ hf hP hD hS (lv_sub hl [1, 2, 4, 5] rfl)
          · have hf := if_f c74 hf
            refine lv_aload_n hx hb dX7_looks_77 rfl (lv_at hl 1 rfl) ?_
            refine lv_iload hx hb dX7_looks_78 (lv_at hl 5 rfl) ?_
            obtain ⟨y80, h80, hf⟩ := bn_t hf
            refine z_ai (x := []) (b := wX7 cI cZ cII aS S_thrown S_s S_aside S_saved S_savedMany S_text S_length S_fetched S_predicted S_fetchedMany S_fetchedWay S_spot S_isWrong S_executedByText ++ []) (y := ([] : va_W)) (b1 := wX7 cI cZ cII aS S_thrown S_s S_aside S_saved S_savedMany S_text S_length S_fetched S_predicted S_fetchedMany S_fetchedWay S_spot S_isWrong S_executedByText ++ []) (wsn := wX7 cI cZ cII aS S_thrown S_s S_aside S_saved S_savedMany S_text S_length S_fetched S_predicted S_fetchedMany S_fetchedWay S_spot S_isWrong S_executedByText ++ []) (va_runV (As := [.int x4]) (rest := []) ⟨hx, hb, hml, hown, hts⟩ (c_X7_usable l D cI cZ cII cJ cM aS S_thrown S_s S_aside S_saved S_savedMany S_text S_length S_fetched S_predicted S_fetchedMany S_fetchedWay S_spot S_isWrong S_executedByText x4 H.size y80 h80) (cwV 1 hts gX7_looks_X7_usable rfl rfl rfl (by decide +kernel) ⟨Nat.le_of_ble_eq_true rfl, Nat.le_of_ble_eq_true rfl⟩) (pz_V (x := []) (b := wX7 cI cZ cII aS S_thrown S_s S_aside S_saved S_savedMany S_text S_length S_fetched S_predicted S_fetchedMany S_fetchedWay S_spot S_isWrong S_executedByText ++ []) (y := ([] : va_W)) (C := RX7) (T := TX7) (N := 14) (ci := 7) (As := [.int x4]) (bi := 0) hK hN hP hD (by simp only [List.append_assoc, List.nil_append, List.append_nil]) rfl rfl) rfl rfl hl.1 rfl (lv_room (Nat.le_of_ble_eq_true rfl)) dX7_looks_80 ⟨Nat.le_of_ble_eq_true rfl, Nat.le_of_ble_eq_true rfl⟩) hP hD hS hA (by simp only [List.append_assoc, List.nil_append, List.append_nil]) (by simp only [List.append_assoc, List.nil_append, List.append_nil]) (fun H locs hP hD hS => ?_)
            refine lv_aload_n hx hb dX7_looks_83 rfl (lv_at hl 1 rfl) ?_
            refine lv_iload_n hx hb dX7_looks_84 rfl (lv_at hl 3 rfl) ?_
            obtain ⟨y85, h85, hf⟩ := bn_t hf
            refine z_ai (x := []) (b := wX7 cI cZ cII aS S_thrown S_s S_aside S_saved S_savedMany S_text S_length S_fetched S_predicted S_fetchedMany S_fetchedWay S_spot S_isWrong S_executedByText ++ []) (y := ([] : va_W)) (b1 := wX7 cI cZ cII aS S_thrown S_s S_aside S_saved S_savedMany S_text S_length S_fetched S_predicted S_fetchedMany S_fetchedWay S_spot S_isWrong S_executedByText ++ []) (wsn := wX7 cI cZ cII aS S_thrown S_s S_aside S_saved S_savedMany S_text S_length S_fetched S_predicted S_fetchedMany S_fetchedWay S_spot S_isWrong S_executedByText ++ []) (va_runV (As := [.int x2]) (rest := [.int y80]) ⟨hx, hb, hml, hown, hts⟩ (c_X7_usable l D cI cZ cII cJ cM aS S_thrown S_s S_aside S_saved S_savedMany S_text S_length S_fetched S_predicted S_fetchedMany S_fetchedWay S_spot S_isWrong S_executedByText x2 H.size y85 h85) (cwV 1 hts gX7_looks_X7_usable rfl rfl rfl (by decide +kernel) ⟨Nat.le_of_ble_eq_true rfl, Nat.le_of_ble_eq_true rfl⟩) (pz_V (x := []) (b := wX7 cI cZ cII aS S_thrown S_s S_aside S_saved S_savedMany S_text S_length S_fetched S_predicted S_fetchedMany S_fetchedWay S_spot S_isWrong S_executedByText ++ []) (y := ([] : va_W)) (C := RX7) (T := TX7) (N := 14) (ci := 7) (As := [.int x2]) (bi := 0) hK hN hP hD (by simp only [List.append_assoc, List.nil_append, List.append_nil]) rfl rfl) rfl rfl hl.1 rfl (lv_room (Nat.le_of_ble_eq_true rfl)) dX7_looks_85 ⟨Nat.le_of_ble_eq_true rfl, Nat.le_of_ble_eq_true rfl⟩) hP hD hS hA (by simp only [List.append_assoc, List.nil_append, List.append_nil]) (by simp only [List.append_assoc, List.nil_append, List.append_nil]) (fun H locs hP hD hS => ?_)
            refine lv_icmp_lt (tgt := 96) hx hb dX7_looks_88 (by decide) (fun c88 => ?_) (fun c88 => ?_)
            · have hf := if_t c88 hf
              exact J96 S_fetched S_predicted S_fetchedMany S_fetchedWay x1 x2 x3 _ _ _ hf hP hD hS (lv_sub hl [1, 2, 3, 4] rfl)
            · have hf := if_f c88 hf
              exact J91 S_fetched S_predicted S_fetchedMany S_fetchedWay x1 x3 x4 _ _ _ hf hP hD hS (lv_sub hl [1, 2, 4, 5] rfl)
      have J64 : ∀ (S_fetched : Nat → Int32) (S_predicted : Nat → Int32) (S_fetchedMany : Int32) (S_fetchedWay : Int32) (x1 : Int32) (x2 : Int32) (x3 : Int32) (x4 : Int32) (H : Heap) (locs : List Loc) (ls : Array Slot), m_X7_looks_64 S_s (m_X7_looks_18 S_s n18) S_fetched S_predicted S_fetchedMany S_fetchedWay x1 x2 x3 x4 = some y → va_P D vwCl (wX7 cI cZ cII aS S_thrown S_s S_aside S_saved S_savedMany S_text S_length S_fetched S_predicted S_fetchedMany S_fetchedWay S_spot S_isWrong S_executedByText ++ []) H → va_D A (wX7 cI cZ cII aS S_thrown S_s S_aside S_saved S_savedMany S_text S_length S_fetched S_predicted S_fetchedMany S_fetchedWay S_spot S_isWrong S_executedByText ++ []) → va_S A s.heap H locs → lv_has ls 6 [(0, .ref (aS 0)), (1, .int x1), (2, .int x2), (3, .int x3), (4, .int x4)] → W p l e ({ frames := 4, cells := 0, slots := 0, locals := 88 } : Room) s m args below meth c H locs 0 0 Q (F0 m 64 ls []) := by
        intro S_fetched S_predicted S_fetchedMany S_fetchedWay x1 x2 x3 x4 H locs ls hf hP hD hS hl
        unfold m_X7_looks_64 at hf
        refine lv_iconst (v := 0) hx hb dX7_looks_64 (by decide) ?_
        exact J65 S_fetched S_predicted S_fetchedMany S_fetchedWay x1 x2 x3 x4 (0 : Int32) _ _ _ hf hP hD hS (lv_sub hl [0, 1, 2, 3, 4] rfl)
      intro S_fetched S_predicted S_fetchedMany S_fetchedWay x1 x2 x3 H locs ls hf hP hD hS hl
      rw [m_X7_looks_18] at hf
      refine lv_iload_n hx hb dX7_looks_18 rfl (lv_at hl 3 rfl) ?_
      refine lv_if_lt (tgt := 104) hx hb dX7_looks_19 (by decide) (fun c19 => ?_) (fun c19 => ?_)
      · have hf := if_t c19 hf
        refine lv_aload_n hx hb dX7_looks_104 rfl (lv_at hl 0 rfl) ?_
        refine lv_iload_n hx hb dX7_looks_105 rfl (lv_at hl 2 rfl) ?_
        refine lv_iconst (v := -1) hx hb dX7_looks_106 (by decide) ?_
        refine lv_icmp_ne (tgt := 114) hx hb dX7_looks_107 (by decide) (fun c107 => ?_) (fun c107 => ?_)
        · have hf := if_f c107 hf
          refine lv_iload_n hx hb dX7_looks_114 rfl (lv_at hl 2 rfl) ?_
          refine lv_iconst (v := 2) hx hb dX7_looks_115 (by decide) ?_
          refine lv_irem hx hb dX7_looks_116 (by decide) ?_
          exact J117 S_fetched S_predicted S_fetchedMany S_fetchedWay x1 x2 (x2 - x2 / (2 : Int32) * (2 : Int32)) _ _ _ hf hP hD hS (lv_sub hl [0, 1, 2] rfl)
        · have hf := if_t c107 hf
          refine lv_iconst (v := -1) hx hb dX7_looks_110 (by decide) ?_
          refine lv_goto (tgt := 117) hx hb dX7_looks_111 (by decide) ?_
          exact J117 S_fetched S_predicted S_fetchedMany S_fetchedWay x1 x2 (-1 : Int32) _ _ _ hf hP hD hS (lv_sub hl [0, 1, 2] rfl)
      · have hf := if_f c19 hf
        refine lv_iconst (v := 2) hx hb dX7_looks_22 (by decide) ?_
        refine lv_iload_n hx hb dX7_looks_23 rfl (lv_at hl 1 rfl) ?_
        refine lv_iconst (v := 4) hx hb dX7_looks_24 (by decide) ?_
        refine lv_irem hx hb dX7_looks_25 (by decide) ?_
        refine lv_imul hx hb dX7_looks_26 ?_
        refine lv_iload_n hx hb dX7_looks_27 rfl (lv_at hl 3 rfl) ?_
        refine lv_iadd hx hb dX7_looks_28 ?_
        refine lv_topi (fun v29 ev29 => ?_)
        have hf := bd_t ev29 hf
        refine lv_istore (lv' := [(4, .int v29), (0, .ref (aS 0)), (1, .int x1), (2, .int x2), (3, .int x3)]) hx hb dX7_looks_29 hl (by decide) rfl (fun ls hl => ?_)
        refine lv_aload_n hx hb dX7_looks_31 rfl (lv_at hl 1 rfl) ?_
        refine va_get (D := D) (ci := 7) (v := .ref (aS 1)) (C := RX7) (T := TX7) (N := 14) hx hb hts inX7 hown hK hP 0 rfl rfl 1 (by decide) kX7_7 (fun _ h9 => h9) rfl dX7_looks_32 ?_
        refine lv_iload hx hb dX7_looks_35 (lv_at hl 0 rfl) ?_
        refine lv_iconst (v := 0) hx hb dX7_looks_37 (by decide) ?_
        obtain ⟨y38, h38, hf⟩ := bn_t hf
        refine z_ai (x := []) (b := ([] : va_W)) (y := wX7 cI cZ cII aS S_thrown S_s S_aside S_saved S_savedMany S_text S_length S_fetched S_predicted S_fetchedMany S_fetchedWay S_spot S_isWrong S_executedByText ++ []) (b1 := ([] : va_W)) (wsn := wX7 cI cZ cII aS S_thrown S_s S_aside S_saved S_savedMany S_text S_length S_fetched S_predicted S_fetchedMany S_fetchedWay S_spot S_isWrong S_executedByText ++ []) (va_runS (As := [.int v29, .int (0 : Int32)]) (rest := [.ref (aS 1)]) ⟨hx, hb, hml, hown, hts⟩ (c_X7_ofLine l D cI cZ cII cJ cM v29 (0 : Int32) H.size y38 h38) (va_cwS 2 hts gX7_looks_X7_ofLine rfl rfl rfl (by decide +kernel) ⟨Nat.le_of_ble_eq_true rfl, Nat.le_of_ble_eq_true rfl⟩) (pz_S (x := []) (b := ([] : va_W)) (y := wX7 cI cZ cII aS S_thrown S_s S_aside S_saved S_savedMany S_text S_length S_fetched S_predicted S_fetchedMany S_fetchedWay S_spot S_isWrong S_executedByText ++ []) hK hN hP hD (by simp only [List.append_assoc, List.nil_append, List.append_nil])) rfl rfl hl.1 rfl (lv_room (Nat.le_of_ble_eq_true rfl)) dX7_looks_38 ⟨Nat.le_of_ble_eq_true rfl, Nat.le_of_ble_eq_true rfl⟩) hP hD hS hA (by simp only [List.append_assoc, List.nil_append, List.append_nil]) (by simp only [List.append_assoc, List.nil_append, List.append_nil]) (fun H locs hP hD hS => ?_)
        obtain ⟨g41, hf⟩ := gd_t hf
        refine va_iald hx hb hK hP 1 0 rfl rfl (inb_t g41) dX7_looks_41 ?_
        refine lv_if_le (tgt := 64) hx hb dX7_looks_42 (by decide) (fun c42 => ?_) (fun c42 => ?_)
        · have hf := if_t c42 hf
          exact J64 S_fetched S_predicted S_fetchedMany S_fetchedWay x1 x2 x3 v29 _ _ _ hf hP hD hS (lv_sub hl [1, 2, 3, 4, 0] rfl)
        · have hf := if_f c42 hf
          refine lv_aload_n hx hb dX7_looks_45 rfl (lv_at hl 1 rfl) ?_
          refine va_get (D := D) (ci := 7) (v := .ref (aS 1)) (C := RX7) (T := TX7) (N := 14) hx hb hts inX7 hown hK hP 0 rfl rfl 1 (by decide) kX7_7 (fun _ h9 => h9) rfl dX7_looks_46 ?_
          refine lv_iload hx hb dX7_looks_49 (lv_at hl 0 rfl) ?_
          refine lv_iconst (v := 2) hx hb dX7_looks_51 (by decide) ?_
          obtain ⟨y52, h52, hf⟩ := bn_t hf
          refine z_ai (x := []) (b := ([] : va_W)) (y := wX7 cI cZ cII aS S_thrown S_s S_aside S_saved S_savedMany S_text S_length S_fetched S_predicted S_fetchedMany S_fetchedWay S_spot S_isWrong S_executedByText ++ []) (b1 := ([] : va_W)) (wsn := wX7 cI cZ cII aS S_thrown S_s S_aside S_saved S_savedMany S_text S_length S_fetched S_predicted S_fetchedMany S_fetchedWay S_spot S_isWrong S_executedByText ++ []) (va_runS (As := [.int v29, .int (2 : Int32)]) (rest := [.ref (aS 1)]) ⟨hx, hb, hml, hown, hts⟩ (c_X7_ofLine l D cI cZ cII cJ cM v29 (2 : Int32) H.size y52 h52) (va_cwS 2 hts gX7_looks_X7_ofLine rfl rfl rfl (by decide +kernel) ⟨Nat.le_of_ble_eq_true rfl, Nat.le_of_ble_eq_true rfl⟩) (pz_S (x := []) (b := ([] : va_W)) (y := wX7 cI cZ cII aS S_thrown S_s S_aside S_saved S_savedMany S_text S_length S_fetched S_predicted S_fetchedMany S_fetchedWay S_spot S_isWrong S_executedByText ++ []) hK hN hP hD (by simp only [List.append_assoc, List.nil_append, List.append_nil])) rfl rfl hl.1 rfl (lv_room (Nat.le_of_ble_eq_true rfl)) dX7_looks_52 ⟨Nat.le_of_ble_eq_true rfl, Nat.le_of_ble_eq_true rfl⟩) hP hD hS hA (by simp only [List.append_assoc, List.nil_append, List.append_nil]) (by simp only [List.append_assoc, List.nil_append, List.append_nil]) (fun H locs hP hD hS => ?_)
          obtain ⟨g55, hf⟩ := gd_t hf
          refine va_iald hx hb hK hP 1 0 rfl rfl (inb_t g55) dX7_looks_55 ?_
          refine lv_iload_n hx hb dX7_looks_56 rfl (lv_at hl 2 rfl) ?_
          refine lv_icmp_ne (tgt := 64) hx hb dX7_looks_57 (by decide) (fun c57 => ?_) (fun c57 => ?_)
          · have hf := if_f c57 hf
            exact J64 S_fetched S_predicted S_fetchedMany S_fetchedWay x1 x2 x3 v29 _ _ _ hf hP hD hS (lv_sub hl [1, 2, 3, 4, 0] rfl)
          · have hf := if_t c57 hf
            refine lv_iconst (v := 1) hx hb dX7_looks_60 (by decide) ?_
            refine lv_goto (tgt := 65) hx hb dX7_looks_61 (by decide) ?_
            exact J65 S_fetched S_predicted S_fetchedMany S_fetchedWay x1 x2 x3 v29 (1 : Int32) _ _ _ hf hP hD hS (lv_sub hl [1, 2, 3, 4, 0] rfl)
  unfold m_X7_looks at hf
  refine lv_aload_n hx hb dX7_looks_0 rfl (lv_at hl 0 rfl) ?_
  refine va_get (D := D) (ci := 7) (v := .ref (aS 1)) (C := RX7) (T := TX7) (N := 14) hx hb hts inX7 hown hK hP 0 rfl rfl 1 (by decide) kX7_7 (fun _ h9 => h9) rfl dX7_looks_1 ?_
  refine lv_sipush (v := 288) hx hb dX7_looks_4 (by decide) ?_
  obtain ⟨g7, hf⟩ := gd_t hf
  refine va_iald hx hb hK hP 1 0 rfl rfl (inb_t g7) dX7_looks_7 ?_
  refine lv_topi (fun v8 ev8 => ?_)
  have hf := bd_t ev8 hf
  refine lv_istore_n (lv' := [(1, .int v8), (0, .ref (aS 0))]) hx hb dX7_looks_8 rfl hl (by decide) rfl (fun ls hl => ?_)
  refine lv_iconst (v := -1) hx hb dX7_looks_9 (by decide) ?_
  refine lv_istore_n (lv' := [(2, .int (-1 : Int32)), (1, .int v8), (0, .ref (aS 0))]) hx hb dX7_looks_10 rfl hl (by decide) rfl (fun ls hl => ?_)
  refine lv_aload_n hx hb dX7_looks_11 rfl (lv_at hl 2 rfl) ?_
  refine lv_iconst (v := 0) hx hb dX7_looks_12 (by decide) ?_
  refine va_put (D := D) (ci := 7) (v := .int (0 : Int32)) (ty := .int) (C := RX7) (T := TX7) (N := 14) hx hb hts inX7 tyX7 tyX7_ok nmX7 hown hK hP hD hS 0 rfl rfl 9 (by decide) kX7_77 (fun _ h9 => h9) rfl (by decide +kernel) rfl rfl (Nat.le_of_ble_eq_true rfl) dX7_looks_13 (fun H locs hP hD hS => ?_)
  have hP : va_P D vwCl (wX7 cI cZ cII aS S_thrown S_s S_aside S_saved S_savedMany S_text S_length S_fetched S_predicted (0 : Int32) S_fetchedWay S_spot S_isWrong S_executedByText ++ []) H := hP
  have hD : va_D A (wX7 cI cZ cII aS S_thrown S_s S_aside S_saved S_savedMany S_text S_length S_fetched S_predicted (0 : Int32) S_fetchedWay S_spot S_isWrong S_executedByText ++ []) := hD
  refine lv_iconst (v := 1) hx hb dX7_looks_16 (by decide) ?_
  refine lv_istore_n (lv' := [(3, .int (1 : Int32)), (2, .int (-1 : Int32)), (1, .int v8), (0, .ref (aS 0))]) hx hb dX7_looks_17 rfl hl (by decide) rfl (fun ls hl => ?_)
  exact J18 4000 S_fetched S_predicted (0 : Int32) S_fetchedWay v8 (-1 : Int32) (1 : Int32) _ _ _ hf hP hD hS (lv_sub hl [3, 2, 1, 0] rfl)
set_option maxHeartbeats 8000000 in
set_option maxRecDepth 100000 in
theorem c_X7_executes (l : Launch) (D : va_G) (cI cZ cII cJ cM : ClassId) (aS : Nat → Nat) (S_thrown : Int32) (S_s : Nat → Int32) (S_aside : Nat → Int32) (S_saved : Nat → Int32) (S_savedMany : Int32) (S_text : Nat → Int32) (S_length : Int32) (S_fetched : Nat → Int32) (S_predicted : Nat → Int32) (S_fetchedMany : Int32) (S_fetchedWay : Int32) (S_spot : Int32) (S_isWrong : Int32) (S_executedByText : Int32) (x1 : Int32) (x2 : Int32) (sz : Nat) (y : (Nat → Int32)) (hf : m_X7_executes S_fetchedWay S_s x1 x2 = some y) : Met l yX7_executes wsX7_executes ({ frames := 4, cells := 0, slots := 0, locals := 88 } : Room) (va_Pc [.ref (aS 0), .int x1, .int x2] (pzPre D (zT cI cZ cII cJ cM) (wX7 cI cZ cII aS S_thrown S_s S_aside S_saved S_savedMany S_text S_length S_fetched S_predicted S_fetchedMany S_fetchedWay S_spot S_isWrong S_executedByText ++ []) sz)) (va_Qv (fun (_ : Unit) => True) (fun _ t => pzB D (zT cI cZ cII cJ cM) (va_A (wX7 cI cZ cII aS S_thrown S_s S_aside S_saved S_savedMany S_text S_length S_fetched S_predicted S_fetchedMany S_fetchedWay S_spot S_isWrong S_executedByText ++ []) sz) (wX7 cI cZ cII aS S_thrown y S_aside S_saved S_savedMany S_text S_length S_fetched S_predicted S_fetchedMany S_fetchedWay S_spot S_isWrong S_executedByText ++ []) t) (va_A (wX7 cI cZ cII aS S_thrown S_s S_aside S_saved S_savedMany S_text S_length S_fetched S_predicted S_fetchedMany S_fetchedWay S_spot S_isWrong S_executedByText ++ []) sz)) 0 0 (va_A (wX7 cI cZ cII aS S_thrown S_s S_aside S_saved S_savedMany S_text S_length S_fetched S_predicted S_fetchedMany S_fetchedWay S_spot S_isWrong S_executedByText ++ []) sz) := by
  refine z_metv (cc := cX7_executes) (maxL := 7) (by decide) rfl (Nat.le_of_ble_eq_true rfl) ?_
  intro p e s m args below meth c A ls Q H locs F hP hD hS hl hret
  obtain ⟨hx, hb, hml, hown, hts, hN, hK, hA⟩ := F
  have hown : s.vm.findClass RX7 = some m.cls := hown
  have hl : lv_has ls 7 [(0, .ref (aS 0)), (1, .int x1), (2, .int x2)] := hl
  have inX7 : ∀ w ∈ u_ws RX7 TX7 14, w ∈ wsX7_executes := by decide +kernel
  have kX7_7 := hts (.fieldLink RX7 7 "TraceCacheModel" "s" "[I") (by decide +kernel)
  have kX7_83 := hts (.fieldLink RX7 83 "TraceCacheModel" "fetchedWay" "I") (by decide +kernel)
  have J207 : ∀ (S_s : Nat → Int32) (k1 : Int32) (k2 : Int32) (k3 : Int32) (H : Heap) (locs : List Loc) (ls : Array Slot), m_X7_executes_207 S_fetchedWay x1 x2 S_s k1 k2 k3 = some y → va_P D vwCl (wX7 cI cZ cII aS S_thrown S_s S_aside S_saved S_savedMany S_text S_length S_fetched S_predicted S_fetchedMany S_fetchedWay S_spot S_isWrong S_executedByText ++ []) H → va_D A (wX7 cI cZ cII aS S_thrown S_s S_aside S_saved S_savedMany S_text S_length S_fetched S_predicted S_fetchedMany S_fetchedWay S_spot S_isWrong S_executedByText ++ []) → va_S A s.heap H locs → lv_has ls 7 [] → W p l e ({ frames := 4, cells := 0, slots := 0, locals := 88 } : Room) s m args below meth c H locs 0 0 Q (F0 m 207 ls [.int k3, .int k2, .int k1, .ref (aS 1)]) := by
    intro S_s k1 k2 k3 H locs ls hf hP hD hS hl
    unfold m_X7_executes_207 at hf
    refine lv_iadd hx hb dX7_executes_207 ?_
    obtain ⟨g208, hf⟩ := gd_t hf
    refine va_iast hx hb hK hP hD hS 1 0 rfl rfl (inb_t g208) dX7_executes_208 (fun H locs hP hD hS => ?_)
    obtain ⟨S_s_208, eS_s_208⟩ : ∃ z : Nat → Int32, z = upd S_s (Int32.toNatClampNeg k1) (k2 + k3) := ⟨_, rfl⟩
    have hf := bd_t eS_s_208 hf
    have hP : va_P D vwCl (wX7 cI cZ cII aS S_thrown S_s_208 S_aside S_saved S_savedMany S_text S_length S_fetched S_predicted S_fetchedMany S_fetchedWay S_spot S_isWrong S_executedByText ++ []) H := by rw [eS_s_208]; exact hP
    have hD : va_D A (wX7 cI cZ cII aS S_thrown S_s_208 S_aside S_saved S_savedMany S_text S_length S_fetched S_predicted S_fetchedMany S_fetchedWay S_spot S_isWrong S_executedByText ++ []) := by rw [eS_s_208]; exact hD
    obtain rfl := Option.some.inj hf
    exact hret _ _ _ _ dX7_executes_209 hP hD hS
  have J158 : ∀ (S_s : Nat → Int32) (x4 : Int32) (H : Heap) (locs : List Loc) (ls : Array Slot), m_X7_executes_158 S_fetchedWay x1 x2 S_s x4 = some y → va_P D vwCl (wX7 cI cZ cII aS S_thrown S_s S_aside S_saved S_savedMany S_text S_length S_fetched S_predicted S_fetchedMany S_fetchedWay S_spot S_isWrong S_executedByText ++ []) H → va_D A (wX7 cI cZ cII aS S_thrown S_s S_aside S_saved S_savedMany S_text S_length S_fetched S_predicted S_fetchedMany S_fetchedWay S_spot S_isWrong S_executedByText ++ []) → va_S A s.heap H locs → lv_has ls 7 [(0, .ref (aS 0)), (1, .int x1), (4, .int x4)] → W p l e ({ frames := 4, cells := 0, slots := 0, locals := 88 } : Room) s m args below meth c H locs 0 0 Q (F0 m 158 ls []) := by
    intro S_s x4 H locs ls hf hP hD hS hl
    unfold m_X7_executes_158 at hf
    refine lv_aload_n hx hb dX7_executes_158 rfl (lv_at hl 0 rfl) ?_
    refine lv_iload_n hx hb dX7_executes_159 rfl (lv_at hl 1 rfl) ?_
    obtain ⟨y160, h160, hf⟩ := bn_t hf
    refine z_av (x := []) (b := wX7 cI cZ cII aS S_thrown S_s S_aside S_saved S_savedMany S_text S_length S_fetched S_predicted S_fetchedMany S_fetchedWay S_spot S_isWrong S_executedByText ++ []) (y := ([] : va_W)) (b1 := wX7 cI cZ cII aS S_thrown y160 S_aside S_saved S_savedMany S_text S_length S_fetched S_predicted S_fetchedMany S_fetchedWay S_spot S_isWrong S_executedByText ++ []) (wsn := wX7 cI cZ cII aS S_thrown y160 S_aside S_saved S_savedMany S_text S_length S_fetched S_predicted S_fetchedMany S_fetchedWay S_spot S_isWrong S_executedByText ++ []) (va_runV (As := [.int x1]) (rest := []) ⟨hx, hb, hml, hown, hts⟩ (c_X7_adds l D cI cZ cII cJ cM aS S_thrown S_s S_aside S_saved S_savedMany S_text S_length S_fetched S_predicted S_fetchedMany S_fetchedWay S_spot S_isWrong S_executedByText x1 H.size y160 h160) (cwV 1 hts gX7_executes_X7_adds rfl rfl rfl (by decide +kernel) ⟨Nat.le_of_ble_eq_true rfl, Nat.le_of_ble_eq_true rfl⟩) (pz_V (x := []) (b := wX7 cI cZ cII aS S_thrown S_s S_aside S_saved S_savedMany S_text S_length S_fetched S_predicted S_fetchedMany S_fetchedWay S_spot S_isWrong S_executedByText ++ []) (y := ([] : va_W)) (C := RX7) (T := TX7) (N := 14) (ci := 7) (As := [.int x1]) (bi := 0) hK hN hP hD (by simp only [List.append_assoc, List.nil_append, List.append_nil]) rfl rfl) rfl rfl hl.1 rfl (lv_room (Nat.le_of_ble_eq_true rfl)) dX7_executes_160 ⟨Nat.le_of_ble_eq_true rfl, Nat.le_of_ble_eq_true rfl⟩) hP hD hS hA (by simp only [List.append_assoc, List.nil_append, List.append_nil]) (by simp only [List.append_assoc, List.nil_append, List.append_nil]) (fun H locs hP hD hS => ?_)
    refine lv_aload_n hx hb dX7_executes_163 rfl (lv_at hl 0 rfl) ?_
    refine va_get (D := D) (ci := 7) (v := .ref (aS 1)) (C := RX7) (T := TX7) (N := 14) hx hb hts inX7 hown hK hP 0 rfl rfl 1 (by decide) kX7_7 (fun _ h9 => h9) rfl dX7_executes_164 ?_
    refine lv_sipush (v := 288) hx hb dX7_executes_167 (by decide) ?_
    refine lv_iload hx hb dX7_executes_170 (lv_at hl 2 rfl) ?_
    obtain ⟨g172, hf⟩ := gd_t hf
    refine va_iast hx hb hK hP hD hS 1 0 rfl rfl (inb_t g172) dX7_executes_172 (fun H locs hP hD hS => ?_)
    obtain ⟨S_s_172, eS_s_172⟩ : ∃ z : Nat → Int32, z = upd y160 (Int32.toNatClampNeg (288 : Int32)) x4 := ⟨_, rfl⟩
    have hf := bd_t eS_s_172 hf
    have hP : va_P D vwCl (wX7 cI cZ cII aS S_thrown S_s_172 S_aside S_saved S_savedMany S_text S_length S_fetched S_predicted S_fetchedMany S_fetchedWay S_spot S_isWrong S_executedByText ++ []) H := by rw [eS_s_172]; exact hP
    have hD : va_D A (wX7 cI cZ cII aS S_thrown S_s_172 S_aside S_saved S_savedMany S_text S_length S_fetched S_predicted S_fetchedMany S_fetchedWay S_spot S_isWrong S_executedByText ++ []) := by rw [eS_s_172]; exact hD
    refine lv_aload_n hx hb dX7_executes_173 rfl (lv_at hl 0 rfl) ?_
    refine va_get (D := D) (ci := 7) (v := .ref (aS 1)) (C := RX7) (T := TX7) (N := 14) hx hb hts inX7 hown hK hP 0 rfl rfl 1 (by decide) kX7_7 (fun _ h9 => h9) rfl dX7_executes_174 ?_
    refine lv_sipush (v := 381) hx hb dX7_executes_177 (by decide) ?_
    refine lv_dup2_11 hx hb dX7_executes_180 rfl rfl ?_
    obtain ⟨g181, hf⟩ := gd_t hf
    refine va_iald hx hb hK hP 1 0 rfl rfl (inb_t g181) dX7_executes_181 ?_
    refine lv_iconst (v := 1) hx hb dX7_executes_182 (by decide) ?_
    refine lv_iadd hx hb dX7_executes_183 ?_
    obtain ⟨g184, hf⟩ := gd_t hf
    refine va_iast hx hb hK hP hD hS 1 0 rfl rfl (inb_t g184) dX7_executes_184 (fun H locs hP hD hS => ?_)
    obtain ⟨S_s_184, eS_s_184⟩ : ∃ z : Nat → Int32, z = upd S_s_172 (Int32.toNatClampNeg (381 : Int32)) ((S_s_172 (Int32.toNatClampNeg (381 : Int32))) + (1 : Int32)) := ⟨_, rfl⟩
    have hf := bd_t eS_s_184 hf
    have hP : va_P D vwCl (wX7 cI cZ cII aS S_thrown S_s_184 S_aside S_saved S_savedMany S_text S_length S_fetched S_predicted S_fetchedMany S_fetchedWay S_spot S_isWrong S_executedByText ++ []) H := by rw [eS_s_184]; exact hP
    have hD : va_D A (wX7 cI cZ cII aS S_thrown S_s_184 S_aside S_saved S_savedMany S_text S_length S_fetched S_predicted S_fetchedMany S_fetchedWay S_spot S_isWrong S_executedByText ++ []) := by rw [eS_s_184]; exact hD
    refine lv_aload_n hx hb dX7_executes_185 rfl (lv_at hl 0 rfl) ?_
    refine va_get (D := D) (ci := 7) (v := .ref (aS 1)) (C := RX7) (T := TX7) (N := 14) hx hb hts inX7 hown hK hP 0 rfl rfl 1 (by decide) kX7_7 (fun _ h9 => h9) rfl dX7_executes_186 ?_
    refine lv_sipush (v := 384) hx hb dX7_executes_189 (by decide) ?_
    refine lv_dup2_11 hx hb dX7_executes_192 rfl rfl ?_
    obtain ⟨g193, hf⟩ := gd_t hf
    refine va_iald hx hb hK hP 1 0 rfl rfl (inb_t g193) dX7_executes_193 ?_
    refine lv_aload_n hx hb dX7_executes_194 rfl (lv_at hl 0 rfl) ?_
    refine va_get (D := D) (ci := 7) (v := .int S_fetchedWay) (C := RX7) (T := TX7) (N := 14) hx hb hts inX7 hown hK hP 0 rfl rfl 10 (by decide) kX7_83 (fun _ h9 => h9) rfl dX7_executes_195 ?_
    refine lv_iconst (v := -1) hx hb dX7_executes_198 (by decide) ?_
    refine lv_icmp_ne (tgt := 206) hx hb dX7_executes_199 (by decide) (fun c199 => ?_) (fun c199 => ?_)
    · have hf := if_f c199 hf
      refine lv_iconst (v := 1) hx hb dX7_executes_206 (by decide) ?_
      exact J207 S_s_184 (384 : Int32) (S_s_184 (Int32.toNatClampNeg (384 : Int32))) (1 : Int32) _ _ _ hf hP hD hS (lv_sub hl [] rfl)
    · have hf := if_t c199 hf
      refine lv_iconst (v := 0) hx hb dX7_executes_202 (by decide) ?_
      refine lv_goto (tgt := 207) hx hb dX7_executes_203 (by decide) ?_
      exact J207 S_s_184 (384 : Int32) (S_s_184 (Int32.toNatClampNeg (384 : Int32))) (0 : Int32) _ _ _ hf hP hD hS (lv_sub hl [] rfl)
  have J156 : ∀ (S_s : Nat → Int32) (x4 : Int32) (k1 : Int32) (k2 : Int32) (k3 : Int32) (H : Heap) (locs : List Loc) (ls : Array Slot), m_X7_executes_156 S_fetchedWay x1 x2 S_s x4 k1 k2 k3 = some y → va_P D vwCl (wX7 cI cZ cII aS S_thrown S_s S_aside S_saved S_savedMany S_text S_length S_fetched S_predicted S_fetchedMany S_fetchedWay S_spot S_isWrong S_executedByText ++ []) H → va_D A (wX7 cI cZ cII aS S_thrown S_s S_aside S_saved S_savedMany S_text S_length S_fetched S_predicted S_fetchedMany S_fetchedWay S_spot S_isWrong S_executedByText ++ []) → va_S A s.heap H locs → lv_has ls 7 [(0, .ref (aS 0)), (1, .int x1), (4, .int x4)] → W p l e ({ frames := 4, cells := 0, slots := 0, locals := 88 } : Room) s m args below meth c H locs 0 0 Q (F0 m 156 ls [.int k3, .int k2, .int k1, .ref (aS 1)]) := by
    intro S_s x4 k1 k2 k3 H locs ls hf hP hD hS hl
    unfold m_X7_executes_156 at hf
    refine lv_iadd hx hb dX7_executes_156 ?_
    obtain ⟨g157, hf⟩ := gd_t hf
    refine va_iast hx hb hK hP hD hS 1 0 rfl rfl (inb_t g157) dX7_executes_157 (fun H locs hP hD hS => ?_)
    obtain ⟨S_s_157, eS_s_157⟩ : ∃ z : Nat → Int32, z = upd S_s (Int32.toNatClampNeg k1) (k2 + k3) := ⟨_, rfl⟩
    have hf := bd_t eS_s_157 hf
    have hP : va_P D vwCl (wX7 cI cZ cII aS S_thrown S_s_157 S_aside S_saved S_savedMany S_text S_length S_fetched S_predicted S_fetchedMany S_fetchedWay S_spot S_isWrong S_executedByText ++ []) H := by rw [eS_s_157]; exact hP
    have hD : va_D A (wX7 cI cZ cII aS S_thrown S_s_157 S_aside S_saved S_savedMany S_text S_length S_fetched S_predicted S_fetchedMany S_fetchedWay S_spot S_isWrong S_executedByText ++ []) := by rw [eS_s_157]; exact hD
    exact J158 S_s_157 x4 _ _ _ hf hP hD hS (lv_sub hl [0, 1, 2] rfl)
  have J135 : ∀ (S_s : Nat → Int32) (x4 : Int32) (x6 : Int32) (k1 : Int32) (k2 : Int32) (k3 : Int32) (H : Heap) (locs : List Loc) (ls : Array Slot), m_X7_executes_135 S_fetchedWay x1 x2 S_s x4 x6 k1 k2 k3 = some y → va_P D vwCl (wX7 cI cZ cII aS S_thrown S_s S_aside S_saved S_savedMany S_text S_length S_fetched S_predicted S_fetchedMany S_fetchedWay S_spot S_isWrong S_executedByText ++ []) H → va_D A (wX7 cI cZ cII aS S_thrown S_s S_aside S_saved S_savedMany S_text S_length S_fetched S_predicted S_fetchedMany S_fetchedWay S_spot S_isWrong S_executedByText ++ []) → va_S A s.heap H locs → lv_has ls 7 [(0, .ref (aS 0)), (1, .int x1), (4, .int x4), (6, .int x6)] → W p l e ({ frames := 4, cells := 0, slots := 0, locals := 88 } : Room) s m args below meth c H locs 0 0 Q (F0 m 135 ls [.int k3, .int k2, .int k1, .ref (aS 1)]) := by
    intro S_s x4 x6 k1 k2 k3 H locs ls hf hP hD hS hl
    unfold m_X7_executes_135 at hf
    refine lv_iadd hx hb dX7_executes_135 ?_
    obtain ⟨g136, hf⟩ := gd_t hf
    refine va_iast hx hb hK hP hD hS 1 0 rfl rfl (inb_t g136) dX7_executes_136 (fun H locs hP hD hS => ?_)
    obtain ⟨S_s_136, eS_s_136⟩ : ∃ z : Nat → Int32, z = upd S_s (Int32.toNatClampNeg k1) (k2 + k3) := ⟨_, rfl⟩
    have hf := bd_t eS_s_136 hf
    have hP : va_P D vwCl (wX7 cI cZ cII aS S_thrown S_s_136 S_aside S_saved S_savedMany S_text S_length S_fetched S_predicted S_fetchedMany S_fetchedWay S_spot S_isWrong S_executedByText ++ []) H := by rw [eS_s_136]; exact hP
    have hD : va_D A (wX7 cI cZ cII aS S_thrown S_s_136 S_aside S_saved S_savedMany S_text S_length S_fetched S_predicted S_fetchedMany S_fetchedWay S_spot S_isWrong S_executedByText ++ []) := by rw [eS_s_136]; exact hD
    refine lv_aload_n hx hb dX7_executes_137 rfl (lv_at hl 0 rfl) ?_
    refine va_get (D := D) (ci := 7) (v := .ref (aS 1)) (C := RX7) (T := TX7) (N := 14) hx hb hts inX7 hown hK hP 0 rfl rfl 1 (by decide) kX7_7 (fun _ h9 => h9) rfl dX7_executes_138 ?_
    refine lv_sipush (v := 379) hx hb dX7_executes_141 (by decide) ?_
    refine lv_dup2_11 hx hb dX7_executes_144 rfl rfl ?_
    obtain ⟨g145, hf⟩ := gd_t hf
    refine va_iald hx hb hK hP 1 0 rfl rfl (inb_t g145) dX7_executes_145 ?_
    refine lv_iload hx hb dX7_executes_146 (lv_at hl 3 rfl) ?_
    refine lv_if_eq (tgt := 155) hx hb dX7_executes_148 (by decide) (fun c148 => ?_) (fun c148 => ?_)
    · have hf := if_t c148 hf
      refine lv_iconst (v := 0) hx hb dX7_executes_155 (by decide) ?_
      exact J156 S_s_136 x4 (379 : Int32) (S_s_136 (Int32.toNatClampNeg (379 : Int32))) (0 : Int32) _ _ _ hf hP hD hS (lv_sub hl [0, 1, 2] rfl)
    · have hf := if_f c148 hf
      refine lv_iconst (v := 3) hx hb dX7_executes_151 (by decide) ?_
      refine lv_goto (tgt := 156) hx hb dX7_executes_152 (by decide) ?_
      exact J156 S_s_136 x4 (379 : Int32) (S_s_136 (Int32.toNatClampNeg (379 : Int32))) (3 : Int32) _ _ _ hf hP hD hS (lv_sub hl [0, 1, 2] rfl)
  have J101 : ∀ (S_s : Nat → Int32) (x4 : Int32) (x6 : Int32) (k1 : Int32) (k2 : Int32) (H : Heap) (locs : List Loc) (ls : Array Slot), m_X7_executes_101 S_fetchedWay x1 x2 S_s x4 x6 k1 k2 = some y → va_P D vwCl (wX7 cI cZ cII aS S_thrown S_s S_aside S_saved S_savedMany S_text S_length S_fetched S_predicted S_fetchedMany S_fetchedWay S_spot S_isWrong S_executedByText ++ []) H → va_D A (wX7 cI cZ cII aS S_thrown S_s S_aside S_saved S_savedMany S_text S_length S_fetched S_predicted S_fetchedMany S_fetchedWay S_spot S_isWrong S_executedByText ++ []) → va_S A s.heap H locs → lv_has ls 7 [(0, .ref (aS 0)), (1, .int x1), (4, .int x4), (6, .int x6)] → W p l e ({ frames := 4, cells := 0, slots := 0, locals := 88 } : Room) s m args below meth c H locs 0 0 Q (F0 m 101 ls [.int k2, .int k1, .ref (aS 1)]) := by
    intro S_s x4 x6 k1 k2 H locs ls hf hP hD hS hl
    unfold m_X7_executes_101 at hf
    obtain ⟨g101, hf⟩ := gd_t hf
    refine va_iast hx hb hK hP hD hS 1 0 rfl rfl (inb_t g101) dX7_executes_101 (fun H locs hP hD hS => ?_)
    obtain ⟨S_s_101, eS_s_101⟩ : ∃ z : Nat → Int32, z = upd S_s (Int32.toNatClampNeg k1) k2 := ⟨_, rfl⟩
    have hf := bd_t eS_s_101 hf
    have hP : va_P D vwCl (wX7 cI cZ cII aS S_thrown S_s_101 S_aside S_saved S_savedMany S_text S_length S_fetched S_predicted S_fetchedMany S_fetchedWay S_spot S_isWrong S_executedByText ++ []) H := by rw [eS_s_101]; exact hP
    have hD : va_D A (wX7 cI cZ cII aS S_thrown S_s_101 S_aside S_saved S_savedMany S_text S_length S_fetched S_predicted S_fetchedMany S_fetchedWay S_spot S_isWrong S_executedByText ++ []) := by rw [eS_s_101]; exact hD
    refine lv_aload_n hx hb dX7_executes_102 rfl (lv_at hl 0 rfl) ?_
    refine va_get (D := D) (ci := 7) (v := .ref (aS 1)) (C := RX7) (T := TX7) (N := 14) hx hb hts inX7 hown hK hP 0 rfl rfl 1 (by decide) kX7_7 (fun _ h9 => h9) rfl dX7_executes_103 ?_
    refine lv_iload_n hx hb dX7_executes_106 rfl (lv_at hl 1 rfl) ?_
    refine lv_iconst (v := 4) hx hb dX7_executes_107 (by decide) ?_
    obtain ⟨y108, h108, hf⟩ := bn_t hf
    refine z_ai (x := []) (b := ([] : va_W)) (y := wX7 cI cZ cII aS S_thrown S_s_101 S_aside S_saved S_savedMany S_text S_length S_fetched S_predicted S_fetchedMany S_fetchedWay S_spot S_isWrong S_executedByText ++ []) (b1 := ([] : va_W)) (wsn := wX7 cI cZ cII aS S_thrown S_s_101 S_aside S_saved S_savedMany S_text S_length S_fetched S_predicted S_fetchedMany S_fetchedWay S_spot S_isWrong S_executedByText ++ []) (va_runS (As := [.int x1, .int (4 : Int32)]) (rest := [.ref (aS 1)]) ⟨hx, hb, hml, hown, hts⟩ (c_X7_of l D cI cZ cII cJ cM x1 (4 : Int32) H.size y108 h108) (va_cwS 2 hts gX7_executes_X7_of rfl rfl rfl (by decide +kernel) ⟨Nat.le_of_ble_eq_true rfl, Nat.le_of_ble_eq_true rfl⟩) (pz_S (x := []) (b := ([] : va_W)) (y := wX7 cI cZ cII aS S_thrown S_s_101 S_aside S_saved S_savedMany S_text S_length S_fetched S_predicted S_fetchedMany S_fetchedWay S_spot S_isWrong S_executedByText ++ []) hK hN hP hD (by simp only [List.append_assoc, List.nil_append, List.append_nil])) rfl rfl hl.1 rfl (lv_room (Nat.le_of_ble_eq_true rfl)) dX7_executes_108 ⟨Nat.le_of_ble_eq_true rfl, Nat.le_of_ble_eq_true rfl⟩) hP hD hS hA (by simp only [List.append_assoc, List.nil_append, List.append_nil]) (by simp only [List.append_assoc, List.nil_append, List.append_nil]) (fun H locs hP hD hS => ?_)
    refine lv_dup2_11 hx hb dX7_executes_111 rfl rfl ?_
    obtain ⟨g112, hf⟩ := gd_t hf
    refine va_iald hx hb hK hP 1 0 rfl rfl (inb_t g112) dX7_executes_112 ?_
    refine lv_iconst (v := 1) hx hb dX7_executes_113 (by decide) ?_
    refine lv_iadd hx hb dX7_executes_114 ?_
    obtain ⟨g115, hf⟩ := gd_t hf
    refine va_iast hx hb hK hP hD hS 1 0 rfl rfl (inb_t g115) dX7_executes_115 (fun H locs hP hD hS => ?_)
    obtain ⟨S_s_115, eS_s_115⟩ : ∃ z : Nat → Int32, z = upd S_s_101 (Int32.toNatClampNeg y108) ((S_s_101 (Int32.toNatClampNeg y108)) + (1 : Int32)) := ⟨_, rfl⟩
    have hf := bd_t eS_s_115 hf
    have hP : va_P D vwCl (wX7 cI cZ cII aS S_thrown S_s_115 S_aside S_saved S_savedMany S_text S_length S_fetched S_predicted S_fetchedMany S_fetchedWay S_spot S_isWrong S_executedByText ++ []) H := by rw [eS_s_115]; exact hP
    have hD : va_D A (wX7 cI cZ cII aS S_thrown S_s_115 S_aside S_saved S_savedMany S_text S_length S_fetched S_predicted S_fetchedMany S_fetchedWay S_spot S_isWrong S_executedByText ++ []) := by rw [eS_s_115]; exact hD
    refine lv_aload_n hx hb dX7_executes_116 rfl (lv_at hl 0 rfl) ?_
    refine va_get (D := D) (ci := 7) (v := .ref (aS 1)) (C := RX7) (T := TX7) (N := 14) hx hb hts inX7 hown hK hP 0 rfl rfl 1 (by decide) kX7_7 (fun _ h9 => h9) rfl dX7_executes_117 ?_
    refine lv_sipush (v := 383) hx hb dX7_executes_120 (by decide) ?_
    refine lv_dup2_11 hx hb dX7_executes_123 rfl rfl ?_
    obtain ⟨g124, hf⟩ := gd_t hf
    refine va_iald hx hb hK hP 1 0 rfl rfl (inb_t g124) dX7_executes_124 ?_
    refine lv_iload hx hb dX7_executes_125 (lv_at hl 3 rfl) ?_
    refine lv_if_eq (tgt := 134) hx hb dX7_executes_127 (by decide) (fun c127 => ?_) (fun c127 => ?_)
    · have hf := if_t c127 hf
      refine lv_iconst (v := 0) hx hb dX7_executes_134 (by decide) ?_
      exact J135 S_s_115 x4 x6 (383 : Int32) (S_s_115 (Int32.toNatClampNeg (383 : Int32))) (0 : Int32) _ _ _ hf hP hD hS (lv_sub hl [0, 1, 2, 3] rfl)
    · have hf := if_f c127 hf
      refine lv_iconst (v := 1) hx hb dX7_executes_130 (by decide) ?_
      refine lv_goto (tgt := 135) hx hb dX7_executes_131 (by decide) ?_
      exact J135 S_s_115 x4 x6 (383 : Int32) (S_s_115 (Int32.toNatClampNeg (383 : Int32))) (1 : Int32) _ _ _ hf hP hD hS (lv_sub hl [0, 1, 2, 3] rfl)
  have J69 : ∀ (S_s : Nat → Int32) (x4 : Int32) (x5 : Int32) (k0 : Int32) (H : Heap) (locs : List Loc) (ls : Array Slot), m_X7_executes_69 S_fetchedWay x1 x2 S_s x4 x5 k0 = some y → va_P D vwCl (wX7 cI cZ cII aS S_thrown S_s S_aside S_saved S_savedMany S_text S_length S_fetched S_predicted S_fetchedMany S_fetchedWay S_spot S_isWrong S_executedByText ++ []) H → va_D A (wX7 cI cZ cII aS S_thrown S_s S_aside S_saved S_savedMany S_text S_length S_fetched S_predicted S_fetchedMany S_fetchedWay S_spot S_isWrong S_executedByText ++ []) → va_S A s.heap H locs → lv_has ls 7 [(0, .ref (aS 0)), (1, .int x1), (4, .int x4), (5, .int x5)] → W p l e ({ frames := 4, cells := 0, slots := 0, locals := 88 } : Room) s m args below meth c H locs 0 0 Q (F0 m 69 ls [.int k0]) := by
    intro S_s x4 x5 k0 H locs ls hf hP hD hS hl
    unfold m_X7_executes_69 at hf
    refine lv_istore (lv' := [(6, .int k0), (0, .ref (aS 0)), (1, .int x1), (4, .int x4), (5, .int x5)]) hx hb dX7_executes_69 hl (by decide) rfl (fun ls hl => ?_)
    refine lv_aload_n hx hb dX7_executes_71 rfl (lv_at hl 1 rfl) ?_
    refine va_get (D := D) (ci := 7) (v := .ref (aS 1)) (C := RX7) (T := TX7) (N := 14) hx hb hts inX7 hown hK hP 0 rfl rfl 1 (by decide) kX7_7 (fun _ h9 => h9) rfl dX7_executes_72 ?_
    refine lv_iload_n hx hb dX7_executes_75 rfl (lv_at hl 2 rfl) ?_
    refine lv_iconst (v := 5) hx hb dX7_executes_76 (by decide) ?_
    obtain ⟨y77, h77, hf⟩ := bn_t hf
    refine z_ai (x := []) (b := ([] : va_W)) (y := wX7 cI cZ cII aS S_thrown S_s S_aside S_saved S_savedMany S_text S_length S_fetched S_predicted S_fetchedMany S_fetchedWay S_spot S_isWrong S_executedByText ++ []) (b1 := ([] : va_W)) (wsn := wX7 cI cZ cII aS S_thrown S_s S_aside S_saved S_savedMany S_text S_length S_fetched S_predicted S_fetchedMany S_fetchedWay S_spot S_isWrong S_executedByText ++ []) (va_runS (As := [.int x1, .int (5 : Int32)]) (rest := [.ref (aS 1)]) ⟨hx, hb, hml, hown, hts⟩ (c_X7_of l D cI cZ cII cJ cM x1 (5 : Int32) H.size y77 h77) (va_cwS 2 hts gX7_executes_X7_of rfl rfl rfl (by decide +kernel) ⟨Nat.le_of_ble_eq_true rfl, Nat.le_of_ble_eq_true rfl⟩) (pz_S (x := []) (b := ([] : va_W)) (y := wX7 cI cZ cII aS S_thrown S_s S_aside S_saved S_savedMany S_text S_length S_fetched S_predicted S_fetchedMany S_fetchedWay S_spot S_isWrong S_executedByText ++ []) hK hN hP hD (by simp only [List.append_assoc, List.nil_append, List.append_nil])) rfl rfl hl.1 rfl (lv_room (Nat.le_of_ble_eq_true rfl)) dX7_executes_77 ⟨Nat.le_of_ble_eq_true rfl, Nat.le_of_ble_eq_true rfl⟩) hP hD hS hA (by simp only [List.append_assoc, List.nil_append, List.append_nil]) (by simp only [List.append_assoc, List.nil_append, List.append_nil]) (fun H locs hP hD hS => ?_)
    refine lv_iload hx hb dX7_executes_80 (lv_at hl 4 rfl) ?_
    refine lv_if_ge (tgt := 89) hx hb dX7_executes_82 (by decide) (fun c82 => ?_) (fun c82 => ?_)
    · have hf := if_t c82 hf
      refine lv_iload hx hb dX7_executes_89 (lv_at hl 4 rfl) ?_
      refine lv_iconst (v := 3) hx hb dX7_executes_91 (by decide) ?_
      refine lv_icmp_le (tgt := 99) hx hb dX7_executes_92 (by decide) (fun c92 => ?_) (fun c92 => ?_)
      · have hf := if_t c92 hf
        refine lv_iload hx hb dX7_executes_99 (lv_at hl 4 rfl) ?_
        exact J101 S_s x4 k0 y77 x5 _ _ _ hf hP hD hS (lv_sub hl [1, 2, 3, 0] rfl)
      · have hf := if_f c92 hf
        refine lv_iconst (v := 3) hx hb dX7_executes_95 (by decide) ?_
        refine lv_goto (tgt := 101) hx hb dX7_executes_96 (by decide) ?_
        exact J101 S_s x4 k0 y77 (3 : Int32) _ _ _ hf hP hD hS (lv_sub hl [1, 2, 3, 0] rfl)
    · have hf := if_f c82 hf
      refine lv_iconst (v := 0) hx hb dX7_executes_85 (by decide) ?_
      refine lv_goto (tgt := 101) hx hb dX7_executes_86 (by decide) ?_
      exact J101 S_s x4 k0 y77 (0 : Int32) _ _ _ hf hP hD hS (lv_sub hl [1, 2, 3, 0] rfl)
  have J61 : ∀ (S_s : Nat → Int32) (x4 : Int32) (x5 : Int32) (k0 : Int32) (k1 : Int32) (H : Heap) (locs : List Loc) (ls : Array Slot), m_X7_executes_61 S_fetchedWay x1 x2 S_s x4 x5 k0 k1 = some y → va_P D vwCl (wX7 cI cZ cII aS S_thrown S_s S_aside S_saved S_savedMany S_text S_length S_fetched S_predicted S_fetchedMany S_fetchedWay S_spot S_isWrong S_executedByText ++ []) H → va_D A (wX7 cI cZ cII aS S_thrown S_s S_aside S_saved S_savedMany S_text S_length S_fetched S_predicted S_fetchedMany S_fetchedWay S_spot S_isWrong S_executedByText ++ []) → va_S A s.heap H locs → lv_has ls 7 [(0, .ref (aS 0)), (1, .int x1), (4, .int x4), (5, .int x5)] → W p l e ({ frames := 4, cells := 0, slots := 0, locals := 88 } : Room) s m args below meth c H locs 0 0 Q (F0 m 61 ls [.int k1, .int k0]) := by
    intro S_s x4 x5 k0 k1 H locs ls hf hP hD hS hl
    unfold m_X7_executes_61 at hf
    refine lv_icmp_eq (tgt := 68) hx hb dX7_executes_61 (by decide) (fun c61 => ?_) (fun c61 => ?_)
    · have hf := if_t c61 hf
      refine lv_iconst (v := 0) hx hb dX7_executes_68 (by decide) ?_
      exact J69 S_s x4 x5 (0 : Int32) _ _ _ hf hP hD hS (lv_sub hl [0, 1, 2, 3] rfl)
    · have hf := if_f c61 hf
      refine lv_iconst (v := 1) hx hb dX7_executes_64 (by decide) ?_
      refine lv_goto (tgt := 69) hx hb dX7_executes_65 (by decide) ?_
      exact J69 S_s x4 x5 (1 : Int32) _ _ _ hf hP hD hS (lv_sub hl [0, 1, 2, 3] rfl)
  have J47 : ∀ (S_s : Nat → Int32) (x3 : Int32) (x4 : Int32) (k0 : Int32) (k1 : Int32) (H : Heap) (locs : List Loc) (ls : Array Slot), m_X7_executes_47 S_fetchedWay x1 x2 S_s x3 x4 k0 k1 = some y → va_P D vwCl (wX7 cI cZ cII aS S_thrown S_s S_aside S_saved S_savedMany S_text S_length S_fetched S_predicted S_fetchedMany S_fetchedWay S_spot S_isWrong S_executedByText ++ []) H → va_D A (wX7 cI cZ cII aS S_thrown S_s S_aside S_saved S_savedMany S_text S_length S_fetched S_predicted S_fetchedMany S_fetchedWay S_spot S_isWrong S_executedByText ++ []) → va_S A s.heap H locs → lv_has ls 7 [(0, .ref (aS 0)), (1, .int x1), (2, .int x2), (3, .int x3), (4, .int x4)] → W p l e ({ frames := 4, cells := 0, slots := 0, locals := 88 } : Room) s m args below meth c H locs 0 0 Q (F0 m 47 ls [.int k1, .int k0]) := by
    intro S_s x3 x4 k0 k1 H locs ls hf hP hD hS hl
    unfold m_X7_executes_47 at hf
    refine lv_iadd hx hb dX7_executes_47 ?_
    refine lv_topi (fun v48 ev48 => ?_)
    have hf := bd_t ev48 hf
    refine lv_istore (lv' := [(5, .int v48), (0, .ref (aS 0)), (1, .int x1), (2, .int x2), (3, .int x3), (4, .int x4)]) hx hb dX7_executes_48 hl (by decide) rfl (fun ls hl => ?_)
    refine lv_iload_n hx hb dX7_executes_50 rfl (lv_at hl 4 rfl) ?_
    refine lv_iload_n hx hb dX7_executes_51 rfl (lv_at hl 3 rfl) ?_
    refine lv_iconst (v := 1) hx hb dX7_executes_52 (by decide) ?_
    refine lv_icmp_ne (tgt := 60) hx hb dX7_executes_53 (by decide) (fun c53 => ?_) (fun c53 => ?_)
    · have hf := if_f c53 hf
      refine lv_iconst (v := 0) hx hb dX7_executes_60 (by decide) ?_
      exact J61 S_s x4 v48 x3 (0 : Int32) _ _ _ hf hP hD hS (lv_sub hl [1, 2, 5, 0] rfl)
    · have hf := if_t c53 hf
      refine lv_iconst (v := 1) hx hb dX7_executes_56 (by decide) ?_
      refine lv_goto (tgt := 61) hx hb dX7_executes_57 (by decide) ?_
      exact J61 S_s x4 v48 x3 (1 : Int32) _ _ _ hf hP hD hS (lv_sub hl [1, 2, 5, 0] rfl)
  unfold m_X7_executes at hf
  refine lv_aload_n hx hb dX7_executes_0 rfl (lv_at hl 0 rfl) ?_
  refine lv_iload_n hx hb dX7_executes_1 rfl (lv_at hl 1 rfl) ?_
  obtain ⟨y2, h2, hf⟩ := bn_t hf
  refine z_ai (x := []) (b := wX7 cI cZ cII aS S_thrown S_s S_aside S_saved S_savedMany S_text S_length S_fetched S_predicted S_fetchedMany S_fetchedWay S_spot S_isWrong S_executedByText ++ []) (y := ([] : va_W)) (b1 := wX7 cI cZ cII aS S_thrown S_s S_aside S_saved S_savedMany S_text S_length S_fetched S_predicted S_fetchedMany S_fetchedWay S_spot S_isWrong S_executedByText ++ []) (wsn := wX7 cI cZ cII aS S_thrown S_s S_aside S_saved S_savedMany S_text S_length S_fetched S_predicted S_fetchedMany S_fetchedWay S_spot S_isWrong S_executedByText ++ []) (va_runV (As := [.int x1]) (rest := []) ⟨hx, hb, hml, hown, hts⟩ (c_X7_isTakenNow l D cI cZ cII cJ cM aS S_thrown S_s S_aside S_saved S_savedMany S_text S_length S_fetched S_predicted S_fetchedMany S_fetchedWay S_spot S_isWrong S_executedByText x1 H.size y2 h2) (cwV 1 hts gX7_executes_X7_isTakenNow rfl rfl rfl (by decide +kernel) ⟨Nat.le_of_ble_eq_true rfl, Nat.le_of_ble_eq_true rfl⟩) (pz_V (x := []) (b := wX7 cI cZ cII aS S_thrown S_s S_aside S_saved S_savedMany S_text S_length S_fetched S_predicted S_fetchedMany S_fetchedWay S_spot S_isWrong S_executedByText ++ []) (y := ([] : va_W)) (C := RX7) (T := TX7) (N := 14) (ci := 7) (As := [.int x1]) (bi := 0) hK hN hP hD (by simp only [List.append_assoc, List.nil_append, List.append_nil]) rfl rfl) rfl rfl hl.1 rfl (lv_room (Nat.le_of_ble_eq_true rfl)) dX7_executes_2 ⟨Nat.le_of_ble_eq_true rfl, Nat.le_of_ble_eq_true rfl⟩) hP hD hS hA (by simp only [List.append_assoc, List.nil_append, List.append_nil]) (by simp only [List.append_assoc, List.nil_append, List.append_nil]) (fun H locs hP hD hS => ?_)
  refine lv_istore_n (lv' := [(3, .int y2), (0, .ref (aS 0)), (1, .int x1), (2, .int x2)]) hx hb dX7_executes_5 rfl hl (by decide) rfl (fun ls hl => ?_)
  refine lv_aload_n hx hb dX7_executes_6 rfl (lv_at hl 1 rfl) ?_
  refine lv_iload_n hx hb dX7_executes_7 rfl (lv_at hl 2 rfl) ?_
  refine lv_iload_n hx hb dX7_executes_8 rfl (lv_at hl 0 rfl) ?_
  obtain ⟨y9, h9, hf⟩ := bn_t hf
  refine z_ai (x := []) (b := wX7 cI cZ cII aS S_thrown S_s S_aside S_saved S_savedMany S_text S_length S_fetched S_predicted S_fetchedMany S_fetchedWay S_spot S_isWrong S_executedByText ++ []) (y := ([] : va_W)) (b1 := wX7 cI cZ cII aS S_thrown S_s S_aside S_saved S_savedMany S_text S_length S_fetched S_predicted S_fetchedMany S_fetchedWay S_spot S_isWrong S_executedByText ++ []) (wsn := wX7 cI cZ cII aS S_thrown S_s S_aside S_saved S_savedMany S_text S_length S_fetched S_predicted S_fetchedMany S_fetchedWay S_spot S_isWrong S_executedByText ++ []) (va_runV (As := [.int x1, .int y2]) (rest := []) ⟨hx, hb, hml, hown, hts⟩ (c_X7_successor l D cI cZ cII cJ cM aS S_thrown S_s S_aside S_saved S_savedMany S_text S_length S_fetched S_predicted S_fetchedMany S_fetchedWay S_spot S_isWrong S_executedByText x1 y2 H.size y9 h9) (cwV 2 hts gX7_executes_X7_successor rfl rfl rfl (by decide +kernel) ⟨Nat.le_of_ble_eq_true rfl, Nat.le_of_ble_eq_true rfl⟩) (pz_V (x := []) (b := wX7 cI cZ cII aS S_thrown S_s S_aside S_saved S_savedMany S_text S_length S_fetched S_predicted S_fetchedMany S_fetchedWay S_spot S_isWrong S_executedByText ++ []) (y := ([] : va_W)) (C := RX7) (T := TX7) (N := 14) (ci := 7) (As := [.int x1, .int y2]) (bi := 0) hK hN hP hD (by simp only [List.append_assoc, List.nil_append, List.append_nil]) rfl rfl) rfl rfl hl.1 rfl (lv_room (Nat.le_of_ble_eq_true rfl)) dX7_executes_9 ⟨Nat.le_of_ble_eq_true rfl, Nat.le_of_ble_eq_true rfl⟩) hP hD hS hA (by simp only [List.append_assoc, List.nil_append, List.append_nil]) (by simp only [List.append_assoc, List.nil_append, List.append_nil]) (fun H locs hP hD hS => ?_)
  refine lv_istore (lv' := [(4, .int y9), (3, .int y2), (0, .ref (aS 0)), (1, .int x1), (2, .int x2)]) hx hb dX7_executes_12 hl (by decide) rfl (fun ls hl => ?_)
  refine lv_aload_n hx hb dX7_executes_14 rfl (lv_at hl 2 rfl) ?_
  refine va_get (D := D) (ci := 7) (v := .ref (aS 1)) (C := RX7) (T := TX7) (N := 14) hx hb hts inX7 hown hK hP 0 rfl rfl 1 (by decide) kX7_7 (fun _ h9 => h9) rfl dX7_executes_15 ?_
  refine lv_iload_n hx hb dX7_executes_18 rfl (lv_at hl 3 rfl) ?_
  refine lv_iconst (v := 0) hx hb dX7_executes_19 (by decide) ?_
  obtain ⟨y20, h20, hf⟩ := bn_t hf
  refine z_ai (x := []) (b := ([] : va_W)) (y := wX7 cI cZ cII aS S_thrown S_s S_aside S_saved S_savedMany S_text S_length S_fetched S_predicted S_fetchedMany S_fetchedWay S_spot S_isWrong S_executedByText ++ []) (b1 := ([] : va_W)) (wsn := wX7 cI cZ cII aS S_thrown S_s S_aside S_saved S_savedMany S_text S_length S_fetched S_predicted S_fetchedMany S_fetchedWay S_spot S_isWrong S_executedByText ++ []) (va_runS (As := [.int x1, .int (0 : Int32)]) (rest := [.ref (aS 1)]) ⟨hx, hb, hml, hown, hts⟩ (c_X7_of l D cI cZ cII cJ cM x1 (0 : Int32) H.size y20 h20) (va_cwS 2 hts gX7_executes_X7_of rfl rfl rfl (by decide +kernel) ⟨Nat.le_of_ble_eq_true rfl, Nat.le_of_ble_eq_true rfl⟩) (pz_S (x := []) (b := ([] : va_W)) (y := wX7 cI cZ cII aS S_thrown S_s S_aside S_saved S_savedMany S_text S_length S_fetched S_predicted S_fetchedMany S_fetchedWay S_spot S_isWrong S_executedByText ++ []) hK hN hP hD (by simp only [List.append_assoc, List.nil_append, List.append_nil])) rfl rfl hl.1 rfl (lv_room (Nat.le_of_ble_eq_true rfl)) dX7_executes_20 ⟨Nat.le_of_ble_eq_true rfl, Nat.le_of_ble_eq_true rfl⟩) hP hD hS hA (by simp only [List.append_assoc, List.nil_append, List.append_nil]) (by simp only [List.append_assoc, List.nil_append, List.append_nil]) (fun H locs hP hD hS => ?_)
  obtain ⟨g23, hf⟩ := gd_t hf
  refine va_iald hx hb hK hP 1 0 rfl rfl (inb_t g23) dX7_executes_23 ?_
  refine lv_iconst (v := 2) hx hb dX7_executes_24 (by decide) ?_
  refine lv_icmp_ne (tgt := 158) hx hb dX7_executes_25 (by decide) (fun c25 => ?_) (fun c25 => ?_)
  · have hf := if_f c25 hf
    exact J158 S_s y9 _ _ _ hf hP hD hS (lv_sub hl [2, 3, 0] rfl)
  · have hf := if_t c25 hf
    refine lv_aload_n hx hb dX7_executes_28 rfl (lv_at hl 2 rfl) ?_
    refine va_get (D := D) (ci := 7) (v := .ref (aS 1)) (C := RX7) (T := TX7) (N := 14) hx hb hts inX7 hown hK hP 0 rfl rfl 1 (by decide) kX7_7 (fun _ h9 => h9) rfl dX7_executes_29 ?_
    refine lv_iload_n hx hb dX7_executes_32 rfl (lv_at hl 3 rfl) ?_
    refine lv_iconst (v := 5) hx hb dX7_executes_33 (by decide) ?_
    obtain ⟨y34, h34, hf⟩ := bn_t hf
    refine z_ai (x := []) (b := ([] : va_W)) (y := wX7 cI cZ cII aS S_thrown S_s S_aside S_saved S_savedMany S_text S_length S_fetched S_predicted S_fetchedMany S_fetchedWay S_spot S_isWrong S_executedByText ++ []) (b1 := ([] : va_W)) (wsn := wX7 cI cZ cII aS S_thrown S_s S_aside S_saved S_savedMany S_text S_length S_fetched S_predicted S_fetchedMany S_fetchedWay S_spot S_isWrong S_executedByText ++ []) (va_runS (As := [.int x1, .int (5 : Int32)]) (rest := [.ref (aS 1)]) ⟨hx, hb, hml, hown, hts⟩ (c_X7_of l D cI cZ cII cJ cM x1 (5 : Int32) H.size y34 h34) (va_cwS 2 hts gX7_executes_X7_of rfl rfl rfl (by decide +kernel) ⟨Nat.le_of_ble_eq_true rfl, Nat.le_of_ble_eq_true rfl⟩) (pz_S (x := []) (b := ([] : va_W)) (y := wX7 cI cZ cII aS S_thrown S_s S_aside S_saved S_savedMany S_text S_length S_fetched S_predicted S_fetchedMany S_fetchedWay S_spot S_isWrong S_executedByText ++ []) hK hN hP hD (by simp only [List.append_assoc, List.nil_append, List.append_nil])) rfl rfl hl.1 rfl (lv_room (Nat.le_of_ble_eq_true rfl)) dX7_executes_34 ⟨Nat.le_of_ble_eq_true rfl, Nat.le_of_ble_eq_true rfl⟩) hP hD hS hA (by simp only [List.append_assoc, List.nil_append, List.append_nil]) (by simp only [List.append_assoc, List.nil_append, List.append_nil]) (fun H locs hP hD hS => ?_)
    obtain ⟨g37, hf⟩ := gd_t hf
    refine va_iald hx hb hK hP 1 0 rfl rfl (inb_t g37) dX7_executes_37 ?_
    refine lv_iload_n hx hb dX7_executes_38 rfl (lv_at hl 1 rfl) ?_
    refine lv_if_eq (tgt := 46) hx hb dX7_executes_39 (by decide) (fun c39 => ?_) (fun c39 => ?_)
    · have hf := if_t c39 hf
      refine lv_iconst (v := -1) hx hb dX7_executes_46 (by decide) ?_
      exact J47 S_s y2 y9 (S_s (Int32.toNatClampNeg y34)) (-1 : Int32) _ _ _ hf hP hD hS (lv_sub hl [2, 3, 4, 1, 0] rfl)
    · have hf := if_f c39 hf
      refine lv_iconst (v := 1) hx hb dX7_executes_42 (by decide) ?_
      refine lv_goto (tgt := 47) hx hb dX7_executes_43 (by decide) ?_
      exact J47 S_s y2 y9 (S_s (Int32.toNatClampNeg y34)) (1 : Int32) _ _ _ hf hP hD hS (lv_sub hl [2, 3, 4, 1, 0] rfl)
