set_option maxHeartbeats 8000000 in
set_option maxRecDepth 100000 in
theorem c_X7_fetches (l : Launch) (D : va_G) (cI cZ cII cJ cM : ClassId) (aS : Nat → Nat) (S_thrown : Int32) (S_s : Nat → Int32) (S_aside : Nat → Int32) (S_saved : Nat → Int32) (S_savedMany : Int32) (S_text : Nat → Int32) (S_length : Int32) (S_fetched : Nat → Int32) (S_predicted : Nat → Int32) (S_fetchedMany : Int32) (S_fetchedWay : Int32) (S_spot : Int32) (S_isWrong : Int32) (S_executedByText : Int32) (sz : Nat) (y : (Int32) × (Nat → Int32) × (Nat → Int32) × (Nat → Int32) × (Int32) × (Int32)) (hf : m_X7_fetches S_s S_fetched S_predicted S_fetchedMany S_fetchedWay = some y) : Met l yX7_fetches wsX7_fetches ({ frames := 5, cells := 0, slots := 0, locals := 114 } : Room) (va_Pc [.ref (aS 0)] (pzPre D (zT cI cZ cII cJ cM) (wX7 cI cZ cII aS S_thrown S_s S_aside S_saved S_savedMany S_text S_length S_fetched S_predicted S_fetchedMany S_fetchedWay S_spot S_isWrong S_executedByText ++ []) sz)) (va_Qi (fun v (_ : Unit) => v = y.1) (fun _ t => pzB D (zT cI cZ cII cJ cM) (va_A (wX7 cI cZ cII aS S_thrown S_s S_aside S_saved S_savedMany S_text S_length S_fetched S_predicted S_fetchedMany S_fetchedWay S_spot S_isWrong S_executedByText ++ []) sz) (wX7 cI cZ cII aS S_thrown y.2.1 S_aside S_saved S_savedMany S_text S_length y.2.2.1 y.2.2.2.1 y.2.2.2.2.1 y.2.2.2.2.2 S_spot S_isWrong S_executedByText ++ []) t) (va_A (wX7 cI cZ cII aS S_thrown S_s S_aside S_saved S_savedMany S_text S_length S_fetched S_predicted S_fetchedMany S_fetchedWay S_spot S_isWrong S_executedByText ++ []) sz)) 0 0 (va_A (wX7 cI cZ cII aS S_thrown S_s S_aside S_saved S_savedMany S_text S_length S_fetched S_predicted S_fetchedMany S_fetchedWay S_spot S_isWrong S_executedByText ++ []) sz) := by
  refine z_meti (cc := cX7_fetches) (maxL := 2) (by decide) rfl (Nat.le_of_ble_eq_true rfl) ?_
  intro p e s m args below meth c A ls Q H locs F hP hD hS hl hret
  obtain ⟨hx, hb, hml, hown, hts, hN, hK, hA⟩ := F
  have hown : s.vm.findClass RX7 = some m.cls := hown
  have hl : lv_has ls 2 [(0, .ref (aS 0))] := hl
  have inX7 : ∀ w ∈ u_ws RX7 TX7 14, w ∈ wsX7_fetches := by decide +kernel
  have kX7_7 := hts (.fieldLink RX7 7 "TraceCacheModel" "s" "[I") (by decide +kernel)
  have kX7_22 := hts (.fieldLink RX7 22 "TraceCacheModel" "fetched" "[I") (by decide +kernel)
  have kX7_25 := hts (.fieldLink RX7 25 "TraceCacheModel" "predicted" "[I") (by decide +kernel)
  have kX7_77 := hts (.fieldLink RX7 77 "TraceCacheModel" "fetchedMany" "I") (by decide +kernel)
  have kX7_83 := hts (.fieldLink RX7 83 "TraceCacheModel" "fetchedWay" "I") (by decide +kernel)
  have J127 : ∀ (S_s : Nat → Int32) (S_fetched : Nat → Int32) (S_predicted : Nat → Int32) (S_fetchedMany : Int32) (S_fetchedWay : Int32) (x1 : Int32) (H : Heap) (locs : List Loc) (ls : Array Slot), m_X7_fetches_127 S_s S_fetched S_predicted S_fetchedMany S_fetchedWay x1 = some y → va_P D vwCl (wX7 cI cZ cII aS S_thrown S_s S_aside S_saved S_savedMany S_text S_length S_fetched S_predicted S_fetchedMany S_fetchedWay S_spot S_isWrong S_executedByText ++ []) H → va_D A (wX7 cI cZ cII aS S_thrown S_s S_aside S_saved S_savedMany S_text S_length S_fetched S_predicted S_fetchedMany S_fetchedWay S_spot S_isWrong S_executedByText ++ []) → va_S A s.heap H locs → lv_has ls 2 [(0, .ref (aS 0)), (1, .int x1)] → W p l e ({ frames := 5, cells := 0, slots := 0, locals := 114 } : Room) s m args below meth c H locs 0 0 Q (F0 m 127 ls []) := by
    intro S_s S_fetched S_predicted S_fetchedMany S_fetchedWay x1 H locs ls hf hP hD hS hl
    unfold m_X7_fetches_127 at hf
    refine lv_aload_n hx hb dX7_fetches_127 rfl (lv_at hl 0 rfl) ?_
    refine va_get (D := D) (ci := 7) (v := .ref (aS 1)) (C := RX7) (T := TX7) (N := 14) hx hb hts inX7 hown hK hP 0 rfl rfl 1 (by decide) kX7_7 (fun _ h9 => h9) rfl dX7_fetches_128 ?_
    refine lv_sipush (v := 382) hx hb dX7_fetches_131 (by decide) ?_
    refine lv_dup2_11 hx hb dX7_fetches_134 rfl rfl ?_
    obtain ⟨g135, hf⟩ := gd_t hf
    refine va_iald hx hb hK hP 1 0 rfl rfl (inb_t g135) dX7_fetches_135 ?_
    refine lv_aload_n hx hb dX7_fetches_136 rfl (lv_at hl 0 rfl) ?_
    refine va_get (D := D) (ci := 7) (v := .int S_fetchedMany) (C := RX7) (T := TX7) (N := 14) hx hb hts inX7 hown hK hP 0 rfl rfl 9 (by decide) kX7_77 (fun _ h9 => h9) rfl dX7_fetches_137 ?_
    refine lv_iload_n hx hb dX7_fetches_140 rfl (lv_at hl 1 rfl) ?_
    refine lv_isub hx hb dX7_fetches_141 ?_
    refine lv_iadd hx hb dX7_fetches_142 ?_
    obtain ⟨g143, hf⟩ := gd_t hf
    refine va_iast hx hb hK hP hD hS 1 0 rfl rfl (inb_t g143) dX7_fetches_143 (fun H locs hP hD hS => ?_)
    obtain ⟨S_s_143, eS_s_143⟩ : ∃ z : Nat → Int32, z = upd S_s (Int32.toNatClampNeg (382 : Int32)) ((S_s (Int32.toNatClampNeg (382 : Int32))) + (S_fetchedMany - x1)) := ⟨_, rfl⟩
    have hf := bd_t eS_s_143 hf
    have hP : va_P D vwCl (wX7 cI cZ cII aS S_thrown S_s_143 S_aside S_saved S_savedMany S_text S_length S_fetched S_predicted S_fetchedMany S_fetchedWay S_spot S_isWrong S_executedByText ++ []) H := by rw [eS_s_143]; exact hP
    have hD : va_D A (wX7 cI cZ cII aS S_thrown S_s_143 S_aside S_saved S_savedMany S_text S_length S_fetched S_predicted S_fetchedMany S_fetchedWay S_spot S_isWrong S_executedByText ++ []) := by rw [eS_s_143]; exact hD
    refine lv_iload_n hx hb dX7_fetches_144 rfl (lv_at hl 1 rfl) ?_
    obtain rfl := Option.some.inj hf
    exact hret _ _ _ _ _ dX7_fetches_145 rfl hP hD hS
  have J80 : ∀ (n80 : Nat), ∀ (S_s : Nat → Int32) (S_fetched : Nat → Int32) (S_predicted : Nat → Int32) (S_fetchedMany : Int32) (S_fetchedWay : Int32) (x1 : Int32) (H : Heap) (locs : List Loc) (ls : Array Slot), m_X7_fetches_80 n80 S_s S_fetched S_predicted S_fetchedMany S_fetchedWay x1 = some y → va_P D vwCl (wX7 cI cZ cII aS S_thrown S_s S_aside S_saved S_savedMany S_text S_length S_fetched S_predicted S_fetchedMany S_fetchedWay S_spot S_isWrong S_executedByText ++ []) H → va_D A (wX7 cI cZ cII aS S_thrown S_s S_aside S_saved S_savedMany S_text S_length S_fetched S_predicted S_fetchedMany S_fetchedWay S_spot S_isWrong S_executedByText ++ []) → va_S A s.heap H locs → lv_has ls 2 [(0, .ref (aS 0)), (1, .int x1)] → W p l e ({ frames := 5, cells := 0, slots := 0, locals := 114 } : Room) s m args below meth c H locs 0 0 Q (F0 m 80 ls []) := by
    intro n80
    induction n80 with
    | zero =>
      intro S_s S_fetched S_predicted S_fetchedMany S_fetchedWay x1 H locs ls hf hP hD hS hl
      rw [m_X7_fetches_80] at hf
      cases hf
    | succ n80 ih80 =>
      intro S_s S_fetched S_predicted S_fetchedMany S_fetchedWay x1 H locs ls hf hP hD hS hl
      rw [m_X7_fetches_80] at hf
      refine lv_iload_n hx hb dX7_fetches_80 rfl (lv_at hl 1 rfl) ?_
      refine lv_aload_n hx hb dX7_fetches_81 rfl (lv_at hl 0 rfl) ?_
      refine va_get (D := D) (ci := 7) (v := .int S_fetchedMany) (C := RX7) (T := TX7) (N := 14) hx hb hts inX7 hown hK hP 0 rfl rfl 9 (by decide) kX7_77 (fun _ h9 => h9) rfl dX7_fetches_82 ?_
      refine lv_icmp_ge (tgt := 127) hx hb dX7_fetches_85 (by decide) (fun c85 => ?_) (fun c85 => ?_)
      · have hf := if_t c85 hf
        exact J127 S_s S_fetched S_predicted S_fetchedMany S_fetchedWay x1 _ _ _ hf hP hD hS (lv_sub hl [0, 1] rfl)
      · have hf := if_f c85 hf
        refine lv_aload_n hx hb dX7_fetches_88 rfl (lv_at hl 0 rfl) ?_
        refine va_get (D := D) (ci := 7) (v := .ref (aS 5)) (C := RX7) (T := TX7) (N := 14) hx hb hts inX7 hown hK hP 0 rfl rfl 7 (by decide) kX7_22 (fun _ h9 => h9) rfl dX7_fetches_89 ?_
        refine lv_iload_n hx hb dX7_fetches_92 rfl (lv_at hl 1 rfl) ?_
        obtain ⟨g93, hf⟩ := gd_t hf
        refine va_iald hx hb hK hP 5 0 rfl rfl (inb_t g93) dX7_fetches_93 ?_
        refine lv_aload_n hx hb dX7_fetches_94 rfl (lv_at hl 0 rfl) ?_
        refine va_get (D := D) (ci := 7) (v := .ref (aS 1)) (C := RX7) (T := TX7) (N := 14) hx hb hts inX7 hown hK hP 0 rfl rfl 1 (by decide) kX7_7 (fun _ h9 => h9) rfl dX7_fetches_95 ?_
        refine lv_sipush (v := 288) hx hb dX7_fetches_98 (by decide) ?_
        obtain ⟨g101, hf⟩ := gd_t hf
        refine va_iald hx hb hK hP 1 0 rfl rfl (inb_t g101) dX7_fetches_101 ?_
        refine lv_icmp_ne (tgt := 127) hx hb dX7_fetches_102 (by decide) (fun c102 => ?_) (fun c102 => ?_)
        · have hf := if_f c102 hf
          exact J127 S_s S_fetched S_predicted S_fetchedMany S_fetchedWay x1 _ _ _ hf hP hD hS (lv_sub hl [0, 1] rfl)
        · have hf := if_t c102 hf
          refine lv_aload_n hx hb dX7_fetches_105 rfl (lv_at hl 0 rfl) ?_
          refine lv_aload_n hx hb dX7_fetches_106 rfl (lv_at hl 0 rfl) ?_
          refine va_get (D := D) (ci := 7) (v := .ref (aS 5)) (C := RX7) (T := TX7) (N := 14) hx hb hts inX7 hown hK hP 0 rfl rfl 7 (by decide) kX7_22 (fun _ h9 => h9) rfl dX7_fetches_107 ?_
          refine lv_iload_n hx hb dX7_fetches_110 rfl (lv_at hl 1 rfl) ?_
          obtain ⟨g111, hf⟩ := gd_t hf
          refine va_iald hx hb hK hP 5 0 rfl rfl (inb_t g111) dX7_fetches_111 ?_
          refine lv_aload_n hx hb dX7_fetches_112 rfl (lv_at hl 0 rfl) ?_
          refine va_get (D := D) (ci := 7) (v := .ref (aS 6)) (C := RX7) (T := TX7) (N := 14) hx hb hts inX7 hown hK hP 0 rfl rfl 8 (by decide) kX7_25 (fun _ h9 => h9) rfl dX7_fetches_113 ?_
          refine lv_iload_n hx hb dX7_fetches_116 rfl (lv_at hl 1 rfl) ?_
          obtain ⟨g117, hf⟩ := gd_t hf
          refine va_iald hx hb hK hP 6 0 rfl rfl (inb_t g117) dX7_fetches_117 ?_
          obtain ⟨y118, h118, hf⟩ := bn_t hf
          refine z_av (x := []) (b := wX7 cI cZ cII aS S_thrown S_s S_aside S_saved S_savedMany S_text S_length S_fetched S_predicted S_fetchedMany S_fetchedWay S_spot S_isWrong S_executedByText ++ []) (y := ([] : va_W)) (b1 := wX7 cI cZ cII aS S_thrown y118 S_aside S_saved S_savedMany S_text S_length S_fetched S_predicted S_fetchedMany S_fetchedWay S_spot S_isWrong S_executedByText ++ []) (wsn := wX7 cI cZ cII aS S_thrown y118 S_aside S_saved S_savedMany S_text S_length S_fetched S_predicted S_fetchedMany S_fetchedWay S_spot S_isWrong S_executedByText ++ []) (va_runV (As := [.int (S_fetched (Int32.toNatClampNeg x1)), .int (S_predicted (Int32.toNatClampNeg x1))]) (rest := []) ⟨hx, hb, hml, hown, hts⟩ (c_X7_executes l D cI cZ cII cJ cM aS S_thrown S_s S_aside S_saved S_savedMany S_text S_length S_fetched S_predicted S_fetchedMany S_fetchedWay S_spot S_isWrong S_executedByText (S_fetched (Int32.toNatClampNeg x1)) (S_predicted (Int32.toNatClampNeg x1)) H.size y118 h118) (cwV 2 hts gX7_fetches_X7_executes rfl rfl rfl (by decide +kernel) ⟨Nat.le_of_ble_eq_true rfl, Nat.le_of_ble_eq_true rfl⟩) (pz_V (x := []) (b := wX7 cI cZ cII aS S_thrown S_s S_aside S_saved S_savedMany S_text S_length S_fetched S_predicted S_fetchedMany S_fetchedWay S_spot S_isWrong S_executedByText ++ []) (y := ([] : va_W)) (C := RX7) (T := TX7) (N := 14) (ci := 7) (As := [.int (S_fetched (Int32.toNatClampNeg x1)), .int (S_predicted (Int32.toNatClampNeg x1))]) (bi := 0) hK hN hP hD (by simp only [List.append_assoc, List.nil_append, List.append_nil]) rfl rfl) rfl rfl hl.1 rfl (lv_room (Nat.le_of_ble_eq_true rfl)) dX7_fetches_118 ⟨Nat.le_of_ble_eq_true rfl, Nat.le_of_ble_eq_true rfl⟩) hP hD hS hA (by simp only [List.append_assoc, List.nil_append, List.append_nil]) (by simp only [List.append_assoc, List.nil_append, List.append_nil]) (fun H locs hP hD hS => ?_)
          obtain ⟨v121, ev121⟩ : ∃ z : Int32, z = x1 + (1 : Int32) := ⟨_, rfl⟩
          have hf := bd_t ev121 hf
          refine lv_iinc (v := v121) (lv' := [(1, .int v121), (0, .ref (aS 0))]) hx hb dX7_fetches_121 hl (k := 1) rfl (by rw [ev121]; rfl) (by decide) rfl (fun ls hl => ?_)
          refine lv_goto (tgt := 80) hx hb dX7_fetches_124 (by decide) ?_
          exact ih80 y118 S_fetched S_predicted S_fetchedMany S_fetchedWay v121 _ _ _ hf hP hD hS (lv_sub hl [1, 0] rfl)
  have J78 : ∀ (S_s : Nat → Int32) (S_fetched : Nat → Int32) (S_predicted : Nat → Int32) (S_fetchedMany : Int32) (S_fetchedWay : Int32) (H : Heap) (locs : List Loc) (ls : Array Slot), m_X7_fetches_78 S_s S_fetched S_predicted S_fetchedMany S_fetchedWay = some y → va_P D vwCl (wX7 cI cZ cII aS S_thrown S_s S_aside S_saved S_savedMany S_text S_length S_fetched S_predicted S_fetchedMany S_fetchedWay S_spot S_isWrong S_executedByText ++ []) H → va_D A (wX7 cI cZ cII aS S_thrown S_s S_aside S_saved S_savedMany S_text S_length S_fetched S_predicted S_fetchedMany S_fetchedWay S_spot S_isWrong S_executedByText ++ []) → va_S A s.heap H locs → lv_has ls 2 [(0, .ref (aS 0))] → W p l e ({ frames := 5, cells := 0, slots := 0, locals := 114 } : Room) s m args below meth c H locs 0 0 Q (F0 m 78 ls []) := by
    intro S_s S_fetched S_predicted S_fetchedMany S_fetchedWay H locs ls hf hP hD hS hl
    unfold m_X7_fetches_78 at hf
    refine lv_iconst (v := 0) hx hb dX7_fetches_78 (by decide) ?_
    refine lv_istore_n (lv' := [(1, .int (0 : Int32)), (0, .ref (aS 0))]) hx hb dX7_fetches_79 rfl hl (by decide) rfl (fun ls hl => ?_)
    exact J80 4000 S_s S_fetched S_predicted S_fetchedMany S_fetchedWay (0 : Int32) _ _ _ hf hP hD hS (lv_sub hl [1, 0] rfl)
  unfold m_X7_fetches at hf
  refine lv_aload_n hx hb dX7_fetches_0 rfl (lv_at hl 0 rfl) ?_
  obtain ⟨y1, h1, hf⟩ := bn_t hf
  refine z_av (x := []) (b := wX7 cI cZ cII aS S_thrown S_s S_aside S_saved S_savedMany S_text S_length S_fetched S_predicted S_fetchedMany S_fetchedWay S_spot S_isWrong S_executedByText ++ []) (y := ([] : va_W)) (b1 := wX7 cI cZ cII aS S_thrown S_s S_aside S_saved S_savedMany S_text S_length y1.1 y1.2.1 y1.2.2.1 y1.2.2.2 S_spot S_isWrong S_executedByText ++ []) (wsn := wX7 cI cZ cII aS S_thrown S_s S_aside S_saved S_savedMany S_text S_length y1.1 y1.2.1 y1.2.2.1 y1.2.2.2 S_spot S_isWrong S_executedByText ++ []) (va_runV (As := []) (rest := []) ⟨hx, hb, hml, hown, hts⟩ (c_X7_looks l D cI cZ cII cJ cM aS S_thrown S_s S_aside S_saved S_savedMany S_text S_length S_fetched S_predicted S_fetchedMany S_fetchedWay S_spot S_isWrong S_executedByText H.size y1 h1) (cwV 0 hts gX7_fetches_X7_looks rfl rfl rfl (by decide +kernel) ⟨Nat.le_of_ble_eq_true rfl, Nat.le_of_ble_eq_true rfl⟩) (pz_V (x := []) (b := wX7 cI cZ cII aS S_thrown S_s S_aside S_saved S_savedMany S_text S_length S_fetched S_predicted S_fetchedMany S_fetchedWay S_spot S_isWrong S_executedByText ++ []) (y := ([] : va_W)) (C := RX7) (T := TX7) (N := 14) (ci := 7) (As := []) (bi := 0) hK hN hP hD (by simp only [List.append_assoc, List.nil_append, List.append_nil]) rfl rfl) rfl rfl hl.1 rfl (lv_room (Nat.le_of_ble_eq_true rfl)) dX7_fetches_1 ⟨Nat.le_of_ble_eq_true rfl, Nat.le_of_ble_eq_true rfl⟩) hP hD hS hA (by simp only [List.append_assoc, List.nil_append, List.append_nil]) (by simp only [List.append_assoc, List.nil_append, List.append_nil]) (fun H locs hP hD hS => ?_)
  refine lv_aload_n hx hb dX7_fetches_4 rfl (lv_at hl 0 rfl) ?_
  refine va_get (D := D) (ci := 7) (v := .ref (aS 1)) (C := RX7) (T := TX7) (N := 14) hx hb hts inX7 hown hK hP 0 rfl rfl 1 (by decide) kX7_7 (fun _ h9 => h9) rfl dX7_fetches_5 ?_
  refine lv_sipush (v := 380) hx hb dX7_fetches_8 (by decide) ?_
  refine lv_dup2_11 hx hb dX7_fetches_11 rfl rfl ?_
  obtain ⟨g12, hf⟩ := gd_t hf
  refine va_iald hx hb hK hP 1 0 rfl rfl (inb_t g12) dX7_fetches_12 ?_
  refine lv_iconst (v := 1) hx hb dX7_fetches_13 (by decide) ?_
  refine lv_iadd hx hb dX7_fetches_14 ?_
  obtain ⟨g15, hf⟩ := gd_t hf
  refine va_iast hx hb hK hP hD hS 1 0 rfl rfl (inb_t g15) dX7_fetches_15 (fun H locs hP hD hS => ?_)
  obtain ⟨S_s_15, eS_s_15⟩ : ∃ z : Nat → Int32, z = upd S_s (Int32.toNatClampNeg (380 : Int32)) ((S_s (Int32.toNatClampNeg (380 : Int32))) + (1 : Int32)) := ⟨_, rfl⟩
  have hf := bd_t eS_s_15 hf
  have hP : va_P D vwCl (wX7 cI cZ cII aS S_thrown S_s_15 S_aside S_saved S_savedMany S_text S_length y1.1 y1.2.1 y1.2.2.1 y1.2.2.2 S_spot S_isWrong S_executedByText ++ []) H := by rw [eS_s_15]; exact hP
  have hD : va_D A (wX7 cI cZ cII aS S_thrown S_s_15 S_aside S_saved S_savedMany S_text S_length y1.1 y1.2.1 y1.2.2.1 y1.2.2.2 S_spot S_isWrong S_executedByText ++ []) := by rw [eS_s_15]; exact hD
  refine lv_aload_n hx hb dX7_fetches_16 rfl (lv_at hl 0 rfl) ?_
  refine va_get (D := D) (ci := 7) (v := .ref (aS 1)) (C := RX7) (T := TX7) (N := 14) hx hb hts inX7 hown hK hP 0 rfl rfl 1 (by decide) kX7_7 (fun _ h9 => h9) rfl dX7_fetches_17 ?_
  refine lv_sipush (v := 379) hx hb dX7_fetches_20 (by decide) ?_
  refine lv_dup2_11 hx hb dX7_fetches_23 rfl rfl ?_
  obtain ⟨g24, hf⟩ := gd_t hf
  refine va_iald hx hb hK hP 1 0 rfl rfl (inb_t g24) dX7_fetches_24 ?_
  refine lv_iconst (v := 1) hx hb dX7_fetches_25 (by decide) ?_
  refine lv_iadd hx hb dX7_fetches_26 ?_
  obtain ⟨g27, hf⟩ := gd_t hf
  refine va_iast hx hb hK hP hD hS 1 0 rfl rfl (inb_t g27) dX7_fetches_27 (fun H locs hP hD hS => ?_)
  obtain ⟨S_s_27, eS_s_27⟩ : ∃ z : Nat → Int32, z = upd S_s_15 (Int32.toNatClampNeg (379 : Int32)) ((S_s_15 (Int32.toNatClampNeg (379 : Int32))) + (1 : Int32)) := ⟨_, rfl⟩
  have hf := bd_t eS_s_27 hf
  have hP : va_P D vwCl (wX7 cI cZ cII aS S_thrown S_s_27 S_aside S_saved S_savedMany S_text S_length y1.1 y1.2.1 y1.2.2.1 y1.2.2.2 S_spot S_isWrong S_executedByText ++ []) H := by rw [eS_s_27]; exact hP
  have hD : va_D A (wX7 cI cZ cII aS S_thrown S_s_27 S_aside S_saved S_savedMany S_text S_length y1.1 y1.2.1 y1.2.2.1 y1.2.2.2 S_spot S_isWrong S_executedByText ++ []) := by rw [eS_s_27]; exact hD
  refine lv_aload_n hx hb dX7_fetches_28 rfl (lv_at hl 0 rfl) ?_
  refine va_get (D := D) (ci := 7) (v := .int y1.2.2.2) (C := RX7) (T := TX7) (N := 14) hx hb hts inX7 hown hK hP 0 rfl rfl 10 (by decide) kX7_83 (fun _ h9 => h9) rfl dX7_fetches_29 ?_
  refine lv_iconst (v := -1) hx hb dX7_fetches_32 (by decide) ?_
  refine lv_icmp_eq (tgt := 78) hx hb dX7_fetches_33 (by decide) (fun c33 => ?_) (fun c33 => ?_)
  · have hf := if_t c33 hf
    exact J78 S_s_27 y1.1 y1.2.1 y1.2.2.1 y1.2.2.2 _ _ _ hf hP hD hS (lv_sub hl [0] rfl)
  · have hf := if_f c33 hf
    refine lv_aload_n hx hb dX7_fetches_36 rfl (lv_at hl 0 rfl) ?_
    refine va_get (D := D) (ci := 7) (v := .ref (aS 1)) (C := RX7) (T := TX7) (N := 14) hx hb hts inX7 hown hK hP 0 rfl rfl 1 (by decide) kX7_7 (fun _ h9 => h9) rfl dX7_fetches_37 ?_
    refine lv_sipush (v := 385) hx hb dX7_fetches_40 (by decide) ?_
    refine lv_dup2_11 hx hb dX7_fetches_43 rfl rfl ?_
    obtain ⟨g44, hf⟩ := gd_t hf
    refine va_iald hx hb hK hP 1 0 rfl rfl (inb_t g44) dX7_fetches_44 ?_
    refine lv_iconst (v := 1) hx hb dX7_fetches_45 (by decide) ?_
    refine lv_iadd hx hb dX7_fetches_46 ?_
    obtain ⟨g47, hf⟩ := gd_t hf
    refine va_iast hx hb hK hP hD hS 1 0 rfl rfl (inb_t g47) dX7_fetches_47 (fun H locs hP hD hS => ?_)
    obtain ⟨S_s_47, eS_s_47⟩ : ∃ z : Nat → Int32, z = upd S_s_27 (Int32.toNatClampNeg (385 : Int32)) ((S_s_27 (Int32.toNatClampNeg (385 : Int32))) + (1 : Int32)) := ⟨_, rfl⟩
    have hf := bd_t eS_s_47 hf
    have hP : va_P D vwCl (wX7 cI cZ cII aS S_thrown S_s_47 S_aside S_saved S_savedMany S_text S_length y1.1 y1.2.1 y1.2.2.1 y1.2.2.2 S_spot S_isWrong S_executedByText ++ []) H := by rw [eS_s_47]; exact hP
    have hD : va_D A (wX7 cI cZ cII aS S_thrown S_s_47 S_aside S_saved S_savedMany S_text S_length y1.1 y1.2.1 y1.2.2.1 y1.2.2.2 S_spot S_isWrong S_executedByText ++ []) := by rw [eS_s_47]; exact hD
    refine lv_aload_n hx hb dX7_fetches_48 rfl (lv_at hl 0 rfl) ?_
    refine va_get (D := D) (ci := 7) (v := .ref (aS 1)) (C := RX7) (T := TX7) (N := 14) hx hb hts inX7 hown hK hP 0 rfl rfl 1 (by decide) kX7_7 (fun _ h9 => h9) rfl dX7_fetches_49 ?_
    refine lv_iconst (v := 2) hx hb dX7_fetches_52 (by decide) ?_
    refine lv_aload_n hx hb dX7_fetches_53 rfl (lv_at hl 0 rfl) ?_
    refine va_get (D := D) (ci := 7) (v := .ref (aS 1)) (C := RX7) (T := TX7) (N := 14) hx hb hts inX7 hown hK hP 0 rfl rfl 1 (by decide) kX7_7 (fun _ h9 => h9) rfl dX7_fetches_54 ?_
    refine lv_sipush (v := 288) hx hb dX7_fetches_57 (by decide) ?_
    obtain ⟨g60, hf⟩ := gd_t hf
    refine va_iald hx hb hK hP 1 0 rfl rfl (inb_t g60) dX7_fetches_60 ?_
    refine lv_iconst (v := 4) hx hb dX7_fetches_61 (by decide) ?_
    refine lv_irem hx hb dX7_fetches_62 (by decide) ?_
    refine lv_imul hx hb dX7_fetches_63 ?_
    refine lv_aload_n hx hb dX7_fetches_64 rfl (lv_at hl 0 rfl) ?_
    refine va_get (D := D) (ci := 7) (v := .int y1.2.2.2) (C := RX7) (T := TX7) (N := 14) hx hb hts inX7 hown hK hP 0 rfl rfl 10 (by decide) kX7_83 (fun _ h9 => h9) rfl dX7_fetches_65 ?_
    refine lv_iadd hx hb dX7_fetches_68 ?_
    refine lv_iconst (v := 1) hx hb dX7_fetches_69 (by decide) ?_
    obtain ⟨y70, h70, hf⟩ := bn_t hf
    refine z_ai (x := []) (b := ([] : va_W)) (y := wX7 cI cZ cII aS S_thrown S_s_47 S_aside S_saved S_savedMany S_text S_length y1.1 y1.2.1 y1.2.2.1 y1.2.2.2 S_spot S_isWrong S_executedByText ++ []) (b1 := ([] : va_W)) (wsn := wX7 cI cZ cII aS S_thrown S_s_47 S_aside S_saved S_savedMany S_text S_length y1.1 y1.2.1 y1.2.2.1 y1.2.2.2 S_spot S_isWrong S_executedByText ++ []) (va_runS (As := [.int (((2 : Int32) * ((S_s_47 (Int32.toNatClampNeg (288 : Int32))) - (S_s_47 (Int32.toNatClampNeg (288 : Int32))) / (4 : Int32) * (4 : Int32))) + y1.2.2.2), .int (1 : Int32)]) (rest := [.ref (aS 1)]) ⟨hx, hb, hml, hown, hts⟩ (c_X7_ofLine l D cI cZ cII cJ cM (((2 : Int32) * ((S_s_47 (Int32.toNatClampNeg (288 : Int32))) - (S_s_47 (Int32.toNatClampNeg (288 : Int32))) / (4 : Int32) * (4 : Int32))) + y1.2.2.2) (1 : Int32) H.size y70 h70) (va_cwS 2 hts gX7_fetches_X7_ofLine rfl rfl rfl (by decide +kernel) ⟨Nat.le_of_ble_eq_true rfl, Nat.le_of_ble_eq_true rfl⟩) (pz_S (x := []) (b := ([] : va_W)) (y := wX7 cI cZ cII aS S_thrown S_s_47 S_aside S_saved S_savedMany S_text S_length y1.1 y1.2.1 y1.2.2.1 y1.2.2.2 S_spot S_isWrong S_executedByText ++ []) hK hN hP hD (by simp only [List.append_assoc, List.nil_append, List.append_nil])) rfl rfl hl.1 rfl (lv_room (Nat.le_of_ble_eq_true rfl)) dX7_fetches_70 ⟨Nat.le_of_ble_eq_true rfl, Nat.le_of_ble_eq_true rfl⟩) hP hD hS hA (by simp only [List.append_assoc, List.nil_append, List.append_nil]) (by simp only [List.append_assoc, List.nil_append, List.append_nil]) (fun H locs hP hD hS => ?_)
    refine lv_aload_n hx hb dX7_fetches_73 rfl (lv_at hl 0 rfl) ?_
    obtain ⟨y74, h74, hf⟩ := bn_t hf
    refine z_ai (x := []) (b := wX7 cI cZ cII aS S_thrown S_s_47 S_aside S_saved S_savedMany S_text S_length y1.1 y1.2.1 y1.2.2.1 y1.2.2.2 S_spot S_isWrong S_executedByText ++ []) (y := ([] : va_W)) (b1 := wX7 cI cZ cII aS S_thrown y74.2 S_aside S_saved S_savedMany S_text S_length y1.1 y1.2.1 y1.2.2.1 y1.2.2.2 S_spot S_isWrong S_executedByText ++ []) (wsn := wX7 cI cZ cII aS S_thrown y74.2 S_aside S_saved S_savedMany S_text S_length y1.1 y1.2.1 y1.2.2.1 y1.2.2.2 S_spot S_isWrong S_executedByText ++ []) (va_runV (As := []) (rest := [.int y70, .ref (aS 1)]) ⟨hx, hb, hml, hown, hts⟩ (c_X7_nextUse l D cI cZ cII cJ cM aS S_thrown S_s_47 S_aside S_saved S_savedMany S_text S_length y1.1 y1.2.1 y1.2.2.1 y1.2.2.2 S_spot S_isWrong S_executedByText H.size y74 h74) (cwV 0 hts gX7_fetches_X7_nextUse rfl rfl rfl (by decide +kernel) ⟨Nat.le_of_ble_eq_true rfl, Nat.le_of_ble_eq_true rfl⟩) (pz_V (x := []) (b := wX7 cI cZ cII aS S_thrown S_s_47 S_aside S_saved S_savedMany S_text S_length y1.1 y1.2.1 y1.2.2.1 y1.2.2.2 S_spot S_isWrong S_executedByText ++ []) (y := ([] : va_W)) (C := RX7) (T := TX7) (N := 14) (ci := 7) (As := []) (bi := 0) hK hN hP hD (by simp only [List.append_assoc, List.nil_append, List.append_nil]) rfl rfl) rfl rfl hl.1 rfl (lv_room (Nat.le_of_ble_eq_true rfl)) dX7_fetches_74 ⟨Nat.le_of_ble_eq_true rfl, Nat.le_of_ble_eq_true rfl⟩) hP hD hS hA (by simp only [List.append_assoc, List.nil_append, List.append_nil]) (by simp only [List.append_assoc, List.nil_append, List.append_nil]) (fun H locs hP hD hS => ?_)
    obtain ⟨g77, hf⟩ := gd_t hf
    refine va_iast hx hb hK hP hD hS 1 0 rfl rfl (inb_t g77) dX7_fetches_77 (fun H locs hP hD hS => ?_)
    obtain ⟨S_s_77, eS_s_77⟩ : ∃ z : Nat → Int32, z = upd y74.2 (Int32.toNatClampNeg y70) y74.1 := ⟨_, rfl⟩
    have hf := bd_t eS_s_77 hf
    have hP : va_P D vwCl (wX7 cI cZ cII aS S_thrown S_s_77 S_aside S_saved S_savedMany S_text S_length y1.1 y1.2.1 y1.2.2.1 y1.2.2.2 S_spot S_isWrong S_executedByText ++ []) H := by rw [eS_s_77]; exact hP
    have hD : va_D A (wX7 cI cZ cII aS S_thrown S_s_77 S_aside S_saved S_savedMany S_text S_length y1.1 y1.2.1 y1.2.2.1 y1.2.2.2 S_spot S_isWrong S_executedByText ++ []) := by rw [eS_s_77]; exact hD
    exact J78 S_s_77 y1.1 y1.2.1 y1.2.2.1 y1.2.2.2 _ _ _ hf hP hD hS (lv_sub hl [0] rfl)
set_option maxHeartbeats 8000000 in
set_option maxRecDepth 100000 in
theorem c_X7_runs (l : Launch) (D : va_G) (cI cZ cII cJ cM : ClassId) (aS : Nat → Nat) (S_thrown : Int32) (S_s : Nat → Int32) (S_aside : Nat → Int32) (S_saved : Nat → Int32) (S_savedMany : Int32) (S_text : Nat → Int32) (S_length : Int32) (S_fetched : Nat → Int32) (S_predicted : Nat → Int32) (S_fetchedMany : Int32) (S_fetchedWay : Int32) (S_spot : Int32) (S_isWrong : Int32) (S_executedByText : Int32) (x1 : Int32) (sz : Nat) (y : (Int32) × (Nat → Int32) × (Nat → Int32) × (Nat → Int32) × (Int32) × (Int32)) (hf : m_X7_runs S_s S_fetched S_predicted S_fetchedMany S_fetchedWay x1 = some y) : Met l yX7_runs wsX7_runs ({ frames := 6, cells := 0, slots := 0, locals := 135 } : Room) (va_Pc [.ref (aS 0), .int x1] (pzPre D (zT cI cZ cII cJ cM) (wX7 cI cZ cII aS S_thrown S_s S_aside S_saved S_savedMany S_text S_length S_fetched S_predicted S_fetchedMany S_fetchedWay S_spot S_isWrong S_executedByText ++ []) sz)) (va_Qi (fun v (_ : Unit) => v = y.1) (fun _ t => pzB D (zT cI cZ cII cJ cM) (va_A (wX7 cI cZ cII aS S_thrown S_s S_aside S_saved S_savedMany S_text S_length S_fetched S_predicted S_fetchedMany S_fetchedWay S_spot S_isWrong S_executedByText ++ []) sz) (wX7 cI cZ cII aS S_thrown y.2.1 S_aside S_saved S_savedMany S_text S_length y.2.2.1 y.2.2.2.1 y.2.2.2.2.1 y.2.2.2.2.2 S_spot S_isWrong S_executedByText ++ []) t) (va_A (wX7 cI cZ cII aS S_thrown S_s S_aside S_saved S_savedMany S_text S_length S_fetched S_predicted S_fetchedMany S_fetchedWay S_spot S_isWrong S_executedByText ++ []) sz)) 0 0 (va_A (wX7 cI cZ cII aS S_thrown S_s S_aside S_saved S_savedMany S_text S_length S_fetched S_predicted S_fetchedMany S_fetchedWay S_spot S_isWrong S_executedByText ++ []) sz) := by
  refine z_meti (cc := cX7_runs) (maxL := 4) (by decide) rfl (Nat.le_of_ble_eq_true rfl) ?_
  intro p e s m args below meth c A ls Q H locs F hP hD hS hl hret
  obtain ⟨hx, hb, hml, hown, hts, hN, hK, hA⟩ := F
  have hown : s.vm.findClass RX7 = some m.cls := hown
  have hl : lv_has ls 4 [(0, .ref (aS 0)), (1, .int x1)] := hl
  have J4 : ∀ (n4 : Nat), ∀ (S_s : Nat → Int32) (S_fetched : Nat → Int32) (S_predicted : Nat → Int32) (S_fetchedMany : Int32) (S_fetchedWay : Int32) (x2 : Int32) (x3 : Int32) (H : Heap) (locs : List Loc) (ls : Array Slot), m_X7_runs_4 x1 n4 S_s S_fetched S_predicted S_fetchedMany S_fetchedWay x2 x3 = some y → va_P D vwCl (wX7 cI cZ cII aS S_thrown S_s S_aside S_saved S_savedMany S_text S_length S_fetched S_predicted S_fetchedMany S_fetchedWay S_spot S_isWrong S_executedByText ++ []) H → va_D A (wX7 cI cZ cII aS S_thrown S_s S_aside S_saved S_savedMany S_text S_length S_fetched S_predicted S_fetchedMany S_fetchedWay S_spot S_isWrong S_executedByText ++ []) → va_S A s.heap H locs → lv_has ls 4 [(0, .ref (aS 0)), (1, .int x1), (2, .int x2), (3, .int x3)] → W p l e ({ frames := 6, cells := 0, slots := 0, locals := 135 } : Room) s m args below meth c H locs 0 0 Q (F0 m 4 ls []) := by
    intro n4
    induction n4 with
    | zero =>
      intro S_s S_fetched S_predicted S_fetchedMany S_fetchedWay x2 x3 H locs ls hf hP hD hS hl
      rw [m_X7_runs_4] at hf
      cases hf
    | succ n4 ih4 =>
      intro S_s S_fetched S_predicted S_fetchedMany S_fetchedWay x2 x3 H locs ls hf hP hD hS hl
      rw [m_X7_runs_4] at hf
      refine lv_iload_n hx hb dX7_runs_4 rfl (lv_at hl 3 rfl) ?_
      refine lv_iload_n hx hb dX7_runs_5 rfl (lv_at hl 1 rfl) ?_
      refine lv_icmp_ge (tgt := 22) hx hb dX7_runs_6 (by decide) (fun c6 => ?_) (fun c6 => ?_)
      · have hf := if_t c6 hf
        refine lv_iload_n hx hb dX7_runs_22 rfl (lv_at hl 2 rfl) ?_
        obtain rfl := Option.some.inj hf
        exact hret _ _ _ _ _ dX7_runs_23 rfl hP hD hS
      · have hf := if_f c6 hf
        refine lv_iload_n hx hb dX7_runs_9 rfl (lv_at hl 2 rfl) ?_
        refine lv_aload_n hx hb dX7_runs_10 rfl (lv_at hl 0 rfl) ?_
        obtain ⟨y11, h11, hf⟩ := bn_t hf
        refine z_ai (x := []) (b := wX7 cI cZ cII aS S_thrown S_s S_aside S_saved S_savedMany S_text S_length S_fetched S_predicted S_fetchedMany S_fetchedWay S_spot S_isWrong S_executedByText ++ []) (y := ([] : va_W)) (b1 := wX7 cI cZ cII aS S_thrown y11.2.1 S_aside S_saved S_savedMany S_text S_length y11.2.2.1 y11.2.2.2.1 y11.2.2.2.2.1 y11.2.2.2.2.2 S_spot S_isWrong S_executedByText ++ []) (wsn := wX7 cI cZ cII aS S_thrown y11.2.1 S_aside S_saved S_savedMany S_text S_length y11.2.2.1 y11.2.2.2.1 y11.2.2.2.2.1 y11.2.2.2.2.2 S_spot S_isWrong S_executedByText ++ []) (va_runV (As := []) (rest := [.int x2]) ⟨hx, hb, hml, hown, hts⟩ (c_X7_fetches l D cI cZ cII cJ cM aS S_thrown S_s S_aside S_saved S_savedMany S_text S_length S_fetched S_predicted S_fetchedMany S_fetchedWay S_spot S_isWrong S_executedByText H.size y11 h11) (cwV 0 hts gX7_runs_X7_fetches rfl rfl rfl (by decide +kernel) ⟨Nat.le_of_ble_eq_true rfl, Nat.le_of_ble_eq_true rfl⟩) (pz_V (x := []) (b := wX7 cI cZ cII aS S_thrown S_s S_aside S_saved S_savedMany S_text S_length S_fetched S_predicted S_fetchedMany S_fetchedWay S_spot S_isWrong S_executedByText ++ []) (y := ([] : va_W)) (C := RX7) (T := TX7) (N := 14) (ci := 7) (As := []) (bi := 0) hK hN hP hD (by simp only [List.append_assoc, List.nil_append, List.append_nil]) rfl rfl) rfl rfl hl.1 rfl (lv_room (Nat.le_of_ble_eq_true rfl)) dX7_runs_11 ⟨Nat.le_of_ble_eq_true rfl, Nat.le_of_ble_eq_true rfl⟩) hP hD hS hA (by simp only [List.append_assoc, List.nil_append, List.append_nil]) (by simp only [List.append_assoc, List.nil_append, List.append_nil]) (fun H locs hP hD hS => ?_)
        refine lv_iadd hx hb dX7_runs_14 ?_
        refine lv_topi (fun v15 ev15 => ?_)
        have hf := bd_t ev15 hf
        refine lv_istore_n (lv' := [(2, .int v15), (0, .ref (aS 0)), (1, .int x1), (3, .int x3)]) hx hb dX7_runs_15 rfl hl (by decide) rfl (fun ls hl => ?_)
        obtain ⟨v16, ev16⟩ : ∃ z : Int32, z = x3 + (1 : Int32) := ⟨_, rfl⟩
        have hf := bd_t ev16 hf
        refine lv_iinc (v := v16) (lv' := [(3, .int v16), (2, .int v15), (0, .ref (aS 0)), (1, .int x1)]) hx hb dX7_runs_16 hl (k := 3) rfl (by rw [ev16]; rfl) (by decide) rfl (fun ls hl => ?_)
        refine lv_goto (tgt := 4) hx hb dX7_runs_19 (by decide) ?_
        exact ih4 y11.2.1 y11.2.2.1 y11.2.2.2.1 y11.2.2.2.2.1 y11.2.2.2.2.2 v15 v16 _ _ _ hf hP hD hS (lv_sub hl [2, 3, 1, 0] rfl)
  unfold m_X7_runs at hf
  refine lv_iconst (v := 0) hx hb dX7_runs_0 (by decide) ?_
  refine lv_istore_n (lv' := [(2, .int (0 : Int32)), (0, .ref (aS 0)), (1, .int x1)]) hx hb dX7_runs_1 rfl hl (by decide) rfl (fun ls hl => ?_)
  refine lv_iconst (v := 0) hx hb dX7_runs_2 (by decide) ?_
  refine lv_istore_n (lv' := [(3, .int (0 : Int32)), (2, .int (0 : Int32)), (0, .ref (aS 0)), (1, .int x1)]) hx hb dX7_runs_3 rfl hl (by decide) rfl (fun ls hl => ?_)
  exact J4 4000 S_s S_fetched S_predicted S_fetchedMany S_fetchedWay (0 : Int32) (0 : Int32) _ _ _ hf hP hD hS (lv_sub hl [2, 3, 1, 0] rfl)
set_option maxHeartbeats 8000000 in
set_option maxRecDepth 100000 in
theorem c_X7_empties (l : Launch) (D : va_G) (cI cZ cII cJ cM : ClassId) (aS : Nat → Nat) (S_thrown : Int32) (S_s : Nat → Int32) (S_aside : Nat → Int32) (S_saved : Nat → Int32) (S_savedMany : Int32) (S_text : Nat → Int32) (S_length : Int32) (S_fetched : Nat → Int32) (S_predicted : Nat → Int32) (S_fetchedMany : Int32) (S_fetchedWay : Int32) (S_spot : Int32) (S_isWrong : Int32) (S_executedByText : Int32) (x1 : Int32) (sz : Nat) (y : (Nat → Int32)) (hf : m_X7_empties S_s x1 = some y) : Met l yX7_empties wsX7_empties ({ frames := 1, cells := 0, slots := 0, locals := 21 } : Room) (va_Pc [.ref (aS 0), .int x1] (pzPre D (zT cI cZ cII cJ cM) (wX7 cI cZ cII aS S_thrown S_s S_aside S_saved S_savedMany S_text S_length S_fetched S_predicted S_fetchedMany S_fetchedWay S_spot S_isWrong S_executedByText ++ []) sz)) (va_Qv (fun (_ : Unit) => True) (fun _ t => pzB D (zT cI cZ cII cJ cM) (va_A (wX7 cI cZ cII aS S_thrown S_s S_aside S_saved S_savedMany S_text S_length S_fetched S_predicted S_fetchedMany S_fetchedWay S_spot S_isWrong S_executedByText ++ []) sz) (wX7 cI cZ cII aS S_thrown y S_aside S_saved S_savedMany S_text S_length S_fetched S_predicted S_fetchedMany S_fetchedWay S_spot S_isWrong S_executedByText ++ []) t) (va_A (wX7 cI cZ cII aS S_thrown S_s S_aside S_saved S_savedMany S_text S_length S_fetched S_predicted S_fetchedMany S_fetchedWay S_spot S_isWrong S_executedByText ++ []) sz)) 0 0 (va_A (wX7 cI cZ cII aS S_thrown S_s S_aside S_saved S_savedMany S_text S_length S_fetched S_predicted S_fetchedMany S_fetchedWay S_spot S_isWrong S_executedByText ++ []) sz) := by
  refine z_metv (cc := cX7_empties) (maxL := 3) (by decide) rfl (Nat.le_of_ble_eq_true rfl) ?_
  intro p e s m args below meth c A ls Q H locs F hP hD hS hl hret
  obtain ⟨hx, hb, hml, hown, hts, hN, hK, hA⟩ := F
  have hown : s.vm.findClass RX7 = some m.cls := hown
  have hl : lv_has ls 3 [(0, .ref (aS 0)), (1, .int x1)] := hl
  have inX7 : ∀ w ∈ u_ws RX7 TX7 14, w ∈ wsX7_empties := by decide +kernel
  have kX7_7 := hts (.fieldLink RX7 7 "TraceCacheModel" "s" "[I") (by decide +kernel)
  have J31 : ∀ (n31 : Nat), ∀ (S_s : Nat → Int32) (x2 : Int32) (H : Heap) (locs : List Loc) (ls : Array Slot), m_X7_empties_31 x1 n31 S_s x2 = some y → va_P D vwCl (wX7 cI cZ cII aS S_thrown S_s S_aside S_saved S_savedMany S_text S_length S_fetched S_predicted S_fetchedMany S_fetchedWay S_spot S_isWrong S_executedByText ++ []) H → va_D A (wX7 cI cZ cII aS S_thrown S_s S_aside S_saved S_savedMany S_text S_length S_fetched S_predicted S_fetchedMany S_fetchedWay S_spot S_isWrong S_executedByText ++ []) → va_S A s.heap H locs → lv_has ls 3 [(0, .ref (aS 0)), (1, .int x1), (2, .int x2)] → W p l e ({ frames := 1, cells := 0, slots := 0, locals := 21 } : Room) s m args below meth c H locs 0 0 Q (F0 m 31 ls []) := by
    intro n31
    induction n31 with
    | zero =>
      intro S_s x2 H locs ls hf hP hD hS hl
      rw [m_X7_empties_31] at hf
      cases hf
    | succ n31 ih31 =>
      intro S_s x2 H locs ls hf hP hD hS hl
      rw [m_X7_empties_31] at hf
      refine lv_iload_n hx hb dX7_empties_31 rfl (lv_at hl 2 rfl) ?_
      refine lv_bipush (v := 10) hx hb dX7_empties_32 (by decide) ?_
      refine lv_icmp_ge (tgt := 54) hx hb dX7_empties_34 (by decide) (fun c34 => ?_) (fun c34 => ?_)
      · have hf := if_t c34 hf
        obtain rfl := Option.some.inj hf
        exact hret _ _ _ _ dX7_empties_54 hP hD hS
      · have hf := if_f c34 hf
        refine lv_aload_n hx hb dX7_empties_37 rfl (lv_at hl 0 rfl) ?_
        refine va_get (D := D) (ci := 7) (v := .ref (aS 1)) (C := RX7) (T := TX7) (N := 14) hx hb hts inX7 hown hK hP 0 rfl rfl 1 (by decide) kX7_7 (fun _ h9 => h9) rfl dX7_empties_38 ?_
        refine lv_iload_n hx hb dX7_empties_41 rfl (lv_at hl 1 rfl) ?_
        refine lv_iload_n hx hb dX7_empties_42 rfl (lv_at hl 2 rfl) ?_
        obtain ⟨y43, h43, hf⟩ := bn_t hf
        refine z_ai (x := []) (b := ([] : va_W)) (y := wX7 cI cZ cII aS S_thrown S_s S_aside S_saved S_savedMany S_text S_length S_fetched S_predicted S_fetchedMany S_fetchedWay S_spot S_isWrong S_executedByText ++ []) (b1 := ([] : va_W)) (wsn := wX7 cI cZ cII aS S_thrown S_s S_aside S_saved S_savedMany S_text S_length S_fetched S_predicted S_fetchedMany S_fetchedWay S_spot S_isWrong S_executedByText ++ []) (va_runS (As := [.int x1, .int x2]) (rest := [.ref (aS 1)]) ⟨hx, hb, hml, hown, hts⟩ (c_X7_ofLine l D cI cZ cII cJ cM x1 x2 H.size y43 h43) (va_cwS 2 hts gX7_empties_X7_ofLine rfl rfl rfl (by decide +kernel) ⟨Nat.le_of_ble_eq_true rfl, Nat.le_of_ble_eq_true rfl⟩) (pz_S (x := []) (b := ([] : va_W)) (y := wX7 cI cZ cII aS S_thrown S_s S_aside S_saved S_savedMany S_text S_length S_fetched S_predicted S_fetchedMany S_fetchedWay S_spot S_isWrong S_executedByText ++ []) hK hN hP hD (by simp only [List.append_assoc, List.nil_append, List.append_nil])) rfl rfl hl.1 rfl (lv_room (Nat.le_of_ble_eq_true rfl)) dX7_empties_43 ⟨Nat.le_of_ble_eq_true rfl, Nat.le_of_ble_eq_true rfl⟩) hP hD hS hA (by simp only [List.append_assoc, List.nil_append, List.append_nil]) (by simp only [List.append_assoc, List.nil_append, List.append_nil]) (fun H locs hP hD hS => ?_)
        refine lv_iconst (v := 0) hx hb dX7_empties_46 (by decide) ?_
        obtain ⟨g47, hf⟩ := gd_t hf
        refine va_iast hx hb hK hP hD hS 1 0 rfl rfl (inb_t g47) dX7_empties_47 (fun H locs hP hD hS => ?_)
        obtain ⟨S_s_47, eS_s_47⟩ : ∃ z : Nat → Int32, z = upd S_s (Int32.toNatClampNeg y43) (0 : Int32) := ⟨_, rfl⟩
        have hf := bd_t eS_s_47 hf
        have hP : va_P D vwCl (wX7 cI cZ cII aS S_thrown S_s_47 S_aside S_saved S_savedMany S_text S_length S_fetched S_predicted S_fetchedMany S_fetchedWay S_spot S_isWrong S_executedByText ++ []) H := by rw [eS_s_47]; exact hP
        have hD : va_D A (wX7 cI cZ cII aS S_thrown S_s_47 S_aside S_saved S_savedMany S_text S_length S_fetched S_predicted S_fetchedMany S_fetchedWay S_spot S_isWrong S_executedByText ++ []) := by rw [eS_s_47]; exact hD
        obtain ⟨v48, ev48⟩ : ∃ z : Int32, z = x2 + (1 : Int32) := ⟨_, rfl⟩
        have hf := bd_t ev48 hf
        refine lv_iinc (v := v48) (lv' := [(2, .int v48), (0, .ref (aS 0)), (1, .int x1)]) hx hb dX7_empties_48 hl (k := 2) rfl (by rw [ev48]; rfl) (by decide) rfl (fun ls hl => ?_)
        refine lv_goto (tgt := 31) hx hb dX7_empties_51 (by decide) ?_
        exact ih31 S_s_47 v48 _ _ _ hf hP hD hS (lv_sub hl [1, 2, 0] rfl)
  have J27 : ∀ (S_s : Nat → Int32) (k1 : Int32) (k2 : Int32) (k3 : Int32) (H : Heap) (locs : List Loc) (ls : Array Slot), m_X7_empties_27 x1 S_s k1 k2 k3 = some y → va_P D vwCl (wX7 cI cZ cII aS S_thrown S_s S_aside S_saved S_savedMany S_text S_length S_fetched S_predicted S_fetchedMany S_fetchedWay S_spot S_isWrong S_executedByText ++ []) H → va_D A (wX7 cI cZ cII aS S_thrown S_s S_aside S_saved S_savedMany S_text S_length S_fetched S_predicted S_fetchedMany S_fetchedWay S_spot S_isWrong S_executedByText ++ []) → va_S A s.heap H locs → lv_has ls 3 [(0, .ref (aS 0)), (1, .int x1)] → W p l e ({ frames := 1, cells := 0, slots := 0, locals := 21 } : Room) s m args below meth c H locs 0 0 Q (F0 m 27 ls [.int k3, .int k2, .int k1, .ref (aS 1)]) := by
    intro S_s k1 k2 k3 H locs ls hf hP hD hS hl
    unfold m_X7_empties_27 at hf
    refine lv_iadd hx hb dX7_empties_27 ?_
    obtain ⟨g28, hf⟩ := gd_t hf
    refine va_iast hx hb hK hP hD hS 1 0 rfl rfl (inb_t g28) dX7_empties_28 (fun H locs hP hD hS => ?_)
    obtain ⟨S_s_28, eS_s_28⟩ : ∃ z : Nat → Int32, z = upd S_s (Int32.toNatClampNeg k1) (k2 + k3) := ⟨_, rfl⟩
    have hf := bd_t eS_s_28 hf
    have hP : va_P D vwCl (wX7 cI cZ cII aS S_thrown S_s_28 S_aside S_saved S_savedMany S_text S_length S_fetched S_predicted S_fetchedMany S_fetchedWay S_spot S_isWrong S_executedByText ++ []) H := by rw [eS_s_28]; exact hP
    have hD : va_D A (wX7 cI cZ cII aS S_thrown S_s_28 S_aside S_saved S_savedMany S_text S_length S_fetched S_predicted S_fetchedMany S_fetchedWay S_spot S_isWrong S_executedByText ++ []) := by rw [eS_s_28]; exact hD
    refine lv_iconst (v := 0) hx hb dX7_empties_29 (by decide) ?_
    refine lv_istore_n (lv' := [(2, .int (0 : Int32)), (0, .ref (aS 0)), (1, .int x1)]) hx hb dX7_empties_30 rfl hl (by decide) rfl (fun ls hl => ?_)
    exact J31 4000 S_s_28 (0 : Int32) _ _ _ hf hP hD hS (lv_sub hl [1, 2, 0] rfl)
  unfold m_X7_empties at hf
  refine lv_aload_n hx hb dX7_empties_0 rfl (lv_at hl 0 rfl) ?_
  refine va_get (D := D) (ci := 7) (v := .ref (aS 1)) (C := RX7) (T := TX7) (N := 14) hx hb hts inX7 hown hK hP 0 rfl rfl 1 (by decide) kX7_7 (fun _ h9 => h9) rfl dX7_empties_1 ?_
  refine lv_sipush (v := 388) hx hb dX7_empties_4 (by decide) ?_
  refine lv_dup2_11 hx hb dX7_empties_7 rfl rfl ?_
  obtain ⟨g8, hf⟩ := gd_t hf
  refine va_iald hx hb hK hP 1 0 rfl rfl (inb_t g8) dX7_empties_8 ?_
  refine lv_aload_n hx hb dX7_empties_9 rfl (lv_at hl 0 rfl) ?_
  refine va_get (D := D) (ci := 7) (v := .ref (aS 1)) (C := RX7) (T := TX7) (N := 14) hx hb hts inX7 hown hK hP 0 rfl rfl 1 (by decide) kX7_7 (fun _ h9 => h9) rfl dX7_empties_10 ?_
  refine lv_iload_n hx hb dX7_empties_13 rfl (lv_at hl 1 rfl) ?_
  refine lv_iconst (v := 0) hx hb dX7_empties_14 (by decide) ?_
  obtain ⟨y15, h15, hf⟩ := bn_t hf
  refine z_ai (x := []) (b := ([] : va_W)) (y := wX7 cI cZ cII aS S_thrown S_s S_aside S_saved S_savedMany S_text S_length S_fetched S_predicted S_fetchedMany S_fetchedWay S_spot S_isWrong S_executedByText ++ []) (b1 := ([] : va_W)) (wsn := wX7 cI cZ cII aS S_thrown S_s S_aside S_saved S_savedMany S_text S_length S_fetched S_predicted S_fetchedMany S_fetchedWay S_spot S_isWrong S_executedByText ++ []) (va_runS (As := [.int x1, .int (0 : Int32)]) (rest := [.ref (aS 1), .int (S_s (Int32.toNatClampNeg (388 : Int32))), .int (388 : Int32), .ref (aS 1)]) ⟨hx, hb, hml, hown, hts⟩ (c_X7_ofLine l D cI cZ cII cJ cM x1 (0 : Int32) H.size y15 h15) (va_cwS 2 hts gX7_empties_X7_ofLine rfl rfl rfl (by decide +kernel) ⟨Nat.le_of_ble_eq_true rfl, Nat.le_of_ble_eq_true rfl⟩) (pz_S (x := []) (b := ([] : va_W)) (y := wX7 cI cZ cII aS S_thrown S_s S_aside S_saved S_savedMany S_text S_length S_fetched S_predicted S_fetchedMany S_fetchedWay S_spot S_isWrong S_executedByText ++ []) hK hN hP hD (by simp only [List.append_assoc, List.nil_append, List.append_nil])) rfl rfl hl.1 rfl (lv_room (Nat.le_of_ble_eq_true rfl)) dX7_empties_15 ⟨Nat.le_of_ble_eq_true rfl, Nat.le_of_ble_eq_true rfl⟩) hP hD hS hA (by simp only [List.append_assoc, List.nil_append, List.append_nil]) (by simp only [List.append_assoc, List.nil_append, List.append_nil]) (fun H locs hP hD hS => ?_)
  obtain ⟨g18, hf⟩ := gd_t hf
  refine va_iald hx hb hK hP 1 0 rfl rfl (inb_t g18) dX7_empties_18 ?_
  refine lv_if_le (tgt := 26) hx hb dX7_empties_19 (by decide) (fun c19 => ?_) (fun c19 => ?_)
  · have hf := if_t c19 hf
    refine lv_iconst (v := 0) hx hb dX7_empties_26 (by decide) ?_
    exact J27 S_s (388 : Int32) (S_s (Int32.toNatClampNeg (388 : Int32))) (0 : Int32) _ _ _ hf hP hD hS (lv_sub hl [0, 1] rfl)
  · have hf := if_f c19 hf
    refine lv_iconst (v := 1) hx hb dX7_empties_22 (by decide) ?_
    refine lv_goto (tgt := 27) hx hb dX7_empties_23 (by decide) ?_
    exact J27 S_s (388 : Int32) (S_s (Int32.toNatClampNeg (388 : Int32))) (1 : Int32) _ _ _ hf hP hD hS (lv_sub hl [0, 1] rfl)
set_option maxHeartbeats 8000000 in
set_option maxRecDepth 100000 in
theorem c_X7_writes (l : Launch) (D : va_G) (cI cZ cII cJ cM : ClassId) (aS : Nat → Nat) (S_thrown : Int32) (S_s : Nat → Int32) (S_aside : Nat → Int32) (S_saved : Nat → Int32) (S_savedMany : Int32) (S_text : Nat → Int32) (S_length : Int32) (S_fetched : Nat → Int32) (S_predicted : Nat → Int32) (S_fetchedMany : Int32) (S_fetchedWay : Int32) (S_spot : Int32) (S_isWrong : Int32) (S_executedByText : Int32) (x1 : Int32) (x2 : Int32) (x3 : Int32) (sz : Nat) (y : (Int32) × (Nat → Int32)) (hf : m_X7_writes S_s x1 x2 x3 = some y) : Met l yX7_writes wsX7_writes ({ frames := 2, cells := 0, slots := 0, locals := 45 } : Room) (va_Pc [.ref (aS 0), .int x1, .int x2, .int x3] (pzPre D (zT cI cZ cII cJ cM) (wX7 cI cZ cII aS S_thrown S_s S_aside S_saved S_savedMany S_text S_length S_fetched S_predicted S_fetchedMany S_fetchedWay S_spot S_isWrong S_executedByText ++ []) sz)) (va_Qi (fun v (_ : Unit) => v = y.1) (fun _ t => pzB D (zT cI cZ cII cJ cM) (va_A (wX7 cI cZ cII aS S_thrown S_s S_aside S_saved S_savedMany S_text S_length S_fetched S_predicted S_fetchedMany S_fetchedWay S_spot S_isWrong S_executedByText ++ []) sz) (wX7 cI cZ cII aS S_thrown y.2 S_aside S_saved S_savedMany S_text S_length S_fetched S_predicted S_fetchedMany S_fetchedWay S_spot S_isWrong S_executedByText ++ []) t) (va_A (wX7 cI cZ cII aS S_thrown S_s S_aside S_saved S_savedMany S_text S_length S_fetched S_predicted S_fetchedMany S_fetchedWay S_spot S_isWrong S_executedByText ++ []) sz)) 0 0 (va_A (wX7 cI cZ cII aS S_thrown S_s S_aside S_saved S_savedMany S_text S_length S_fetched S_predicted S_fetchedMany S_fetchedWay S_spot S_isWrong S_executedByText ++ []) sz) := by
  refine z_meti (cc := cX7_writes) (maxL := 7) (by decide) rfl (Nat.le_of_ble_eq_true rfl) ?_
  intro p e s m args below meth c A ls Q H locs F hP hD hS hl hret
  obtain ⟨hx, hb, hml, hown, hts, hN, hK, hA⟩ := F
  have hown : s.vm.findClass RX7 = some m.cls := hown
  have hl : lv_has ls 7 [(0, .ref (aS 0)), (1, .int x1), (2, .int x2), (3, .int x3)] := hl
  have inX7 : ∀ w ∈ u_ws RX7 TX7 14, w ∈ wsX7_writes := by decide +kernel
  have kX7_7 := hts (.fieldLink RX7 7 "TraceCacheModel" "s" "[I") (by decide +kernel)
  have J144 : ∀ (S_s : Nat → Int32) (x4 : Int32) (k1 : Int32) (k2 : Int32) (H : Heap) (locs : List Loc) (ls : Array Slot), m_X7_writes_144 x1 x2 x3 S_s x4 k1 k2 = some y → va_P D vwCl (wX7 cI cZ cII aS S_thrown S_s S_aside S_saved S_savedMany S_text S_length S_fetched S_predicted S_fetchedMany S_fetchedWay S_spot S_isWrong S_executedByText ++ []) H → va_D A (wX7 cI cZ cII aS S_thrown S_s S_aside S_saved S_savedMany S_text S_length S_fetched S_predicted S_fetchedMany S_fetchedWay S_spot S_isWrong S_executedByText ++ []) → va_S A s.heap H locs → lv_has ls 7 [(4, .int x4)] → W p l e ({ frames := 2, cells := 0, slots := 0, locals := 45 } : Room) s m args below meth c H locs 0 0 Q (F0 m 144 ls [.int k2, .int k1, .ref (aS 1)]) := by
    intro S_s x4 k1 k2 H locs ls hf hP hD hS hl
    unfold m_X7_writes_144 at hf
    obtain ⟨g144, hf⟩ := gd_t hf
    refine va_iast hx hb hK hP hD hS 1 0 rfl rfl (inb_t g144) dX7_writes_144 (fun H locs hP hD hS => ?_)
    obtain ⟨S_s_144, eS_s_144⟩ : ∃ z : Nat → Int32, z = upd S_s (Int32.toNatClampNeg k1) k2 := ⟨_, rfl⟩
    have hf := bd_t eS_s_144 hf
    have hP : va_P D vwCl (wX7 cI cZ cII aS S_thrown S_s_144 S_aside S_saved S_savedMany S_text S_length S_fetched S_predicted S_fetchedMany S_fetchedWay S_spot S_isWrong S_executedByText ++ []) H := by rw [eS_s_144]; exact hP
    have hD : va_D A (wX7 cI cZ cII aS S_thrown S_s_144 S_aside S_saved S_savedMany S_text S_length S_fetched S_predicted S_fetchedMany S_fetchedWay S_spot S_isWrong S_executedByText ++ []) := by rw [eS_s_144]; exact hD
    refine lv_iload hx hb dX7_writes_145 (lv_at hl 0 rfl) ?_
    obtain rfl := Option.some.inj hf
    exact hret _ _ _ _ _ dX7_writes_147 rfl hP hD hS
  have J114 : ∀ (S_s : Nat → Int32) (x4 : Int32) (k1 : Int32) (k2 : Int32) (H : Heap) (locs : List Loc) (ls : Array Slot), m_X7_writes_114 x1 x2 x3 S_s x4 k1 k2 = some y → va_P D vwCl (wX7 cI cZ cII aS S_thrown S_s S_aside S_saved S_savedMany S_text S_length S_fetched S_predicted S_fetchedMany S_fetchedWay S_spot S_isWrong S_executedByText ++ []) H → va_D A (wX7 cI cZ cII aS S_thrown S_s S_aside S_saved S_savedMany S_text S_length S_fetched S_predicted S_fetchedMany S_fetchedWay S_spot S_isWrong S_executedByText ++ []) → va_S A s.heap H locs → lv_has ls 7 [(0, .ref (aS 0)), (1, .int x1), (2, .int x2), (3, .int x3), (4, .int x4)] → W p l e ({ frames := 2, cells := 0, slots := 0, locals := 45 } : Room) s m args below meth c H locs 0 0 Q (F0 m 114 ls [.int k2, .int k1, .ref (aS 1)]) := by
    intro S_s x4 k1 k2 H locs ls hf hP hD hS hl
    unfold m_X7_writes_114 at hf
    obtain ⟨g114, hf⟩ := gd_t hf
    refine va_iast hx hb hK hP hD hS 1 0 rfl rfl (inb_t g114) dX7_writes_114 (fun H locs hP hD hS => ?_)
    obtain ⟨S_s_114, eS_s_114⟩ : ∃ z : Nat → Int32, z = upd S_s (Int32.toNatClampNeg k1) k2 := ⟨_, rfl⟩
    have hf := bd_t eS_s_114 hf
    have hP : va_P D vwCl (wX7 cI cZ cII aS S_thrown S_s_114 S_aside S_saved S_savedMany S_text S_length S_fetched S_predicted S_fetchedMany S_fetchedWay S_spot S_isWrong S_executedByText ++ []) H := by rw [eS_s_114]; exact hP
    have hD : va_D A (wX7 cI cZ cII aS S_thrown S_s_114 S_aside S_saved S_savedMany S_text S_length S_fetched S_predicted S_fetchedMany S_fetchedWay S_spot S_isWrong S_executedByText ++ []) := by rw [eS_s_114]; exact hD
    refine lv_aload_n hx hb dX7_writes_115 rfl (lv_at hl 0 rfl) ?_
    refine va_get (D := D) (ci := 7) (v := .ref (aS 1)) (C := RX7) (T := TX7) (N := 14) hx hb hts inX7 hown hK hP 0 rfl rfl 1 (by decide) kX7_7 (fun _ h9 => h9) rfl dX7_writes_116 ?_
    refine lv_iload_n hx hb dX7_writes_119 rfl (lv_at hl 1 rfl) ?_
    refine lv_iconst (v := 0) hx hb dX7_writes_120 (by decide) ?_
    obtain ⟨y121, h121, hf⟩ := bn_t hf
    refine z_ai (x := []) (b := ([] : va_W)) (y := wX7 cI cZ cII aS S_thrown S_s_114 S_aside S_saved S_savedMany S_text S_length S_fetched S_predicted S_fetchedMany S_fetchedWay S_spot S_isWrong S_executedByText ++ []) (b1 := ([] : va_W)) (wsn := wX7 cI cZ cII aS S_thrown S_s_114 S_aside S_saved S_savedMany S_text S_length S_fetched S_predicted S_fetchedMany S_fetchedWay S_spot S_isWrong S_executedByText ++ []) (va_runS (As := [.int x1, .int (0 : Int32)]) (rest := [.ref (aS 1)]) ⟨hx, hb, hml, hown, hts⟩ (c_X7_of l D cI cZ cII cJ cM x1 (0 : Int32) H.size y121 h121) (va_cwS 2 hts gX7_writes_X7_of rfl rfl rfl (by decide +kernel) ⟨Nat.le_of_ble_eq_true rfl, Nat.le_of_ble_eq_true rfl⟩) (pz_S (x := []) (b := ([] : va_W)) (y := wX7 cI cZ cII aS S_thrown S_s_114 S_aside S_saved S_savedMany S_text S_length S_fetched S_predicted S_fetchedMany S_fetchedWay S_spot S_isWrong S_executedByText ++ []) hK hN hP hD (by simp only [List.append_assoc, List.nil_append, List.append_nil])) rfl rfl hl.1 rfl (lv_room (Nat.le_of_ble_eq_true rfl)) dX7_writes_121 ⟨Nat.le_of_ble_eq_true rfl, Nat.le_of_ble_eq_true rfl⟩) hP hD hS hA (by simp only [List.append_assoc, List.nil_append, List.append_nil]) (by simp only [List.append_assoc, List.nil_append, List.append_nil]) (fun H locs hP hD hS => ?_)
    refine lv_iload_n hx hb dX7_writes_124 rfl (lv_at hl 2 rfl) ?_
    obtain ⟨g125, hf⟩ := gd_t hf
    refine va_iast hx hb hK hP hD hS 1 0 rfl rfl (inb_t g125) dX7_writes_125 (fun H locs hP hD hS => ?_)
    obtain ⟨S_s_125, eS_s_125⟩ : ∃ z : Nat → Int32, z = upd S_s_114 (Int32.toNatClampNeg y121) x2 := ⟨_, rfl⟩
    have hf := bd_t eS_s_125 hf
    have hP : va_P D vwCl (wX7 cI cZ cII aS S_thrown S_s_125 S_aside S_saved S_savedMany S_text S_length S_fetched S_predicted S_fetchedMany S_fetchedWay S_spot S_isWrong S_executedByText ++ []) H := by rw [eS_s_125]; exact hP
    have hD : va_D A (wX7 cI cZ cII aS S_thrown S_s_125 S_aside S_saved S_savedMany S_text S_length S_fetched S_predicted S_fetchedMany S_fetchedWay S_spot S_isWrong S_executedByText ++ []) := by rw [eS_s_125]; exact hD
    refine lv_aload_n hx hb dX7_writes_126 rfl (lv_at hl 0 rfl) ?_
    refine va_get (D := D) (ci := 7) (v := .ref (aS 1)) (C := RX7) (T := TX7) (N := 14) hx hb hts inX7 hown hK hP 0 rfl rfl 1 (by decide) kX7_7 (fun _ h9 => h9) rfl dX7_writes_127 ?_
    refine lv_iload_n hx hb dX7_writes_130 rfl (lv_at hl 1 rfl) ?_
    refine lv_iconst (v := 1) hx hb dX7_writes_131 (by decide) ?_
    obtain ⟨y132, h132, hf⟩ := bn_t hf
    refine z_ai (x := []) (b := ([] : va_W)) (y := wX7 cI cZ cII aS S_thrown S_s_125 S_aside S_saved S_savedMany S_text S_length S_fetched S_predicted S_fetchedMany S_fetchedWay S_spot S_isWrong S_executedByText ++ []) (b1 := ([] : va_W)) (wsn := wX7 cI cZ cII aS S_thrown S_s_125 S_aside S_saved S_savedMany S_text S_length S_fetched S_predicted S_fetchedMany S_fetchedWay S_spot S_isWrong S_executedByText ++ []) (va_runS (As := [.int x1, .int (1 : Int32)]) (rest := [.ref (aS 1)]) ⟨hx, hb, hml, hown, hts⟩ (c_X7_of l D cI cZ cII cJ cM x1 (1 : Int32) H.size y132 h132) (va_cwS 2 hts gX7_writes_X7_of rfl rfl rfl (by decide +kernel) ⟨Nat.le_of_ble_eq_true rfl, Nat.le_of_ble_eq_true rfl⟩) (pz_S (x := []) (b := ([] : va_W)) (y := wX7 cI cZ cII aS S_thrown S_s_125 S_aside S_saved S_savedMany S_text S_length S_fetched S_predicted S_fetchedMany S_fetchedWay S_spot S_isWrong S_executedByText ++ []) hK hN hP hD (by simp only [List.append_assoc, List.nil_append, List.append_nil])) rfl rfl hl.1 rfl (lv_room (Nat.le_of_ble_eq_true rfl)) dX7_writes_132 ⟨Nat.le_of_ble_eq_true rfl, Nat.le_of_ble_eq_true rfl⟩) hP hD hS hA (by simp only [List.append_assoc, List.nil_append, List.append_nil]) (by simp only [List.append_assoc, List.nil_append, List.append_nil]) (fun H locs hP hD hS => ?_)
    refine lv_iload_n hx hb dX7_writes_135 rfl (lv_at hl 2 rfl) ?_
    refine lv_if_ne (tgt := 143) hx hb dX7_writes_136 (by decide) (fun c136 => ?_) (fun c136 => ?_)
    · have hf := if_f c136 hf
      refine lv_iload_n hx hb dX7_writes_143 rfl (lv_at hl 3 rfl) ?_
      exact J144 S_s_125 x4 y132 x3 _ _ _ hf hP hD hS (lv_sub hl [4] rfl)
    · have hf := if_t c136 hf
      refine lv_iconst (v := -1) hx hb dX7_writes_139 (by decide) ?_
      refine lv_goto (tgt := 144) hx hb dX7_writes_140 (by decide) ?_
      exact J144 S_s_125 x4 y132 (-1 : Int32) _ _ _ hf hP hD hS (lv_sub hl [4] rfl)
  have J44 : ∀ (n44 : Nat), ∀ (S_s : Nat → Int32) (x4 : Int32) (x5 : Int32) (x6 : Int32) (H : Heap) (locs : List Loc) (ls : Array Slot), m_X7_writes_44 x1 x2 x3 n44 S_s x4 x5 x6 = some y → va_P D vwCl (wX7 cI cZ cII aS S_thrown S_s S_aside S_saved S_savedMany S_text S_length S_fetched S_predicted S_fetchedMany S_fetchedWay S_spot S_isWrong S_executedByText ++ []) H → va_D A (wX7 cI cZ cII aS S_thrown S_s S_aside S_saved S_savedMany S_text S_length S_fetched S_predicted S_fetchedMany S_fetchedWay S_spot S_isWrong S_executedByText ++ []) → va_S A s.heap H locs → lv_has ls 7 [(0, .ref (aS 0)), (1, .int x1), (2, .int x2), (3, .int x3), (4, .int x4), (5, .int x5), (6, .int x6)] → W p l e ({ frames := 2, cells := 0, slots := 0, locals := 45 } : Room) s m args below meth c H locs 0 0 Q (F0 m 44 ls []) := by
    intro n44
    induction n44 with
    | zero =>
      intro S_s x4 x5 x6 H locs ls hf hP hD hS hl
      rw [m_X7_writes_44] at hf
      cases hf
    | succ n44 ih44 =>
      have J82 : ∀ (S_s : Nat → Int32) (x4 : Int32) (x6 : Int32) (k0 : Int32) (H : Heap) (locs : List Loc) (ls : Array Slot), m_X7_writes_82 x1 x2 x3 (m_X7_writes_44 x1 x2 x3 n44) S_s x4 x6 k0 = some y → va_P D vwCl (wX7 cI cZ cII aS S_thrown S_s S_aside S_saved S_savedMany S_text S_length S_fetched S_predicted S_fetchedMany S_fetchedWay S_spot S_isWrong S_executedByText ++ []) H → va_D A (wX7 cI cZ cII aS S_thrown S_s S_aside S_saved S_savedMany S_text S_length S_fetched S_predicted S_fetchedMany S_fetchedWay S_spot S_isWrong S_executedByText ++ []) → va_S A s.heap H locs → lv_has ls 7 [(0, .ref (aS 0)), (1, .int x1), (2, .int x2), (3, .int x3), (4, .int x4), (6, .int x6)] → W p l e ({ frames := 2, cells := 0, slots := 0, locals := 45 } : Room) s m args below meth c H locs 0 0 Q (F0 m 82 ls [.int k0]) := by
        intro S_s x4 x6 k0 H locs ls hf hP hD hS hl
        unfold m_X7_writes_82 at hf
        refine lv_istore (lv' := [(5, .int k0), (0, .ref (aS 0)), (1, .int x1), (2, .int x2), (3, .int x3), (4, .int x4), (6, .int x6)]) hx hb dX7_writes_82 hl (by decide) rfl (fun ls hl => ?_)
        obtain ⟨v84, ev84⟩ : ∃ z : Int32, z = x6 + (1 : Int32) := ⟨_, rfl⟩
        have hf := bd_t ev84 hf
        refine lv_iinc (v := v84) (lv' := [(6, .int v84), (5, .int k0), (0, .ref (aS 0)), (1, .int x1), (2, .int x2), (3, .int x3), (4, .int x4)]) hx hb dX7_writes_84 hl (k := 6) rfl (by rw [ev84]; rfl) (by decide) rfl (fun ls hl => ?_)
        refine lv_goto (tgt := 44) hx hb dX7_writes_87 (by decide) ?_
        exact ih44 S_s x4 k0 v84 _ _ _ hf hP hD hS (lv_sub hl [2, 3, 4, 5, 6, 1, 0] rfl)
      have J77 : ∀ (S_s : Nat → Int32) (x4 : Int32) (x6 : Int32) (H : Heap) (locs : List Loc) (ls : Array Slot), m_X7_writes_77 x1 x2 x3 (m_X7_writes_44 x1 x2 x3 n44) S_s x4 x6 = some y → va_P D vwCl (wX7 cI cZ cII aS S_thrown S_s S_aside S_saved S_savedMany S_text S_length S_fetched S_predicted S_fetchedMany S_fetchedWay S_spot S_isWrong S_executedByText ++ []) H → va_D A (wX7 cI cZ cII aS S_thrown S_s S_aside S_saved S_savedMany S_text S_length S_fetched S_predicted S_fetchedMany S_fetchedWay S_spot S_isWrong S_executedByText ++ []) → va_S A s.heap H locs → lv_has ls 7 [(0, .ref (aS 0)), (1, .int x1), (2, .int x2), (3, .int x3), (4, .int x4), (6, .int x6)] → W p l e ({ frames := 2, cells := 0, slots := 0, locals := 45 } : Room) s m args below meth c H locs 0 0 Q (F0 m 77 ls []) := by
        intro S_s x4 x6 H locs ls hf hP hD hS hl
        unfold m_X7_writes_77 at hf
        refine lv_iconst (v := 1) hx hb dX7_writes_77 (by decide) ?_
        refine lv_goto (tgt := 82) hx hb dX7_writes_78 (by decide) ?_
        exact J82 S_s x4 x6 (1 : Int32) _ _ _ hf hP hD hS (lv_sub hl [0, 1, 2, 3, 4, 5] rfl)
      intro S_s x4 x5 x6 H locs ls hf hP hD hS hl
      rw [m_X7_writes_44] at hf
      refine lv_iload hx hb dX7_writes_44 (lv_at hl 6 rfl) ?_
      refine lv_aload_n hx hb dX7_writes_46 rfl (lv_at hl 0 rfl) ?_
      refine va_get (D := D) (ci := 7) (v := .ref (aS 1)) (C := RX7) (T := TX7) (N := 14) hx hb hts inX7 hown hK hP 0 rfl rfl 1 (by decide) kX7_7 (fun _ h9 => h9) rfl dX7_writes_47 ?_
      refine lv_sipush (v := 369) hx hb dX7_writes_50 (by decide) ?_
      obtain ⟨g53, hf⟩ := gd_t hf
      refine va_iald hx hb hK hP 1 0 rfl rfl (inb_t g53) dX7_writes_53 ?_
      refine lv_icmp_ge (tgt := 90) hx hb dX7_writes_54 (by decide) (fun c54 => ?_) (fun c54 => ?_)
      · have hf := if_t c54 hf
        refine lv_aload_n hx hb dX7_writes_90 rfl (lv_at hl 0 rfl) ?_
        refine va_get (D := D) (ci := 7) (v := .ref (aS 1)) (C := RX7) (T := TX7) (N := 14) hx hb hts inX7 hown hK hP 0 rfl rfl 1 (by decide) kX7_7 (fun _ h9 => h9) rfl dX7_writes_91 ?_
        refine lv_sipush (v := 369) hx hb dX7_writes_94 (by decide) ?_
        refine lv_iload hx hb dX7_writes_97 (lv_at hl 5 rfl) ?_
        refine lv_if_eq (tgt := 106) hx hb dX7_writes_99 (by decide) (fun c99 => ?_) (fun c99 => ?_)
        · have hf := if_t c99 hf
          refine lv_aload_n hx hb dX7_writes_106 rfl (lv_at hl 0 rfl) ?_
          refine va_get (D := D) (ci := 7) (v := .ref (aS 1)) (C := RX7) (T := TX7) (N := 14) hx hb hts inX7 hown hK hP 0 rfl rfl 1 (by decide) kX7_7 (fun _ h9 => h9) rfl dX7_writes_107 ?_
          refine lv_sipush (v := 369) hx hb dX7_writes_110 (by decide) ?_
          obtain ⟨g113, hf⟩ := gd_t hf
          refine va_iald hx hb hK hP 1 0 rfl rfl (inb_t g113) dX7_writes_113 ?_
          exact J114 S_s x4 (369 : Int32) (S_s (Int32.toNatClampNeg (369 : Int32))) _ _ _ hf hP hD hS (lv_sub hl [0, 1, 2, 3, 4] rfl)
        · have hf := if_f c99 hf
          refine lv_iconst (v := 0) hx hb dX7_writes_102 (by decide) ?_
          refine lv_goto (tgt := 114) hx hb dX7_writes_103 (by decide) ?_
          exact J114 S_s x4 (369 : Int32) (0 : Int32) _ _ _ hf hP hD hS (lv_sub hl [0, 1, 2, 3, 4] rfl)
      · have hf := if_f c54 hf
        refine lv_iload hx hb dX7_writes_57 (lv_at hl 5 rfl) ?_
        refine lv_if_ne (tgt := 77) hx hb dX7_writes_59 (by decide) (fun c59 => ?_) (fun c59 => ?_)
        · have hf := if_f c59 hf
          exact J77 S_s x4 x6 _ _ _ hf hP hD hS (lv_sub hl [0, 1, 2, 3, 4, 6] rfl)
        · have hf := if_t c59 hf
          refine lv_aload_n hx hb dX7_writes_62 rfl (lv_at hl 0 rfl) ?_
          refine va_get (D := D) (ci := 7) (v := .ref (aS 1)) (C := RX7) (T := TX7) (N := 14) hx hb hts inX7 hown hK hP 0 rfl rfl 1 (by decide) kX7_7 (fun _ h9 => h9) rfl dX7_writes_63 ?_
          refine lv_sipush (v := 370) hx hb dX7_writes_66 (by decide) ?_
          refine lv_iload hx hb dX7_writes_69 (lv_at hl 6 rfl) ?_
          refine lv_iadd hx hb dX7_writes_71 ?_
          refine lv_topi (fun v72 ev72 => ?_)
          have hf := bd_t ev72 hf
          obtain ⟨g72, hf⟩ := gd_t hf
          refine va_iald hx hb hK hP 1 0 rfl rfl (inb_t g72) dX7_writes_72 ?_
          refine lv_iload_n hx hb dX7_writes_73 rfl (lv_at hl 1 rfl) ?_
          refine lv_icmp_ne (tgt := 81) hx hb dX7_writes_74 (by decide) (fun c74 => ?_) (fun c74 => ?_)
          · have hf := if_f c74 hf
            refine lv_iconst (v := 0) hx hb dX7_writes_81 (by decide) ?_
            exact J82 S_s x4 x6 (0 : Int32) _ _ _ hf hP hD hS (lv_sub hl [0, 1, 2, 3, 4, 6] rfl)
          · have hf := if_t c74 hf
            exact J77 S_s x4 x6 _ _ _ hf hP hD hS (lv_sub hl [0, 1, 2, 3, 4, 6] rfl)
  have J6 : ∀ (n6 : Nat), ∀ (S_s : Nat → Int32) (x4 : Int32) (x5 : Int32) (H : Heap) (locs : List Loc) (ls : Array Slot), m_X7_writes_6 x1 x2 x3 n6 S_s x4 x5 = some y → va_P D vwCl (wX7 cI cZ cII aS S_thrown S_s S_aside S_saved S_savedMany S_text S_length S_fetched S_predicted S_fetchedMany S_fetchedWay S_spot S_isWrong S_executedByText ++ []) H → va_D A (wX7 cI cZ cII aS S_thrown S_s S_aside S_saved S_savedMany S_text S_length S_fetched S_predicted S_fetchedMany S_fetchedWay S_spot S_isWrong S_executedByText ++ []) → va_S A s.heap H locs → lv_has ls 7 [(0, .ref (aS 0)), (1, .int x1), (2, .int x2), (3, .int x3), (4, .int x4), (5, .int x5)] → W p l e ({ frames := 2, cells := 0, slots := 0, locals := 45 } : Room) s m args below meth c H locs 0 0 Q (F0 m 6 ls []) := by
    intro n6
    induction n6 with
    | zero =>
      intro S_s x4 x5 H locs ls hf hP hD hS hl
      rw [m_X7_writes_6] at hf
      cases hf
    | succ n6 ih6 =>
      have J32 : ∀ (S_s : Nat → Int32) (x4 : Int32) (x5 : Int32) (H : Heap) (locs : List Loc) (ls : Array Slot), m_X7_writes_32 x1 x2 x3 (m_X7_writes_6 x1 x2 x3 n6) S_s x4 x5 = some y → va_P D vwCl (wX7 cI cZ cII aS S_thrown S_s S_aside S_saved S_savedMany S_text S_length S_fetched S_predicted S_fetchedMany S_fetchedWay S_spot S_isWrong S_executedByText ++ []) H → va_D A (wX7 cI cZ cII aS S_thrown S_s S_aside S_saved S_savedMany S_text S_length S_fetched S_predicted S_fetchedMany S_fetchedWay S_spot S_isWrong S_executedByText ++ []) → va_S A s.heap H locs → lv_has ls 7 [(0, .ref (aS 0)), (1, .int x1), (2, .int x2), (3, .int x3), (4, .int x4), (5, .int x5)] → W p l e ({ frames := 2, cells := 0, slots := 0, locals := 45 } : Room) s m args below meth c H locs 0 0 Q (F0 m 32 ls []) := by
        intro S_s x4 x5 H locs ls hf hP hD hS hl
        unfold m_X7_writes_32 at hf
        obtain ⟨v32, ev32⟩ : ∃ z : Int32, z = x5 + (1 : Int32) := ⟨_, rfl⟩
        have hf := bd_t ev32 hf
        refine lv_iinc (v := v32) (lv' := [(5, .int v32), (0, .ref (aS 0)), (1, .int x1), (2, .int x2), (3, .int x3), (4, .int x4)]) hx hb dX7_writes_32 hl (k := 5) rfl (by rw [ev32]; rfl) (by decide) rfl (fun ls hl => ?_)
        refine lv_goto (tgt := 6) hx hb dX7_writes_35 (by decide) ?_
        exact ih6 S_s x4 v32 _ _ _ hf hP hD hS (lv_sub hl [1, 2, 3, 4, 5, 0] rfl)
      intro S_s x4 x5 H locs ls hf hP hD hS hl
      rw [m_X7_writes_6] at hf
      refine lv_iload hx hb dX7_writes_6 (lv_at hl 5 rfl) ?_
      refine lv_bipush (v := 8) hx hb dX7_writes_8 (by decide) ?_
      refine lv_icmp_ge (tgt := 38) hx hb dX7_writes_10 (by decide) (fun c10 => ?_) (fun c10 => ?_)
      · have hf := if_t c10 hf
        refine lv_iconst (v := 0) hx hb dX7_writes_38 (by decide) ?_
        refine lv_istore (lv' := [(5, .int (0 : Int32)), (0, .ref (aS 0)), (1, .int x1), (2, .int x2), (3, .int x3), (4, .int x4)]) hx hb dX7_writes_39 hl (by decide) rfl (fun ls hl => ?_)
        refine lv_iconst (v := 0) hx hb dX7_writes_41 (by decide) ?_
        refine lv_istore (lv' := [(6, .int (0 : Int32)), (5, .int (0 : Int32)), (0, .ref (aS 0)), (1, .int x1), (2, .int x2), (3, .int x3), (4, .int x4)]) hx hb dX7_writes_42 hl (by decide) rfl (fun ls hl => ?_)
        exact J44 4000 S_s x4 (0 : Int32) (0 : Int32) _ _ _ hf hP hD hS (lv_sub hl [2, 3, 4, 5, 6, 1, 0] rfl)
      · have hf := if_f c10 hf
        refine lv_aload_n hx hb dX7_writes_13 rfl (lv_at hl 0 rfl) ?_
        refine lv_iload hx hb dX7_writes_14 (lv_at hl 5 rfl) ?_
        refine lv_iload_n hx hb dX7_writes_16 rfl (lv_at hl 1 rfl) ?_
        obtain ⟨y17, h17, hf⟩ := bn_t hf
        refine z_ai (x := []) (b := wX7 cI cZ cII aS S_thrown S_s S_aside S_saved S_savedMany S_text S_length S_fetched S_predicted S_fetchedMany S_fetchedWay S_spot S_isWrong S_executedByText ++ []) (y := ([] : va_W)) (b1 := wX7 cI cZ cII aS S_thrown S_s S_aside S_saved S_savedMany S_text S_length S_fetched S_predicted S_fetchedMany S_fetchedWay S_spot S_isWrong S_executedByText ++ []) (wsn := wX7 cI cZ cII aS S_thrown S_s S_aside S_saved S_savedMany S_text S_length S_fetched S_predicted S_fetchedMany S_fetchedWay S_spot S_isWrong S_executedByText ++ []) (va_runV (As := [.int x5, .int x1]) (rest := []) ⟨hx, hb, hml, hown, hts⟩ (c_X7_contains l D cI cZ cII cJ cM aS S_thrown S_s S_aside S_saved S_savedMany S_text S_length S_fetched S_predicted S_fetchedMany S_fetchedWay S_spot S_isWrong S_executedByText x5 x1 H.size y17 h17) (cwV 2 hts gX7_writes_X7_contains rfl rfl rfl (by decide +kernel) ⟨Nat.le_of_ble_eq_true rfl, Nat.le_of_ble_eq_true rfl⟩) (pz_V (x := []) (b := wX7 cI cZ cII aS S_thrown S_s S_aside S_saved S_savedMany S_text S_length S_fetched S_predicted S_fetchedMany S_fetchedWay S_spot S_isWrong S_executedByText ++ []) (y := ([] : va_W)) (C := RX7) (T := TX7) (N := 14) (ci := 7) (As := [.int x5, .int x1]) (bi := 0) hK hN hP hD (by simp only [List.append_assoc, List.nil_append, List.append_nil]) rfl rfl) rfl rfl hl.1 rfl (lv_room (Nat.le_of_ble_eq_true rfl)) dX7_writes_17 ⟨Nat.le_of_ble_eq_true rfl, Nat.le_of_ble_eq_true rfl⟩) hP hD hS hA (by simp only [List.append_assoc, List.nil_append, List.append_nil]) (by simp only [List.append_assoc, List.nil_append, List.append_nil]) (fun H locs hP hD hS => ?_)
        refine lv_if_eq (tgt := 32) hx hb dX7_writes_20 (by decide) (fun c20 => ?_) (fun c20 => ?_)
        · have hf := if_t c20 hf
          exact J32 S_s x4 x5 _ _ _ hf hP hD hS (lv_sub hl [0, 1, 2, 3, 4, 5] rfl)
        · have hf := if_f c20 hf
          refine lv_aload_n hx hb dX7_writes_23 rfl (lv_at hl 0 rfl) ?_
          refine lv_iload hx hb dX7_writes_24 (lv_at hl 5 rfl) ?_
          obtain ⟨y26, h26, hf⟩ := bn_t hf
          refine z_av (x := []) (b := wX7 cI cZ cII aS S_thrown S_s S_aside S_saved S_savedMany S_text S_length S_fetched S_predicted S_fetchedMany S_fetchedWay S_spot S_isWrong S_executedByText ++ []) (y := ([] : va_W)) (b1 := wX7 cI cZ cII aS S_thrown y26 S_aside S_saved S_savedMany S_text S_length S_fetched S_predicted S_fetchedMany S_fetchedWay S_spot S_isWrong S_executedByText ++ []) (wsn := wX7 cI cZ cII aS S_thrown y26 S_aside S_saved S_savedMany S_text S_length S_fetched S_predicted S_fetchedMany S_fetchedWay S_spot S_isWrong S_executedByText ++ []) (va_runV (As := [.int x5]) (rest := []) ⟨hx, hb, hml, hown, hts⟩ (c_X7_empties l D cI cZ cII cJ cM aS S_thrown S_s S_aside S_saved S_savedMany S_text S_length S_fetched S_predicted S_fetchedMany S_fetchedWay S_spot S_isWrong S_executedByText x5 H.size y26 h26) (cwV 1 hts gX7_writes_X7_empties rfl rfl rfl (by decide +kernel) ⟨Nat.le_of_ble_eq_true rfl, Nat.le_of_ble_eq_true rfl⟩) (pz_V (x := []) (b := wX7 cI cZ cII aS S_thrown S_s S_aside S_saved S_savedMany S_text S_length S_fetched S_predicted S_fetchedMany S_fetchedWay S_spot S_isWrong S_executedByText ++ []) (y := ([] : va_W)) (C := RX7) (T := TX7) (N := 14) (ci := 7) (As := [.int x5]) (bi := 0) hK hN hP hD (by simp only [List.append_assoc, List.nil_append, List.append_nil]) rfl rfl) rfl rfl hl.1 rfl (lv_room (Nat.le_of_ble_eq_true rfl)) dX7_writes_26 ⟨Nat.le_of_ble_eq_true rfl, Nat.le_of_ble_eq_true rfl⟩) hP hD hS hA (by simp only [List.append_assoc, List.nil_append, List.append_nil]) (by simp only [List.append_assoc, List.nil_append, List.append_nil]) (fun H locs hP hD hS => ?_)
          obtain ⟨v29, ev29⟩ : ∃ z : Int32, z = x4 + (1 : Int32) := ⟨_, rfl⟩
          have hf := bd_t ev29 hf
          refine lv_iinc (v := v29) (lv' := [(4, .int v29), (0, .ref (aS 0)), (1, .int x1), (2, .int x2), (3, .int x3), (5, .int x5)]) hx hb dX7_writes_29 hl (k := 4) rfl (by rw [ev29]; rfl) (by decide) rfl (fun ls hl => ?_)
          exact J32 y26 v29 x5 _ _ _ hf hP hD hS (lv_sub hl [1, 2, 3, 4, 0, 5] rfl)
  unfold m_X7_writes at hf
  refine lv_iconst (v := 0) hx hb dX7_writes_0 (by decide) ?_
  refine lv_istore (lv' := [(4, .int (0 : Int32)), (0, .ref (aS 0)), (1, .int x1), (2, .int x2), (3, .int x3)]) hx hb dX7_writes_1 hl (by decide) rfl (fun ls hl => ?_)
  refine lv_iconst (v := 0) hx hb dX7_writes_3 (by decide) ?_
  refine lv_istore (lv' := [(5, .int (0 : Int32)), (4, .int (0 : Int32)), (0, .ref (aS 0)), (1, .int x1), (2, .int x2), (3, .int x3)]) hx hb dX7_writes_4 hl (by decide) rfl (fun ls hl => ?_)
  exact J6 4000 S_s (0 : Int32) (0 : Int32) _ _ _ hf hP hD hS (lv_sub hl [2, 3, 4, 5, 1, 0] rfl)
set_option maxHeartbeats 8000000 in
set_option maxRecDepth 100000 in
theorem c_X7_patterns (l : Launch) (D : va_G) (cI cZ cII cJ cM : ClassId) (aS : Nat → Nat) (S_thrown : Int32) (S_s : Nat → Int32) (S_aside : Nat → Int32) (S_saved : Nat → Int32) (S_savedMany : Int32) (S_text : Nat → Int32) (S_length : Int32) (S_fetched : Nat → Int32) (S_predicted : Nat → Int32) (S_fetchedMany : Int32) (S_fetchedWay : Int32) (S_spot : Int32) (S_isWrong : Int32) (S_executedByText : Int32) (x1 : Int32) (x2 : Int32) (x3 : Int32) (sz : Nat) (y : (Int32) × (Nat → Int32)) (hf : m_X7_patterns S_s x1 x2 x3 = some y) : Met l yX7_patterns wsX7_patterns ({ frames := 1, cells := 0, slots := 0, locals := 21 } : Room) (va_Pc [.ref (aS 0), .int x1, .int x2, .int x3] (pzPre D (zT cI cZ cII cJ cM) (wX7 cI cZ cII aS S_thrown S_s S_aside S_saved S_savedMany S_text S_length S_fetched S_predicted S_fetchedMany S_fetchedWay S_spot S_isWrong S_executedByText ++ []) sz)) (va_Qi (fun v (_ : Unit) => v = y.1) (fun _ t => pzB D (zT cI cZ cII cJ cM) (va_A (wX7 cI cZ cII aS S_thrown S_s S_aside S_saved S_savedMany S_text S_length S_fetched S_predicted S_fetchedMany S_fetchedWay S_spot S_isWrong S_executedByText ++ []) sz) (wX7 cI cZ cII aS S_thrown y.2 S_aside S_saved S_savedMany S_text S_length S_fetched S_predicted S_fetchedMany S_fetchedWay S_spot S_isWrong S_executedByText ++ []) t) (va_A (wX7 cI cZ cII aS S_thrown S_s S_aside S_saved S_savedMany S_text S_length S_fetched S_predicted S_fetchedMany S_fetchedWay S_spot S_isWrong S_executedByText ++ []) sz)) 0 0 (va_A (wX7 cI cZ cII aS S_thrown S_s S_aside S_saved S_savedMany S_text S_length S_fetched S_predicted S_fetchedMany S_fetchedWay S_spot S_isWrong S_executedByText ++ []) sz) := by
  refine z_meti (cc := cX7_patterns) (maxL := 5) (by decide) rfl (Nat.le_of_ble_eq_true rfl) ?_
  intro p e s m args below meth c A ls Q H locs F hP hD hS hl hret
  obtain ⟨hx, hb, hml, hown, hts, hN, hK, hA⟩ := F
  have hown : s.vm.findClass RX7 = some m.cls := hown
  have hl : lv_has ls 5 [(0, .ref (aS 0)), (1, .int x1), (2, .int x2), (3, .int x3)] := hl
  have inX7 : ∀ w ∈ u_ws RX7 TX7 14, w ∈ wsX7_patterns := by decide +kernel
  have kX7_7 := hts (.fieldLink RX7 7 "TraceCacheModel" "s" "[I") (by decide +kernel)
  unfold m_X7_patterns at hf
  refine lv_aload_n hx hb dX7_patterns_0 rfl (lv_at hl 0 rfl) ?_
  refine va_get (D := D) (ci := 7) (v := .ref (aS 1)) (C := RX7) (T := TX7) (N := 14) hx hb hts inX7 hown hK hP 0 rfl rfl 1 (by decide) kX7_7 (fun _ h9 => h9) rfl dX7_patterns_1 ?_
  refine lv_iload_n hx hb dX7_patterns_4 rfl (lv_at hl 1 rfl) ?_
  refine lv_iconst (v := 4) hx hb dX7_patterns_5 (by decide) ?_
  obtain ⟨y6, h6, hf⟩ := bn_t hf
  refine z_ai (x := []) (b := ([] : va_W)) (y := wX7 cI cZ cII aS S_thrown S_s S_aside S_saved S_savedMany S_text S_length S_fetched S_predicted S_fetchedMany S_fetchedWay S_spot S_isWrong S_executedByText ++ []) (b1 := ([] : va_W)) (wsn := wX7 cI cZ cII aS S_thrown S_s S_aside S_saved S_savedMany S_text S_length S_fetched S_predicted S_fetchedMany S_fetchedWay S_spot S_isWrong S_executedByText ++ []) (va_runS (As := [.int x1, .int (4 : Int32)]) (rest := [.ref (aS 1)]) ⟨hx, hb, hml, hown, hts⟩ (c_X7_of l D cI cZ cII cJ cM x1 (4 : Int32) H.size y6 h6) (va_cwS 2 hts gX7_patterns_X7_of rfl rfl rfl (by decide +kernel) ⟨Nat.le_of_ble_eq_true rfl, Nat.le_of_ble_eq_true rfl⟩) (pz_S (x := []) (b := ([] : va_W)) (y := wX7 cI cZ cII aS S_thrown S_s S_aside S_saved S_savedMany S_text S_length S_fetched S_predicted S_fetchedMany S_fetchedWay S_spot S_isWrong S_executedByText ++ []) hK hN hP hD (by simp only [List.append_assoc, List.nil_append, List.append_nil])) rfl rfl hl.1 rfl (lv_room (Nat.le_of_ble_eq_true rfl)) dX7_patterns_6 ⟨Nat.le_of_ble_eq_true rfl, Nat.le_of_ble_eq_true rfl⟩) hP hD hS hA (by simp only [List.append_assoc, List.nil_append, List.append_nil]) (by simp only [List.append_assoc, List.nil_append, List.append_nil]) (fun H locs hP hD hS => ?_)
  obtain ⟨g9, hf⟩ := gd_t hf
  refine va_iald hx hb hK hP 1 0 rfl rfl (inb_t g9) dX7_patterns_9 ?_
  refine lv_topi (fun v10 ev10 => ?_)
  have hf := bd_t ev10 hf
  refine lv_istore (lv' := [(4, .int v10), (0, .ref (aS 0)), (1, .int x1), (2, .int x2), (3, .int x3)]) hx hb dX7_patterns_10 hl (by decide) rfl (fun ls hl => ?_)
  refine lv_aload_n hx hb dX7_patterns_12 rfl (lv_at hl 1 rfl) ?_
  refine va_get (D := D) (ci := 7) (v := .ref (aS 1)) (C := RX7) (T := TX7) (N := 14) hx hb hts inX7 hown hK hP 0 rfl rfl 1 (by decide) kX7_7 (fun _ h9 => h9) rfl dX7_patterns_13 ?_
  refine lv_iload_n hx hb dX7_patterns_16 rfl (lv_at hl 2 rfl) ?_
  refine lv_iconst (v := 4) hx hb dX7_patterns_17 (by decide) ?_
  obtain ⟨y18, h18, hf⟩ := bn_t hf
  refine z_ai (x := []) (b := ([] : va_W)) (y := wX7 cI cZ cII aS S_thrown S_s S_aside S_saved S_savedMany S_text S_length S_fetched S_predicted S_fetchedMany S_fetchedWay S_spot S_isWrong S_executedByText ++ []) (b1 := ([] : va_W)) (wsn := wX7 cI cZ cII aS S_thrown S_s S_aside S_saved S_savedMany S_text S_length S_fetched S_predicted S_fetchedMany S_fetchedWay S_spot S_isWrong S_executedByText ++ []) (va_runS (As := [.int x1, .int (4 : Int32)]) (rest := [.ref (aS 1)]) ⟨hx, hb, hml, hown, hts⟩ (c_X7_of l D cI cZ cII cJ cM x1 (4 : Int32) H.size y18 h18) (va_cwS 2 hts gX7_patterns_X7_of rfl rfl rfl (by decide +kernel) ⟨Nat.le_of_ble_eq_true rfl, Nat.le_of_ble_eq_true rfl⟩) (pz_S (x := []) (b := ([] : va_W)) (y := wX7 cI cZ cII aS S_thrown S_s S_aside S_saved S_savedMany S_text S_length S_fetched S_predicted S_fetchedMany S_fetchedWay S_spot S_isWrong S_executedByText ++ []) hK hN hP hD (by simp only [List.append_assoc, List.nil_append, List.append_nil])) rfl rfl hl.1 rfl (lv_room (Nat.le_of_ble_eq_true rfl)) dX7_patterns_18 ⟨Nat.le_of_ble_eq_true rfl, Nat.le_of_ble_eq_true rfl⟩) hP hD hS hA (by simp only [List.append_assoc, List.nil_append, List.append_nil]) (by simp only [List.append_assoc, List.nil_append, List.append_nil]) (fun H locs hP hD hS => ?_)
  refine lv_iconst (v := 0) hx hb dX7_patterns_21 (by decide) ?_
  obtain ⟨g22, hf⟩ := gd_t hf
  refine va_iast hx hb hK hP hD hS 1 0 rfl rfl (inb_t g22) dX7_patterns_22 (fun H locs hP hD hS => ?_)
  obtain ⟨S_s_22, eS_s_22⟩ : ∃ z : Nat → Int32, z = upd S_s (Int32.toNatClampNeg y18) (0 : Int32) := ⟨_, rfl⟩
  have hf := bd_t eS_s_22 hf
  have hP : va_P D vwCl (wX7 cI cZ cII aS S_thrown S_s_22 S_aside S_saved S_savedMany S_text S_length S_fetched S_predicted S_fetchedMany S_fetchedWay S_spot S_isWrong S_executedByText ++ []) H := by rw [eS_s_22]; exact hP
  have hD : va_D A (wX7 cI cZ cII aS S_thrown S_s_22 S_aside S_saved S_savedMany S_text S_length S_fetched S_predicted S_fetchedMany S_fetchedWay S_spot S_isWrong S_executedByText ++ []) := by rw [eS_s_22]; exact hD
  refine lv_aload_n hx hb dX7_patterns_23 rfl (lv_at hl 1 rfl) ?_
  refine va_get (D := D) (ci := 7) (v := .ref (aS 1)) (C := RX7) (T := TX7) (N := 14) hx hb hts inX7 hown hK hP 0 rfl rfl 1 (by decide) kX7_7 (fun _ h9 => h9) rfl dX7_patterns_24 ?_
  refine lv_iload_n hx hb dX7_patterns_27 rfl (lv_at hl 2 rfl) ?_
  refine lv_iconst (v := 2) hx hb dX7_patterns_28 (by decide) ?_
  obtain ⟨y29, h29, hf⟩ := bn_t hf
  refine z_ai (x := []) (b := ([] : va_W)) (y := wX7 cI cZ cII aS S_thrown S_s_22 S_aside S_saved S_savedMany S_text S_length S_fetched S_predicted S_fetchedMany S_fetchedWay S_spot S_isWrong S_executedByText ++ []) (b1 := ([] : va_W)) (wsn := wX7 cI cZ cII aS S_thrown S_s_22 S_aside S_saved S_savedMany S_text S_length S_fetched S_predicted S_fetchedMany S_fetchedWay S_spot S_isWrong S_executedByText ++ []) (va_runS (As := [.int x1, .int (2 : Int32)]) (rest := [.ref (aS 1)]) ⟨hx, hb, hml, hown, hts⟩ (c_X7_of l D cI cZ cII cJ cM x1 (2 : Int32) H.size y29 h29) (va_cwS 2 hts gX7_patterns_X7_of rfl rfl rfl (by decide +kernel) ⟨Nat.le_of_ble_eq_true rfl, Nat.le_of_ble_eq_true rfl⟩) (pz_S (x := []) (b := ([] : va_W)) (y := wX7 cI cZ cII aS S_thrown S_s_22 S_aside S_saved S_savedMany S_text S_length S_fetched S_predicted S_fetchedMany S_fetchedWay S_spot S_isWrong S_executedByText ++ []) hK hN hP hD (by simp only [List.append_assoc, List.nil_append, List.append_nil])) rfl rfl hl.1 rfl (lv_room (Nat.le_of_ble_eq_true rfl)) dX7_patterns_29 ⟨Nat.le_of_ble_eq_true rfl, Nat.le_of_ble_eq_true rfl⟩) hP hD hS hA (by simp only [List.append_assoc, List.nil_append, List.append_nil]) (by simp only [List.append_assoc, List.nil_append, List.append_nil]) (fun H locs hP hD hS => ?_)
  refine lv_iload_n hx hb dX7_patterns_32 rfl (lv_at hl 3 rfl) ?_
  obtain ⟨g33, hf⟩ := gd_t hf
  refine va_iast hx hb hK hP hD hS 1 0 rfl rfl (inb_t g33) dX7_patterns_33 (fun H locs hP hD hS => ?_)
  obtain ⟨S_s_33, eS_s_33⟩ : ∃ z : Nat → Int32, z = upd S_s_22 (Int32.toNatClampNeg y29) x2 := ⟨_, rfl⟩
  have hf := bd_t eS_s_33 hf
  have hP : va_P D vwCl (wX7 cI cZ cII aS S_thrown S_s_33 S_aside S_saved S_savedMany S_text S_length S_fetched S_predicted S_fetchedMany S_fetchedWay S_spot S_isWrong S_executedByText ++ []) H := by rw [eS_s_33]; exact hP
  have hD : va_D A (wX7 cI cZ cII aS S_thrown S_s_33 S_aside S_saved S_savedMany S_text S_length S_fetched S_predicted S_fetchedMany S_fetchedWay S_spot S_isWrong S_executedByText ++ []) := by rw [eS_s_33]; exact hD
  refine lv_aload_n hx hb dX7_patterns_34 rfl (lv_at hl 1 rfl) ?_
  refine va_get (D := D) (ci := 7) (v := .ref (aS 1)) (C := RX7) (T := TX7) (N := 14) hx hb hts inX7 hown hK hP 0 rfl rfl 1 (by decide) kX7_7 (fun _ h9 => h9) rfl dX7_patterns_35 ?_
  refine lv_iload_n hx hb dX7_patterns_38 rfl (lv_at hl 2 rfl) ?_
  refine lv_iconst (v := 3) hx hb dX7_patterns_39 (by decide) ?_
  obtain ⟨y40, h40, hf⟩ := bn_t hf
  refine z_ai (x := []) (b := ([] : va_W)) (y := wX7 cI cZ cII aS S_thrown S_s_33 S_aside S_saved S_savedMany S_text S_length S_fetched S_predicted S_fetchedMany S_fetchedWay S_spot S_isWrong S_executedByText ++ []) (b1 := ([] : va_W)) (wsn := wX7 cI cZ cII aS S_thrown S_s_33 S_aside S_saved S_savedMany S_text S_length S_fetched S_predicted S_fetchedMany S_fetchedWay S_spot S_isWrong S_executedByText ++ []) (va_runS (As := [.int x1, .int (3 : Int32)]) (rest := [.ref (aS 1)]) ⟨hx, hb, hml, hown, hts⟩ (c_X7_of l D cI cZ cII cJ cM x1 (3 : Int32) H.size y40 h40) (va_cwS 2 hts gX7_patterns_X7_of rfl rfl rfl (by decide +kernel) ⟨Nat.le_of_ble_eq_true rfl, Nat.le_of_ble_eq_true rfl⟩) (pz_S (x := []) (b := ([] : va_W)) (y := wX7 cI cZ cII aS S_thrown S_s_33 S_aside S_saved S_savedMany S_text S_length S_fetched S_predicted S_fetchedMany S_fetchedWay S_spot S_isWrong S_executedByText ++ []) hK hN hP hD (by simp only [List.append_assoc, List.nil_append, List.append_nil])) rfl rfl hl.1 rfl (lv_room (Nat.le_of_ble_eq_true rfl)) dX7_patterns_40 ⟨Nat.le_of_ble_eq_true rfl, Nat.le_of_ble_eq_true rfl⟩) hP hD hS hA (by simp only [List.append_assoc, List.nil_append, List.append_nil]) (by simp only [List.append_assoc, List.nil_append, List.append_nil]) (fun H locs hP hD hS => ?_)
  refine lv_iload_n hx hb dX7_patterns_43 rfl (lv_at hl 4 rfl) ?_
  obtain ⟨g44, hf⟩ := gd_t hf
  refine va_iast hx hb hK hP hD hS 1 0 rfl rfl (inb_t g44) dX7_patterns_44 (fun H locs hP hD hS => ?_)
  obtain ⟨S_s_44, eS_s_44⟩ : ∃ z : Nat → Int32, z = upd S_s_33 (Int32.toNatClampNeg y40) x3 := ⟨_, rfl⟩
  have hf := bd_t eS_s_44 hf
  have hP : va_P D vwCl (wX7 cI cZ cII aS S_thrown S_s_44 S_aside S_saved S_savedMany S_text S_length S_fetched S_predicted S_fetchedMany S_fetchedWay S_spot S_isWrong S_executedByText ++ []) H := by rw [eS_s_44]; exact hP
  have hD : va_D A (wX7 cI cZ cII aS S_thrown S_s_44 S_aside S_saved S_savedMany S_text S_length S_fetched S_predicted S_fetchedMany S_fetchedWay S_spot S_isWrong S_executedByText ++ []) := by rw [eS_s_44]; exact hD
  refine lv_iload hx hb dX7_patterns_45 (lv_at hl 0 rfl) ?_
  obtain rfl := Option.some.inj hf
  exact hret _ _ _ _ _ dX7_patterns_47 rfl hP hD hS
set_option maxHeartbeats 8000000 in
set_option maxRecDepth 100000 in
theorem c_X7_write (l : Launch) (D : va_G) (cI cZ cII cJ cM : ClassId) (aS : Nat → Nat) (S_thrown : Int32) (S_s : Nat → Int32) (S_aside : Nat → Int32) (S_saved : Nat → Int32) (S_savedMany : Int32) (S_text : Nat → Int32) (S_length : Int32) (S_fetched : Nat → Int32) (S_predicted : Nat → Int32) (S_fetchedMany : Int32) (S_fetchedWay : Int32) (S_spot : Int32) (S_isWrong : Int32) (S_executedByText : Int32) (x1 : Int32) (x2 : Int32) (x3 : Int32) (sz : Nat) (y : (Int32) × (Int32) × (Nat → Int32) × (Nat → Int32) × (Int32)) (hf : m_X7_write S_thrown S_s S_saved S_savedMany x1 x2 x3 = some y) : Met l yX7_write wsX7_write ({ frames := 3, cells := 0, slots := 0, locals := 71 } : Room) (va_Pc [.ref (aS 0), .int x1, .int x2, .int x3] (pzPre D (zT cI cZ cII cJ cM) (wX7 cI cZ cII aS S_thrown S_s S_aside S_saved S_savedMany S_text S_length S_fetched S_predicted S_fetchedMany S_fetchedWay S_spot S_isWrong S_executedByText ++ []) sz)) (va_Qi (fun v (_ : Unit) => v = y.1) (fun _ t => pzB D (zT cI cZ cII cJ cM) (va_A (wX7 cI cZ cII aS S_thrown S_s S_aside S_saved S_savedMany S_text S_length S_fetched S_predicted S_fetchedMany S_fetchedWay S_spot S_isWrong S_executedByText ++ []) sz) (wX7 cI cZ cII aS y.2.1 y.2.2.1 S_aside y.2.2.2.1 y.2.2.2.2 S_text S_length S_fetched S_predicted S_fetchedMany S_fetchedWay S_spot S_isWrong S_executedByText ++ []) t) (va_A (wX7 cI cZ cII aS S_thrown S_s S_aside S_saved S_savedMany S_text S_length S_fetched S_predicted S_fetchedMany S_fetchedWay S_spot S_isWrong S_executedByText ++ []) sz)) 0 0 (va_A (wX7 cI cZ cII aS S_thrown S_s S_aside S_saved S_savedMany S_text S_length S_fetched S_predicted S_fetchedMany S_fetchedWay S_spot S_isWrong S_executedByText ++ []) sz) := by
  refine z_meti (cc := cX7_write) (maxL := 4) (by decide) rfl (Nat.le_of_ble_eq_true rfl) ?_
  intro p e s m args below meth c A ls Q H locs F hP hD hS hl hret
  obtain ⟨hx, hb, hml, hown, hts, hN, hK, hA⟩ := F
  have hown : s.vm.findClass RX7 = some m.cls := hown
  have hl : lv_has ls 4 [(0, .ref (aS 0)), (1, .int x1), (2, .int x2), (3, .int x3)] := hl
  have J33 : ∀ (S_thrown : Int32) (S_s : Nat → Int32) (S_saved : Nat → Int32) (S_savedMany : Int32) (k1 : Int32) (H : Heap) (locs : List Loc) (ls : Array Slot), m_X7_write_33 x1 x2 x3 S_thrown S_s S_saved S_savedMany k1 = some y → va_P D vwCl (wX7 cI cZ cII aS S_thrown S_s S_aside S_saved S_savedMany S_text S_length S_fetched S_predicted S_fetchedMany S_fetchedWay S_spot S_isWrong S_executedByText ++ []) H → va_D A (wX7 cI cZ cII aS S_thrown S_s S_aside S_saved S_savedMany S_text S_length S_fetched S_predicted S_fetchedMany S_fetchedWay S_spot S_isWrong S_executedByText ++ []) → va_S A s.heap H locs → lv_has ls 4 [(0, .ref (aS 0)), (1, .int x1), (2, .int x2), (3, .int x3)] → W p l e ({ frames := 3, cells := 0, slots := 0, locals := 71 } : Room) s m args below meth c H locs 0 0 Q (F0 m 33 ls [.int k1, .ref (aS 0)]) := by
    intro S_thrown S_s S_saved S_savedMany k1 H locs ls hf hP hD hS hl
    unfold m_X7_write_33 at hf
    obtain ⟨y33, h33, hf⟩ := bn_t hf
    refine z_ai (x := []) (b := wX7 cI cZ cII aS S_thrown S_s S_aside S_saved S_savedMany S_text S_length S_fetched S_predicted S_fetchedMany S_fetchedWay S_spot S_isWrong S_executedByText ++ []) (y := ([] : va_W)) (b1 := wX7 cI cZ cII aS y33.2 S_s S_aside S_saved S_savedMany S_text S_length S_fetched S_predicted S_fetchedMany S_fetchedWay S_spot S_isWrong S_executedByText ++ []) (wsn := wX7 cI cZ cII aS y33.2 S_s S_aside S_saved S_savedMany S_text S_length S_fetched S_predicted S_fetchedMany S_fetchedWay S_spot S_isWrong S_executedByText ++ []) (va_runV (As := [.int k1]) (rest := []) ⟨hx, hb, hml, hown, hts⟩ (c_X7_holds l D cI cZ cII cJ cM aS S_thrown S_s S_aside S_saved S_savedMany S_text S_length S_fetched S_predicted S_fetchedMany S_fetchedWay S_spot S_isWrong S_executedByText k1 H.size y33 h33) (cwV 1 hts gX7_write_X7_holds rfl rfl rfl (by decide +kernel) ⟨Nat.le_of_ble_eq_true rfl, Nat.le_of_ble_eq_true rfl⟩) (pz_V (x := []) (b := wX7 cI cZ cII aS S_thrown S_s S_aside S_saved S_savedMany S_text S_length S_fetched S_predicted S_fetchedMany S_fetchedWay S_spot S_isWrong S_executedByText ++ []) (y := ([] : va_W)) (C := RX7) (T := TX7) (N := 14) (ci := 7) (As := [.int k1]) (bi := 0) hK hN hP hD (by simp only [List.append_assoc, List.nil_append, List.append_nil]) rfl rfl) rfl rfl hl.1 rfl (lv_room (Nat.le_of_ble_eq_true rfl)) dX7_write_33 ⟨Nat.le_of_ble_eq_true rfl, Nat.le_of_ble_eq_true rfl⟩) hP hD hS hA (by simp only [List.append_assoc, List.nil_append, List.append_nil]) (by simp only [List.append_assoc, List.nil_append, List.append_nil]) (fun H locs hP hD hS => ?_)
    refine lv_if_ne (tgt := 41) hx hb dX7_write_36 (by decide) (fun c36 => ?_) (fun c36 => ?_)
    · have hf := if_f c36 hf
      refine lv_aload_n hx hb dX7_write_41 rfl (lv_at hl 0 rfl) ?_
      obtain ⟨y42, h42, hf⟩ := bn_t hf
      refine z_av (x := []) (b := wX7 cI cZ cII aS y33.2 S_s S_aside S_saved S_savedMany S_text S_length S_fetched S_predicted S_fetchedMany S_fetchedWay S_spot S_isWrong S_executedByText ++ []) (y := ([] : va_W)) (b1 := wX7 cI cZ cII aS y33.2 S_s S_aside y42.1 y42.2 S_text S_length S_fetched S_predicted S_fetchedMany S_fetchedWay S_spot S_isWrong S_executedByText ++ []) (wsn := wX7 cI cZ cII aS y33.2 S_s S_aside y42.1 y42.2 S_text S_length S_fetched S_predicted S_fetchedMany S_fetchedWay S_spot S_isWrong S_executedByText ++ []) (va_runV (As := []) (rest := []) ⟨hx, hb, hml, hown, hts⟩ (c_X7_save l D cI cZ cII cJ cM aS y33.2 S_s S_aside S_saved S_savedMany S_text S_length S_fetched S_predicted S_fetchedMany S_fetchedWay S_spot S_isWrong S_executedByText H.size y42 h42) (cwV 0 hts gX7_write_X7_save rfl rfl rfl (by decide +kernel) ⟨Nat.le_of_ble_eq_true rfl, Nat.le_of_ble_eq_true rfl⟩) (pz_V (x := []) (b := wX7 cI cZ cII aS y33.2 S_s S_aside S_saved S_savedMany S_text S_length S_fetched S_predicted S_fetchedMany S_fetchedWay S_spot S_isWrong S_executedByText ++ []) (y := ([] : va_W)) (C := RX7) (T := TX7) (N := 14) (ci := 7) (As := []) (bi := 0) hK hN hP hD (by simp only [List.append_assoc, List.nil_append, List.append_nil]) rfl rfl) rfl rfl hl.1 rfl (lv_room (Nat.le_of_ble_eq_true rfl)) dX7_write_42 ⟨Nat.le_of_ble_eq_true rfl, Nat.le_of_ble_eq_true rfl⟩) hP hD hS hA (by simp only [List.append_assoc, List.nil_append, List.append_nil]) (by simp only [List.append_assoc, List.nil_append, List.append_nil]) (fun H locs hP hD hS => ?_)
      refine lv_aload_n hx hb dX7_write_45 rfl (lv_at hl 0 rfl) ?_
      refine lv_iload_n hx hb dX7_write_46 rfl (lv_at hl 1 rfl) ?_
      refine lv_iload_n hx hb dX7_write_47 rfl (lv_at hl 2 rfl) ?_
      refine lv_iload_n hx hb dX7_write_48 rfl (lv_at hl 3 rfl) ?_
      obtain ⟨y49, h49, hf⟩ := bn_t hf
      refine z_ai (x := []) (b := wX7 cI cZ cII aS y33.2 S_s S_aside y42.1 y42.2 S_text S_length S_fetched S_predicted S_fetchedMany S_fetchedWay S_spot S_isWrong S_executedByText ++ []) (y := ([] : va_W)) (b1 := wX7 cI cZ cII aS y33.2 y49.2 S_aside y42.1 y42.2 S_text S_length S_fetched S_predicted S_fetchedMany S_fetchedWay S_spot S_isWrong S_executedByText ++ []) (wsn := wX7 cI cZ cII aS y33.2 y49.2 S_aside y42.1 y42.2 S_text S_length S_fetched S_predicted S_fetchedMany S_fetchedWay S_spot S_isWrong S_executedByText ++ []) (va_runV (As := [.int x1, .int x2, .int x3]) (rest := []) ⟨hx, hb, hml, hown, hts⟩ (c_X7_writes l D cI cZ cII cJ cM aS y33.2 S_s S_aside y42.1 y42.2 S_text S_length S_fetched S_predicted S_fetchedMany S_fetchedWay S_spot S_isWrong S_executedByText x1 x2 x3 H.size y49 h49) (cwV 3 hts gX7_write_X7_writes rfl rfl rfl (by decide +kernel) ⟨Nat.le_of_ble_eq_true rfl, Nat.le_of_ble_eq_true rfl⟩) (pz_V (x := []) (b := wX7 cI cZ cII aS y33.2 S_s S_aside y42.1 y42.2 S_text S_length S_fetched S_predicted S_fetchedMany S_fetchedWay S_spot S_isWrong S_executedByText ++ []) (y := ([] : va_W)) (C := RX7) (T := TX7) (N := 14) (ci := 7) (As := [.int x1, .int x2, .int x3]) (bi := 0) hK hN hP hD (by simp only [List.append_assoc, List.nil_append, List.append_nil]) rfl rfl) rfl rfl hl.1 rfl (lv_room (Nat.le_of_ble_eq_true rfl)) dX7_write_49 ⟨Nat.le_of_ble_eq_true rfl, Nat.le_of_ble_eq_true rfl⟩) hP hD hS hA (by simp only [List.append_assoc, List.nil_append, List.append_nil]) (by simp only [List.append_assoc, List.nil_append, List.append_nil]) (fun H locs hP hD hS => ?_)
      obtain rfl := Option.some.inj hf
      exact hret _ _ _ _ _ dX7_write_52 rfl hP hD hS
    · have hf := if_t c36 hf
      refine lv_iconst (v := 0) hx hb dX7_write_39 (by decide) ?_
      obtain rfl := Option.some.inj hf
      exact hret _ _ _ _ _ dX7_write_40 rfl hP hD hS
  have J15 : ∀ (S_thrown : Int32) (S_s : Nat → Int32) (S_saved : Nat → Int32) (S_savedMany : Int32) (H : Heap) (locs : List Loc) (ls : Array Slot), m_X7_write_15 x1 x2 x3 S_thrown S_s S_saved S_savedMany = some y → va_P D vwCl (wX7 cI cZ cII aS S_thrown S_s S_aside S_saved S_savedMany S_text S_length S_fetched S_predicted S_fetchedMany S_fetchedWay S_spot S_isWrong S_executedByText ++ []) H → va_D A (wX7 cI cZ cII aS S_thrown S_s S_aside S_saved S_savedMany S_text S_length S_fetched S_predicted S_fetchedMany S_fetchedWay S_spot S_isWrong S_executedByText ++ []) → va_S A s.heap H locs → lv_has ls 4 [(0, .ref (aS 0)), (1, .int x1), (2, .int x2), (3, .int x3)] → W p l e ({ frames := 3, cells := 0, slots := 0, locals := 71 } : Room) s m args below meth c H locs 0 0 Q (F0 m 15 ls [.ref (aS 0)]) := by
    intro S_thrown S_s S_saved S_savedMany H locs ls hf hP hD hS hl
    unfold m_X7_write_15 at hf
    refine lv_iconst (v := 1) hx hb dX7_write_15 (by decide) ?_
    refine lv_goto (tgt := 33) hx hb dX7_write_16 (by decide) ?_
    exact J33 S_thrown S_s S_saved S_savedMany (1 : Int32) _ _ _ hf hP hD hS (lv_sub hl [0, 1, 2, 3] rfl)
  unfold m_X7_write at hf
  refine lv_aload_n hx hb dX7_write_0 rfl (lv_at hl 0 rfl) ?_
  refine lv_iload_n hx hb dX7_write_1 rfl (lv_at hl 1 rfl) ?_
  obtain ⟨y2, h2, hf⟩ := bn_t hf
  refine z_ai (x := []) (b := ([] : va_W)) (y := wX7 cI cZ cII aS S_thrown S_s S_aside S_saved S_savedMany S_text S_length S_fetched S_predicted S_fetchedMany S_fetchedWay S_spot S_isWrong S_executedByText ++ []) (b1 := ([] : va_W)) (wsn := wX7 cI cZ cII aS S_thrown S_s S_aside S_saved S_savedMany S_text S_length S_fetched S_predicted S_fetchedMany S_fetchedWay S_spot S_isWrong S_executedByText ++ []) (va_runS (As := [.int x1]) (rest := [.ref (aS 0)]) ⟨hx, hb, hml, hown, hts⟩ (c_X7_isAddress l D cI cZ cII cJ cM x1 H.size y2 h2) (va_cwS 1 hts gX7_write_X7_isAddress rfl rfl rfl (by decide +kernel) ⟨Nat.le_of_ble_eq_true rfl, Nat.le_of_ble_eq_true rfl⟩) (pz_S (x := []) (b := ([] : va_W)) (y := wX7 cI cZ cII aS S_thrown S_s S_aside S_saved S_savedMany S_text S_length S_fetched S_predicted S_fetchedMany S_fetchedWay S_spot S_isWrong S_executedByText ++ []) hK hN hP hD (by simp only [List.append_assoc, List.nil_append, List.append_nil])) rfl rfl hl.1 rfl (lv_room (Nat.le_of_ble_eq_true rfl)) dX7_write_2 ⟨Nat.le_of_ble_eq_true rfl, Nat.le_of_ble_eq_true rfl⟩) hP hD hS hA (by simp only [List.append_assoc, List.nil_append, List.append_nil]) (by simp only [List.append_assoc, List.nil_append, List.append_nil]) (fun H locs hP hD hS => ?_)
  refine lv_if_eq (tgt := 15) hx hb dX7_write_5 (by decide) (fun c5 => ?_) (fun c5 => ?_)
  · have hf := if_t c5 hf
    exact J15 S_thrown S_s S_saved S_savedMany _ _ _ hf hP hD hS (lv_sub hl [0, 1, 2, 3] rfl)
  · have hf := if_f c5 hf
    refine lv_iload_n hx hb dX7_write_8 rfl (lv_at hl 3 rfl) ?_
    obtain ⟨y9, h9, hf⟩ := bn_t hf
    refine z_ai (x := []) (b := ([] : va_W)) (y := wX7 cI cZ cII aS S_thrown S_s S_aside S_saved S_savedMany S_text S_length S_fetched S_predicted S_fetchedMany S_fetchedWay S_spot S_isWrong S_executedByText ++ []) (b1 := ([] : va_W)) (wsn := wX7 cI cZ cII aS S_thrown S_s S_aside S_saved S_savedMany S_text S_length S_fetched S_predicted S_fetchedMany S_fetchedWay S_spot S_isWrong S_executedByText ++ []) (va_runS (As := [.int x3]) (rest := [.ref (aS 0)]) ⟨hx, hb, hml, hown, hts⟩ (c_X7_isAddress l D cI cZ cII cJ cM x3 H.size y9 h9) (va_cwS 1 hts gX7_write_X7_isAddress rfl rfl rfl (by decide +kernel) ⟨Nat.le_of_ble_eq_true rfl, Nat.le_of_ble_eq_true rfl⟩) (pz_S (x := []) (b := ([] : va_W)) (y := wX7 cI cZ cII aS S_thrown S_s S_aside S_saved S_savedMany S_text S_length S_fetched S_predicted S_fetchedMany S_fetchedWay S_spot S_isWrong S_executedByText ++ []) hK hN hP hD (by simp only [List.append_assoc, List.nil_append, List.append_nil])) rfl rfl hl.1 rfl (lv_room (Nat.le_of_ble_eq_true rfl)) dX7_write_9 ⟨Nat.le_of_ble_eq_true rfl, Nat.le_of_ble_eq_true rfl⟩) hP hD hS hA (by simp only [List.append_assoc, List.nil_append, List.append_nil]) (by simp only [List.append_assoc, List.nil_append, List.append_nil]) (fun H locs hP hD hS => ?_)
    refine lv_if_ne (tgt := 19) hx hb dX7_write_12 (by decide) (fun c12 => ?_) (fun c12 => ?_)
    · have hf := if_f c12 hf
      refine lv_iload_n hx hb dX7_write_19 rfl (lv_at hl 2 rfl) ?_
      refine lv_iconst (v := 0) hx hb dX7_write_20 (by decide) ?_
      refine lv_iconst (v := 2) hx hb dX7_write_21 (by decide) ?_
      obtain ⟨y22, h22, hf⟩ := bn_t hf
      refine z_ai (x := []) (b := ([] : va_W)) (y := wX7 cI cZ cII aS S_thrown S_s S_aside S_saved S_savedMany S_text S_length S_fetched S_predicted S_fetchedMany S_fetchedWay S_spot S_isWrong S_executedByText ++ []) (b1 := ([] : va_W)) (wsn := wX7 cI cZ cII aS S_thrown S_s S_aside S_saved S_savedMany S_text S_length S_fetched S_predicted S_fetchedMany S_fetchedWay S_spot S_isWrong S_executedByText ++ []) (va_runS (As := [.int x2, .int (0 : Int32), .int (2 : Int32)]) (rest := [.ref (aS 0)]) ⟨hx, hb, hml, hown, hts⟩ (c_X7_in l D cI cZ cII cJ cM x2 (0 : Int32) (2 : Int32) H.size y22 h22) (va_cwS 3 hts gX7_write_X7_in rfl rfl rfl (by decide +kernel) ⟨Nat.le_of_ble_eq_true rfl, Nat.le_of_ble_eq_true rfl⟩) (pz_S (x := []) (b := ([] : va_W)) (y := wX7 cI cZ cII aS S_thrown S_s S_aside S_saved S_savedMany S_text S_length S_fetched S_predicted S_fetchedMany S_fetchedWay S_spot S_isWrong S_executedByText ++ []) hK hN hP hD (by simp only [List.append_assoc, List.nil_append, List.append_nil])) rfl rfl hl.1 rfl (lv_room (Nat.le_of_ble_eq_true rfl)) dX7_write_22 ⟨Nat.le_of_ble_eq_true rfl, Nat.le_of_ble_eq_true rfl⟩) hP hD hS hA (by simp only [List.append_assoc, List.nil_append, List.append_nil]) (by simp only [List.append_assoc, List.nil_append, List.append_nil]) (fun H locs hP hD hS => ?_)
      refine lv_if_eq (tgt := 32) hx hb dX7_write_25 (by decide) (fun c25 => ?_) (fun c25 => ?_)
      · have hf := if_t c25 hf
        refine lv_iconst (v := 2) hx hb dX7_write_32 (by decide) ?_
        exact J33 S_thrown S_s S_saved S_savedMany (2 : Int32) _ _ _ hf hP hD hS (lv_sub hl [0, 1, 2, 3] rfl)
      · have hf := if_f c25 hf
        refine lv_iconst (v := 0) hx hb dX7_write_28 (by decide) ?_
        refine lv_goto (tgt := 33) hx hb dX7_write_29 (by decide) ?_
        exact J33 S_thrown S_s S_saved S_savedMany (0 : Int32) _ _ _ hf hP hD hS (lv_sub hl [0, 1, 2, 3] rfl)
    · have hf := if_t c12 hf
      exact J15 S_thrown S_s S_saved S_savedMany _ _ _ hf hP hD hS (lv_sub hl [0, 1, 2, 3] rfl)
