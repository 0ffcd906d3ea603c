-- ===== ZD: the two methods that may draw =====
def z_rt (ex ti : Int32) (v : UInt64) : Prop := (ti = 0 → v = FP.dconst0) ∧ (¬ ti = 0 → alike64 v (FP.ddiv (FP.i2d ex) (FP.i2d ti)) = true)
theorem pzN.dr {s : State} (h : pzN s) (d : Drawn) : pzN (s.setDrawn d) := fun w hw => va_Nw.same (pz_tab pzN_ok hw) (show s.vm = (s.setDrawn d).vm from rfl) (h w hw)
theorem va_K_dr {D : va_G} {tys : List (ClassId × FieldType)} {s : State} (h : va_K D vwCl tys s) (d : Drawn) : va_K D vwCl tys (s.setDrawn d) := va_K.moved (u := s) (U := s.setDrawn d) (Vm.Alike.refl s.vm) h
theorem z_metD {post : UInt64 → Prop} {l : Launch} {y : MethodName} {ws ws' : List Cond} {rm : Room} {cc : ByteArray} {maxL : Nat} {D : va_G} {tys : List (ClassId × FieldType)} {w0 w1 : va_W} {av : List Value} {sz : Nat} (hy : plainName y.cls = true) (hw : ws = Cond.code y cc maxL (some .double) :: ws') (hle : (lg_sl av).length ≤ maxL)
    (body : ∀ (p : Program) (e : Env) (s : State) (m : MethodId) (args : Array Value) (below : List Frame) (meth : Method) (c : Code) (A : Nat → Prop) (ls : Array Slot) (Q : State → Prop) (H : Heap) (locs : List Loc),
      z_Fx y cc maxL ws D tys p (s.setDrawn s.drawn) m args c A → s.drawn.sameBut s.drawn lw_cs → va_P D vwCl w0 H → va_D A w0 → va_S A s.heap H locs → lv_has ls maxL (lv_args 0 av) →
      (∀ (d : Drawn) (H : Heap) (locs : List Loc) (pc : Nat) (ls : Array Slot) (v : UInt64), s.drawn.sameBut d lw_cs → decode cc pc = .ok (.dreturn, 1) → post v → va_P D vwCl w1 H → va_D A w1 → va_S A s.heap H locs → W p l e rm (s.setDrawn d) m args below meth c H locs 0 0 Q (F0 m pc ls [.double v])) →
      W p l e rm (s.setDrawn s.drawn) m args below meth c H locs 0 0 Q (F0 m 0 ls [])) :
    MetD lw_cs l y ws rm (va_Pc av (pzPre D tys w0 sz)) (va_Qd (fun v (_ : Unit) => post v) (fun _ t => pzB D tys (va_A w0 sz) w1 t) (va_A w0 sz)) 0 0 (va_A w0 sz) := by
  refine MetD.ofW (cc := cc) (maxL := maxL) (ret := some .double) hy hw ?_
  intro p e s m args below meth c s₁ B hml hv hd0
  obtain ⟨rfl, hsz, hP, hK, hD0, hN⟩ := hv
  have hts := atoms_spec (ws := ws) B.pre
  have hown : s.vm.findClass y.cls = some m.cls := findClass_of_methodNamed B.named
  subst hsz
  have hD := hD0.self (sz := s.heap.size)
  have hl := lv_entry av (n := maxL) hle
  rw [lg_entry_eq]
  refine body p e s m _ below meth c (va_A w0 s.heap.size) _ _ _ _ ⟨B.exec, B.bytes, hml, hown, dr_words hts _, hN.dr _, va_K_dr hK _, fun q h => Or.inr h⟩ hd0 hP hD va_S.rf hl ?_
  intro d H locs pc ls v hd hdg hv hP1 hD1 hS1
  refine W.endD hd ?_
  exact W.dret (v := v) B.exec B.bytes B.returns (fun t ht hW => ⟨⟨v, (), rfl, hv, by rw [ht]; exact hP1, va_K.moved hW.alike (va_K_dr hK d), hD1⟩, hS1.F ht⟩) hS1.2.2 hdg B.notSynchronized
def m_X6_rate (M_time : Int32) (M_executed : Int32) : Option (Unit) := (if M_time = (0 : Int32) then (some ()) else (some ()))
set_option maxHeartbeats 8000000 in
set_option maxRecDepth 100000 in
theorem c_X6_rate (l : Launch) (D : va_G) (cI cZ cII cJ cM : ClassId) (aT : Nat → Nat) (aX : Nat → Nat) (aR : Nat → Nat) (aM : Nat → Nat) (aL : Nat → Nat) (aC : Nat → Nat) (rC : Nat → Nat) (aP : Nat → Nat) (aF : Nat → Nat) (aH : Nat → Nat) (hH : Nat → Nat → Nat → Nat) (X_characters : Nat → Int32) (X_length : Int32) (X_place : Int32) (X_operation : Int32) (X_address : Int32) (X_number : Int32) (X_outcomes : Int32) (R_kinds : Nat → Int32) (R_targets : Nat → Int32) (R_outcomes : Nat → Int32) (R_lengths : Nat → Int32) (R_outcomeCounts : Nat → Int32) (R_counters : Nat → Int32) (R_next : Int32) (M_pendingSize : Int32) (M_time : Int32) (M_fetches : Int32) (M_executed : Int32) (M_thrownAway : Int32) (M_mispredictions : Int32) (M_executedFromLines : Int32) (M_fetchesFromLines : Int32) (L_row : Nat → Int32) (C_addresses : Nat → Nat → Int32) (C_sizes : Nat → Int32) (C_useNumbers : Nat → Int32) (C_lastUse : Int32) (C_put : Int32) (C_replaced : Int32) (C_dropped : Int32) (P_kinds : Nat → Int32) (P_targets : Nat → Int32) (P_outcomes : Nat → Int32) (P_lengths : Nat → Int32) (P_outcomeCounts : Nat → Int32) (P_counters : Nat → Int32) (P_next : Int32) (F_addresses : Nat → Int32) (F_predictions : Nat → Int32) (F_size : Int32) (F_place : Int32) (F_executed : Int32) (F_mispredictions : Int32) (H_saved : Nat → zMT) (H_oldest : Int32) (H_size : Int32) (sz : Nat) (y : Unit) (hf : m_X6_rate M_time M_executed = some y) : MetD lw_cs l yX6_rate wsX6_rate ({ frames := 0, cells := 0, slots := 0, locals := 0 } : Room) (va_Pc [.ref (aT 0)] (pzPre D (zT cI cZ cII cJ cM) (wX6 cI cZ cII aT (aM 0) (aH 0) (aX 0) (aF 0) (aR 0) ++ (wX5 cI cZ cII aX X_characters X_length X_place X_operation X_address X_number X_outcomes ++ (wX4 cI cZ cII aR R_kinds R_targets R_outcomes R_lengths R_outcomeCounts R_counters R_next ++ (wX3 cI cZ cII aM (aP 0) (aC 0) (aL 0) M_pendingSize M_time M_fetches M_executed M_thrownAway M_mispredictions M_executedFromLines M_fetchesFromLines ++ (zA cI aL 8 L_row ++ (wX0 cI cZ cII aC rC C_addresses C_sizes C_useNumbers C_lastUse C_put C_replaced C_dropped ++ (wX4 cI cZ cII aP P_kinds P_targets P_outcomes P_lengths P_outcomeCounts P_counters P_next ++ (wX1 cI cZ cII aF F_addresses F_predictions F_size F_place F_executed F_mispredictions ++ (wX2 cI cZ cII cM aH hH H_saved H_oldest H_size ++ []))))))))) sz)) (va_Qd (fun v (_ : Unit) => z_rt M_executed M_time v) (fun _ t => pzB D (zT cI cZ cII cJ cM) (va_A (wX6 cI cZ cII aT (aM 0) (aH 0) (aX 0) (aF 0) (aR 0) ++ (wX5 cI cZ cII aX X_characters X_length X_place X_operation X_address X_number X_outcomes ++ (wX4 cI cZ cII aR R_kinds R_targets R_outcomes R_lengths R_outcomeCounts R_counters R_next ++ (wX3 cI cZ cII aM (aP 0) (aC 0) (aL 0) M_pendingSize M_time M_fetches M_executed M_thrownAway M_mispredictions M_executedFromLines M_fetchesFromLines ++ (zA cI aL 8 L_row ++ (wX0 cI cZ cII aC rC C_addresses C_sizes C_useNumbers C_lastUse C_put C_replaced C_dropped ++ (wX4 cI cZ cII aP P_kinds P_targets P_outcomes P_lengths P_outcomeCounts P_counters P_next ++ (wX1 cI cZ cII aF F_addresses F_predictions F_size F_place F_executed F_mispredictions ++ (wX2 cI cZ cII cM aH hH H_saved H_oldest H_size ++ []))))))))) sz) (wX6 cI cZ cII aT (aM 0) (aH 0) (aX 0) (aF 0) (aR 0) ++ (wX5 cI cZ cII aX X_characters X_length X_place X_operation X_address X_number X_outcomes ++ (wX4 cI cZ cII aR R_kinds R_targets R_outcomes R_lengths R_outcomeCounts R_counters R_next ++ (wX3 cI cZ cII aM (aP 0) (aC 0) (aL 0) M_pendingSize M_time M_fetches M_executed M_thrownAway M_mispredictions M_executedFromLines M_fetchesFromLines ++ (zA cI aL 8 L_row ++ (wX0 cI cZ cII aC rC C_addresses C_sizes C_useNumbers C_lastUse C_put C_replaced C_dropped ++ (wX4 cI cZ cII aP P_kinds P_targets P_outcomes P_lengths P_outcomeCounts P_counters P_next ++ (wX1 cI cZ cII aF F_addresses F_predictions F_size F_place F_executed F_mispredictions ++ (wX2 cI cZ cII cM aH hH H_saved H_oldest H_size ++ []))))))))) t) (va_A (wX6 cI cZ cII aT (aM 0) (aH 0) (aX 0) (aF 0) (aR 0) ++ (wX5 cI cZ cII aX X_characters X_length X_place X_operation X_address X_number X_outcomes ++ (wX4 cI cZ cII aR R_kinds R_targets R_outcomes R_lengths R_outcomeCounts R_counters R_next ++ (wX3 cI cZ cII aM (aP 0) (aC 0) (aL 0) M_pendingSize M_time M_fetches M_executed M_thrownAway M_mispredictions M_executedFromLines M_fetchesFromLines ++ (zA cI aL 8 L_row ++ (wX0 cI cZ cII aC rC C_addresses C_sizes C_useNumbers C_lastUse C_put C_replaced C_dropped ++ (wX4 cI cZ cII aP P_kinds P_targets P_outcomes P_lengths P_outcomeCounts P_counters P_next ++ (wX1 cI cZ cII aF F_addresses F_predictions F_size F_place F_executed F_mispredictions ++ (wX2 cI cZ cII cM aH hH H_saved H_oldest H_size ++ []))))))))) sz)) 0 0 (va_A (wX6 cI cZ cII aT (aM 0) (aH 0) (aX 0) (aF 0) (aR 0) ++ (wX5 cI cZ cII aX X_characters X_length X_place X_operation X_address X_number X_outcomes ++ (wX4 cI cZ cII aR R_kinds R_targets R_outcomes R_lengths R_outcomeCounts R_counters R_next ++ (wX3 cI cZ cII aM (aP 0) (aC 0) (aL 0) M_pendingSize M_time M_fetches M_executed M_thrownAway M_mispredictions M_executedFromLines M_fetchesFromLines ++ (zA cI aL 8 L_row ++ (wX0 cI cZ cII aC rC C_addresses C_sizes C_useNumbers C_lastUse C_put C_replaced C_dropped ++ (wX4 cI cZ cII aP P_kinds P_targets P_outcomes P_lengths P_outcomeCounts P_counters P_next ++ (wX1 cI cZ cII aF F_addresses F_predictions F_size F_place F_executed F_mispredictions ++ (wX2 cI cZ cII cM aH hH H_saved H_oldest H_size ++ []))))))))) sz) := by
  refine z_metD (cc := cX6_rate) (maxL := 1) (by decide) rfl (Nat.le_of_ble_eq_true rfl) ?_
  intro p e s m args below meth c A ls Q H locs F hd0 hP hD hS hl hret
  obtain ⟨hx, hb, hml, hown, hts, hN, hK, hA⟩ := F
  have hown : s.vm.findClass RX6 = some m.cls := hown
  have hl : lv_has ls 1 [(0, .ref (aT 0))] := hl
  have inX3 : ∀ w ∈ u_ws RX3 TX3 11, w ∈ wsX6_rate := by decide +kernel
  have inX6 : ∀ w ∈ u_ws RX6 TX6 5, w ∈ wsX6_rate := by decide +kernel
  have kX6_12 := hts (.fieldLink RX6 12 "TraceCache" "machine" "LTraceCache$Machine;") (by decide +kernel)
  unfold m_X6_rate at hf
  refine lv_aload_n hx hb dX6_rate_0 rfl (lv_at hl 0 rfl) ?_
  refine va_get (D := D) (ci := 6) (v := .ref (aM 0)) (C := RX6) (T := TX6) (N := 5) hx hb hts inX6 hown hK hP 0 rfl rfl 0 (by decide) kX6_12 (fun _ h9 => h9) rfl dX6_rate_1 ?_
  refine va_getN (D := D) (ci := 3) (v := .int M_time) (C := RX3) (T := TX3) (N := 11) hx hb hts inX3 hown hK hP 10 rfl rfl 4 (by decide) (hN.use 20 rfl) (fun _ h9 => h9) rfl dX6_rate_4 ?_
  refine lv_if_ne (tgt := 14) hx hb dX6_rate_7 (by decide) (fun c7 => ?_) (fun c7 => ?_)
  · have hf := if_f c7 hf
    refine lv_aload_n hx hb dX6_rate_14 rfl (lv_at hl 0 rfl) ?_
    refine va_get (D := D) (ci := 6) (v := .ref (aM 0)) (C := RX6) (T := TX6) (N := 5) hx hb hts inX6 hown hK hP 0 rfl rfl 0 (by decide) kX6_12 (fun _ h9 => h9) rfl dX6_rate_15 ?_
    refine va_getN (D := D) (ci := 3) (v := .int M_executed) (C := RX3) (T := TX3) (N := 11) hx hb hts inX3 hown hK hP 10 rfl rfl 6 (by decide) (hN.use 22 rfl) (fun _ h9 => h9) rfl dX6_rate_18 ?_
    refine lv_i2d hx hb dX6_rate_21 ?_
    refine lv_aload_n hx hb dX6_rate_22 rfl (lv_at hl 0 rfl) ?_
    refine va_get (D := D) (ci := 6) (v := .ref (aM 0)) (C := RX6) (T := TX6) (N := 5) hx hb hts inX6 hown hK hP 0 rfl rfl 0 (by decide) kX6_12 (fun _ h9 => h9) rfl dX6_rate_23 ?_
    refine va_getN (D := D) (ci := 3) (v := .int M_time) (C := RX3) (T := TX3) (N := 11) hx hb hts inX3 hown hK hP 10 rfl rfl 4 (by decide) (hN.use 20 rfl) (fun _ h9 => h9) rfl dX6_rate_26 ?_
    refine lv_i2d hx hb dX6_rate_29 ?_
    refine lv_ddiv_any hd0 lw_bits hx hb dX6_rate_30 (fun v30 d1 hal hd1 => ?_)
    obtain rfl := Option.some.inj hf
    exact hret _ _ _ _ _ _ hd1 dX6_rate_31 ⟨fun h => absurd h c7, fun _ => hal⟩ hP hD hS
  · have hf := if_t c7 hf
    refine lv_dconst0 hx hb dX6_rate_10 ?_
    refine lv_goto (tgt := 31) hx hb dX6_rate_11 (by decide) ?_
    obtain rfl := Option.some.inj hf
    exact hret _ _ _ _ _ _ hd0 dX6_rate_31 ⟨fun _ => rfl, fun h => absurd c7 h⟩ hP hD hS
def m_X7_rate (S_s : Nat → Int32) (S_thrown : Int32) : Option ((Int32)) := (gd (inb (379 : Int32) 389) (if (S_s (Int32.toNatClampNeg (379 : Int32))) = (0 : Int32) then (some ((0 : Int32))) else (gd (inb (381 : Int32) 389) (gd (inb (379 : Int32) 389) (some ((0 : Int32)))))))
set_option maxHeartbeats 8000000 in
set_option maxRecDepth 100000 in
theorem c_X7_rate (l : Launch) (D : va_G) (cI cZ cII cJ cM : ClassId) (aS : Nat → Nat) (S_thrown : Int32) (S_s : Nat → Int32) (S_aside : Nat → Int32) (S_saved : Nat → Int32) (S_savedMany : Int32) (S_text : Nat → Int32) (S_length : Int32) (S_fetched : Nat → Int32) (S_predicted : Nat → Int32) (S_fetchedMany : Int32) (S_fetchedWay : Int32) (S_spot : Int32) (S_isWrong : Int32) (S_executedByText : Int32) (sz : Nat) (y : (Int32)) (hf : m_X7_rate S_s S_thrown = some y) : MetD lw_cs l yX7_rate wsX7_rate ({ frames := 0, cells := 0, slots := 0, locals := 0 } : Room) (va_Pc [.ref (aS 0)] (pzPre D (zT cI cZ cII cJ cM) (wX7 cI cZ cII aS S_thrown S_s S_aside S_saved S_savedMany S_text S_length S_fetched S_predicted S_fetchedMany S_fetchedWay S_spot S_isWrong S_executedByText ++ []) sz)) (va_Qd (fun v (_ : Unit) => z_rt (S_s (Int32.toNatClampNeg (381 : Int32))) (S_s (Int32.toNatClampNeg (379 : Int32))) v) (fun _ t => pzB D (zT cI cZ cII cJ cM) (va_A (wX7 cI cZ cII aS S_thrown S_s S_aside S_saved S_savedMany S_text S_length S_fetched S_predicted S_fetchedMany S_fetchedWay S_spot S_isWrong S_executedByText ++ []) sz) (wX7 cI cZ cII aS y S_s S_aside S_saved S_savedMany S_text S_length S_fetched S_predicted S_fetchedMany S_fetchedWay S_spot S_isWrong S_executedByText ++ []) t) (va_A (wX7 cI cZ cII aS S_thrown S_s S_aside S_saved S_savedMany S_text S_length S_fetched S_predicted S_fetchedMany S_fetchedWay S_spot S_isWrong S_executedByText ++ []) sz)) 0 0 (va_A (wX7 cI cZ cII aS S_thrown S_s S_aside S_saved S_savedMany S_text S_length S_fetched S_predicted S_fetchedMany S_fetchedWay S_spot S_isWrong S_executedByText ++ []) sz) := by
  refine z_metD (cc := cX7_rate) (maxL := 1) (by decide) rfl (Nat.le_of_ble_eq_true rfl) ?_
  intro p e s m args below meth c A ls Q H locs F hd0 hP hD hS hl hret
  obtain ⟨hx, hb, hml, hown, hts, hN, hK, hA⟩ := F
  have hown : s.vm.findClass RX7 = some m.cls := hown
  have hl : lv_has ls 1 [(0, .ref (aS 0))] := hl
  have inX7 : ∀ w ∈ u_ws RX7 TX7 14, w ∈ wsX7_rate := by decide +kernel
  have kX7_7 := hts (.fieldLink RX7 7 "TraceCacheModel" "s" "[I") (by decide +kernel)
  have kX7_32 := hts (.fieldLink RX7 32 "TraceCacheModel" "thrown" "I") (by decide +kernel)
  unfold m_X7_rate at hf
  refine lv_aload_n hx hb dX7_rate_0 rfl (lv_at hl 0 rfl) ?_
  refine lv_iconst (v := 0) hx hb dX7_rate_1 (by decide) ?_
  refine va_put (D := D) (ci := 7) (v := .int (0 : Int32)) (ty := .int) (C := RX7) (T := TX7) (N := 14) hx hb hts inX7 tyX7 tyX7_ok nmX7 hown hK hP hD hS 0 rfl rfl 0 (by decide) kX7_32 (fun _ h9 => h9) rfl (by decide +kernel) rfl rfl (Nat.le_of_ble_eq_true rfl) dX7_rate_2 (fun H locs hP hD hS => ?_)
  have hP : va_P D vwCl (wX7 cI cZ cII aS (0 : Int32) S_s S_aside S_saved S_savedMany S_text S_length S_fetched S_predicted S_fetchedMany S_fetchedWay S_spot S_isWrong S_executedByText ++ []) H := hP
  have hD : va_D A (wX7 cI cZ cII aS (0 : Int32) S_s S_aside S_saved S_savedMany S_text S_length S_fetched S_predicted S_fetchedMany S_fetchedWay S_spot S_isWrong S_executedByText ++ []) := hD
  refine lv_aload_n hx hb dX7_rate_5 rfl (lv_at hl 0 rfl) ?_
  refine va_get (D := D) (ci := 7) (v := .ref (aS 1)) (C := RX7) (T := TX7) (N := 14) hx hb hts inX7 hown hK hP 0 rfl rfl 1 (by decide) kX7_7 (fun _ h9 => h9) rfl dX7_rate_6 ?_
  refine lv_sipush (v := 379) hx hb dX7_rate_9 (by decide) ?_
  obtain ⟨g12, hf⟩ := gd_t hf
  refine va_iald hx hb hK hP 1 0 rfl rfl (inb_t g12) dX7_rate_12 ?_
  refine lv_if_ne (tgt := 20) hx hb dX7_rate_13 (by decide) (fun c13 => ?_) (fun c13 => ?_)
  · have hf := if_f c13 hf
    refine lv_aload_n hx hb dX7_rate_20 rfl (lv_at hl 0 rfl) ?_
    refine va_get (D := D) (ci := 7) (v := .ref (aS 1)) (C := RX7) (T := TX7) (N := 14) hx hb hts inX7 hown hK hP 0 rfl rfl 1 (by decide) kX7_7 (fun _ h9 => h9) rfl dX7_rate_21 ?_
    refine lv_sipush (v := 381) hx hb dX7_rate_24 (by decide) ?_
    obtain ⟨g27, hf⟩ := gd_t hf
    refine va_iald hx hb hK hP 1 0 rfl rfl (inb_t g27) dX7_rate_27 ?_
    refine lv_i2d hx hb dX7_rate_28 ?_
    refine lv_aload_n hx hb dX7_rate_29 rfl (lv_at hl 0 rfl) ?_
    refine va_get (D := D) (ci := 7) (v := .ref (aS 1)) (C := RX7) (T := TX7) (N := 14) hx hb hts inX7 hown hK hP 0 rfl rfl 1 (by decide) kX7_7 (fun _ h9 => h9) rfl dX7_rate_30 ?_
    refine lv_sipush (v := 379) hx hb dX7_rate_33 (by decide) ?_
    obtain ⟨g36, hf⟩ := gd_t hf
    refine va_iald hx hb hK hP 1 0 rfl rfl (inb_t g36) dX7_rate_36 ?_
    refine lv_i2d hx hb dX7_rate_37 ?_
    refine lv_ddiv_any hd0 lw_bits hx hb dX7_rate_38 (fun v38 d1 hal hd1 => ?_)
    obtain rfl := Option.some.inj hf
    exact hret _ _ _ _ _ _ hd1 dX7_rate_39 ⟨fun h => absurd h c13, fun _ => hal⟩ hP hD hS
  · have hf := if_t c13 hf
    refine lv_dconst0 hx hb dX7_rate_16 ?_
    refine lv_goto (tgt := 39) hx hb dX7_rate_17 (by decide) ?_
    obtain rfl := Option.some.inj hf
    exact hret _ _ _ _ _ _ hd0 dX7_rate_39 ⟨fun _ => rfl, fun h => absurd c13 h⟩ hP hD hS
