-- ===== ZX: methods that throw =====
def zStrs : List (Nat × String) := [(50, "no such kind"), (63, "the length is out of range"), (65, "the outcomes are out of range"), (77, "the number of fetches is out of range"), (87, "the character code is out of range"), (95, "the text is full"), (105, "the text is not valid"), (120, "there is no saved state"), (147, "no such part of an instruction"), (154, "the index is out of range"), (164, "no such set or way"), (166, "no such part of a line"), (188, "the index is negative"), (199, "no such part of a fetch"), (246, "no such count"), (248, "no such address")]
def pzR (U : State) : Prop := ∀ q ∈ zStrs, ∃ a : Nat, vk_R RX6 q.1 q.2 a U
theorem pzR.warm {s U : State} (hW : s.WarmedH U.vm) (h : pzR s) : pzR U := fun q hq => by
  obtain ⟨a, ha⟩ := h q hq
  exact ⟨a, vk_R.warm hW ha⟩
theorem pzR.same {u U : State} (hv : U.vm = u.vm) (h : pzR u) : pzR U := fun q hq => by
  obtain ⟨a, ha⟩ := h q hq
  exact ⟨a, vk_R.same hv ha⟩
def pzX (A : Nat → Prop) (U : State) (H : Heap) : Prop := pzR U ∧ vx_Zq Bundle.tN "UNASSIGNED_STACK" Bundle.steD A U H ∧ vx_Zq Bundle.tN "SUPPRESSED_SENTINEL" Bundle.listD A U H
def pzPreX (D : va_G) (tys : List (ClassId × FieldType)) (w : va_W) (sz : Nat) : State → Prop := fun U => pzPre D tys w sz U ∧ pzX (va_A w sz) U U.heap
theorem pz_blindX {av : List Value} {D : va_G} {tys : List (ClassId × FieldType)} {w : va_W} {sz : Nat} : FrameBlind (va_Pc av (pzPreX D tys w sz)) := by
  intro a U g mk q
  obtain ⟨q0, q1, q2, q3, q4⟩ := q
  have h := pz_blind a U g mk (av := av) ⟨q0, q1⟩
  exact ⟨h.1, h.2, pzR.same (show (U.calling g mk a).vm = U.vm from rfl) q2, vx_Zq.moved (u := U) (U := U.calling g mk a) (Vm.Alike.refl U.vm) q3, vx_Zq.moved (u := U) (U := U.calling g mk a) (Vm.Alike.refl U.vm) q4⟩
theorem pz_preX {av : List Value} {D : va_G} {tys : List (ClassId × FieldType)} {w : va_W} {A : Nat → Prop} {s : State} {H : Heap} {locs : List Loc} (hK : va_K D vwCl tys s) (hN : pzN s) (hX : pzX A s s.heap) (hS : va_S A s.heap H locs) (hF : ∀ q, va_A w H.size q → A q) (hP : va_P D vwCl w H) (hD : va_D A w) : ∀ U : State, U.heap = H → s.WarmedH U.vm → va_Pc av (pzPreX D tys w H.size) av.toArray U := by
  intro U hU hW
  refine ⟨rfl, (pz_pre hK hN hP hD U hU hW (av := av)).2, pzR.warm hW hX.1, ?_, ?_⟩
  · rw [hU]
    exact vx_Zq.moved hW.alike ((hX.2.1.kept hS.2.1).narrow hF)
  · rw [hU]
    exact vx_Zq.moved hW.alike ((hX.2.2.kept hS.2.1).narrow hF)
def zEx (k : Nat) : String := match k with
  | 1 => "java/lang/IndexOutOfBoundsException"
  | 2 => "java/lang/IllegalArgumentException"
  | _ => "java/lang/IllegalStateException"
abbrev zNames : List String := ["java/lang/RuntimeException", "java/lang/Exception"]
section ZXW
variable {p : Program} {l : Launch} {e : Env} {R : Room} {s : State} {m : MethodId} {args : Array Value} {below : List Frame} {meth : Method} {c : Code} {H : Heap} {locs : List Loc} {cells slots : Nat} {Q : State → Prop} {pc : Nat} {ls : Array Slot} {rest st0 : List Value} {a : Array Value} {A : Nat → Prop} {D : va_G} {tys : List (ClassId × FieldType)} {ws wsn x b y b1 : va_W} {mc ms : Nat}
theorem pz_VX {C : String} {T : u_T} {N ci bo : Nat} {fs : List Value} {As : List Value} {bi : Nat} (hK : va_K D vwCl tys s) (hN : pzN s) (hX : pzX A s s.heap) (hS : va_S A s.heap H locs) (hA : ∀ q, s.heap.size ≤ q → A q) (hP : va_P D vwCl ws H) (hD : va_D A ws) (hws : ws = x ++ (b ++ y)) (hc : vwCl[ci]? = some (C, T, N)) (he : b[bi]? = some (bo, .inr (ci, fs))) :
    PreV s H C bo (va_Pc (.ref bo :: As) (pzPreX D tys b H.size)) As := by
  subst hws
  exact ⟨pz_blindX, va_recv hK (P_mid hP) hc he, pz_preX hK hN hX hS (pz_free hD hS hA) (P_mid hP) (D_mid hD)⟩
theorem pz_SX {As : List Value} (hK : va_K D vwCl tys s) (hN : pzN s) (hX : pzX A s s.heap) (hS : va_S A s.heap H locs) (hA : ∀ q, s.heap.size ≤ q → A q) (hP : va_P D vwCl ws H) (hD : va_D A ws) (hws : ws = x ++ (b ++ y)) :
    PreS s H (va_Pc As (pzPreX D tys b H.size)) As := by
  subst hws
  exact ⟨pz_blindX, pz_preX hK hN hX hS (pz_free hD hS hA) (P_mid hP) (D_mid hD)⟩
theorem z_xi {r : Int32} {k : Nat} (hr : vx_Run p l e R s m args below meth c H locs cells slots mc ms (F0 m pc ls st0) rest (va_Qi (fun v (_ : Unit) => k = 0 ∧ v = r) (fun _ t => pzB D tys (va_A b H.size) b1 t) (va_A b H.size) a) (vx_X (fun (_ : Unit) => True) (fun E _ t => (k ≠ 0 ∧ E = zEx k) ∧ pzB D tys (va_A b H.size) b1 t) (va_A b H.size)) (va_A b H.size))
    (hP : va_P D vwCl ws H) (hD : va_D A ws) (hS : va_S A s.heap H locs) (hA : ∀ q, s.heap.size ≤ q → A q) (hws : ws = x ++ (b ++ y)) (hwn : wsn = x ++ (b1 ++ y))
    (kx : k ≠ 0 → ∀ (H1 : Heap) (locs1 : List Loc) (ce : Cell) (q9 : Addr), va_P D vwCl wsn H1 → va_D A wsn → va_S A s.heap H1 locs1 → H1[q9]? = some ce → ce.vm = .none → s.vm.findClass (zEx k) = some ce.cls → vx_W p l e R s m args below meth c H1 locs1 (cells + mc) (slots + ms) Q (F0 m pc ls rest) q9)
    (kk : k = 0 → ∀ (H1 : Heap) (locs1 : List Loc), va_P D vwCl wsn H1 → va_D A wsn → va_S A s.heap H1 locs1 → W p l e R s m args below meth c H1 locs1 (cells + mc) (slots + ms) Q (F0 m (pc + 3) ls (.int r :: rest))) : W p l e R s m args below meth c H locs cells slots Q (F0 m pc ls st0) := by
  subst hws
  subst hwn
  have hF := pz_free hD hS hA
  refine vx_calli hr hS (fun q _ h => hF q h) hF (fun q _ h => hF q h) (fun E ce q9 u t H1 locs1 ht hvm _ hB hz1 hk1 hS q1 q2 q3 => ?_) (fun v u t H1 locs1 ht hvm hv hB hz1 hk1 hS => ?_)
  · obtain ⟨⟨hk, rfl⟩, hP1, -, hD1⟩ := hB
    rw [ht] at hP1
    obtain ⟨hP, hD⟩ := pz_join hP hD hk1 hF hP1 hD1
    exact kx hk H1 locs1 ce q9 hP hD hS q1 q2 q3
  · obtain ⟨hP1, -, hD1⟩ := hB
    rw [ht] at hP1
    obtain ⟨hP, hD⟩ := pz_join hP hD hk1 hF hP1 hD1
    obtain ⟨hk, rfl⟩ := hv
    exact kk hk H1 locs1 hP hD hS
theorem z_xv {k : Nat} (hr : vx_Run p l e R s m args below meth c H locs cells slots mc ms (F0 m pc ls st0) rest (va_Qv (fun (_ : Unit) => k = 0) (fun _ t => pzB D tys (va_A b H.size) b1 t) (va_A b H.size) a) (vx_X (fun (_ : Unit) => True) (fun E _ t => (k ≠ 0 ∧ E = zEx k) ∧ pzB D tys (va_A b H.size) b1 t) (va_A b H.size)) (va_A b H.size))
    (hP : va_P D vwCl ws H) (hD : va_D A ws) (hS : va_S A s.heap H locs) (hA : ∀ q, s.heap.size ≤ q → A q) (hws : ws = x ++ (b ++ y)) (hwn : wsn = x ++ (b1 ++ y))
    (kx : k ≠ 0 → ∀ (H1 : Heap) (locs1 : List Loc) (ce : Cell) (q9 : Addr), va_P D vwCl wsn H1 → va_D A wsn → va_S A s.heap H1 locs1 → H1[q9]? = some ce → ce.vm = .none → s.vm.findClass (zEx k) = some ce.cls → vx_W p l e R s m args below meth c H1 locs1 (cells + mc) (slots + ms) Q (F0 m pc ls rest) q9)
    (kk : k = 0 → ∀ (H1 : Heap) (locs1 : List Loc), va_P D vwCl wsn H1 → va_D A wsn → va_S A s.heap H1 locs1 → W p l e R s m args below meth c H1 locs1 (cells + mc) (slots + ms) Q (F0 m (pc + 3) ls rest)) : W p l e R s m args below meth c H locs cells slots Q (F0 m pc ls st0) := by
  subst hws
  subst hwn
  have hF := pz_free hD hS hA
  refine vx_callv hr hS (fun q _ h => hF q h) hF (fun q _ h => hF q h) (fun E ce q9 u t H1 locs1 ht hvm _ hB hz1 hk1 hS q1 q2 q3 => ?_) (fun u t H1 locs1 ht hvm hv hB hz1 hk1 hS => ?_)
  · obtain ⟨⟨hk, rfl⟩, hP1, -, hD1⟩ := hB
    rw [ht] at hP1
    obtain ⟨hP, hD⟩ := pz_join hP hD hk1 hF hP1 hD1
    exact kx hk H1 locs1 ce q9 hP hD hS q1 q2 q3
  · obtain ⟨hP1, -, hD1⟩ := hB
    rw [ht] at hP1
    obtain ⟨hP, hD⟩ := pz_join hP hD hk1 hF hP1 hD1
    exact kk hv H1 locs1 hP hD hS
end ZXW
/-- what a throw needs of its words, by its class's number -/
theorem zng1 : ∀ w ∈ (vx_atS RX6 156 (zEx 1) zNames).filter (fun w => !goodWord w), w ∈ pzNws := by decide +kernel
theorem zng2 : ∀ w ∈ (vx_atS RX6 52 (zEx 2) zNames).filter (fun w => !goodWord w), w ∈ pzNws := by decide +kernel
theorem zng3 : ∀ w ∈ (vx_atS RX6 97 (zEx 3) zNames).filter (fun w => !goodWord w), w ∈ pzNws := by decide +kernel
theorem zgo1 : ∀ w ∈ Cond.classLink RX6 152 (zEx 1) :: Cond.initialized (zEx 1) :: vx_atS RX6 156 (zEx 1) zNames, vx_ot w = true := by decide +kernel
theorem zgo2 : ∀ w ∈ Cond.classLink RX6 48 (zEx 2) :: Cond.initialized (zEx 2) :: vx_atS RX6 52 (zEx 2) zNames, vx_ot w = true := by decide +kernel
theorem zgo3 : ∀ w ∈ Cond.classLink RX6 93 (zEx 3) :: Cond.initialized (zEx 3) :: vx_atS RX6 97 (zEx 3) zNames, vx_ot w = true := by decide +kernel
theorem zfit (k : Nat) : Bundle.fit (zEx k) = true := by
  unfold zEx
  split <;> decide +kernel
theorem zfitN : ∀ n ∈ zNames, Bundle.fit n = true := by decide +kernel
section ZXM
variable {l : Launch} {y : MethodName} {ws ws' : List Cond} {rm : Room} {cc : ByteArray} {maxL mc ms : Nat} {D : va_G} {tys : List (ClassId × FieldType)} {w0 w1 : va_W} {av : List Value} {sz : Nat}
/-- the rule of a throw -/
def z_Thr (p : Program) (l : Launch) (e : Env) (s : State) (m : MethodId) (args : Array Value) (below : List Frame) (meth : Method) (c : Code) (A : Nat → Prop) (Q : State → Prop) (rm : Room) (cc : ByteArray) (mc ms : Nat) (D : va_G) (w1 : va_W) (kx : Nat) : Prop :=
  ∀ (H : Heap) (locs : List Loc) (pc : Nat) (ls : Array Slot) (rest : List Value) (cells slots ik is ic i k : Nat) (text : String), zStrs[i]? = some (is, text) → k ≠ 0 → kx = k →
    (Cond.classLink RX6 ik (zEx k)).before args s = true → (Cond.initialized (zEx k)).before args s = true → (∀ w ∈ (vx_atS RX6 ic (zEx k) zNames).filter goodWord, w.before args s = true) → (∀ w ∈ (vx_atS RX6 ic (zEx k) zNames).filter (fun w => !goodWord w), w ∈ pzNws) → (∀ w ∈ Cond.classLink RX6 ik (zEx k) :: Cond.initialized (zEx k) :: vx_atS RX6 ic (zEx k) zNames, vx_ot w = true) →
    ls.size = c.maxLocals → decode cc pc = .ok (.new ik, 3) → decode cc (pc + 3) = .ok (.dup, 1) → decode cc (pc + 4) = .ok (.ldc is, 2) → decode cc (pc + 6) = .ok (.invokespecial ic, 3) → decode cc (pc + 9) = .ok (.athrow, 1) →
    (rest.map fun v => v.category).sum ≤ 8 → cells + 1 ≤ mc → slots + 6 ≤ ms → va_P D vwCl w1 H → va_D A w1 → va_S A s.heap H locs → W p l e rm s m args below meth c H locs cells slots Q (F0 m pc ls rest)
/-- the rule of what goes through -/
def z_Out (p : Program) (l : Launch) (e : Env) (s : State) (m : MethodId) (args : Array Value) (below : List Frame) (meth : Method) (c : Code) (A : Nat → Prop) (Q : State → Prop) (rm : Room) (mc ms : Nat) (D : va_G) (w1 : va_W) (kx : Nat) : Prop :=
  ∀ (H : Heap) (locs : List Loc) (pc : Nat) (ls : Array Slot) (rest : List Value) (cells slots k : Nat) (ce : Cell) (q : Addr), k ≠ 0 → kx = k → cells ≤ mc → slots ≤ ms → va_P D vwCl w1 H → va_D A w1 → va_S A s.heap H locs → H[q]? = some ce → ce.vm = .none → s.vm.findClass (zEx k) = some ce.cls → vx_W p l e rm s m args below meth c H locs cells slots Q (F0 m pc ls rest) q
theorem z_thr_of {p : Program} {e : Env} {s : State} {m : MethodId} {args : Array Value} {below : List Frame} {meth : Method} {c : Code} {kx : Nat} {Qc : Array Value → State → Outcome → State → Prop} (hl : l.stackTraces = false) (hx : p.tables.exec = Jvm.exec) (hb : c.code = cc) (hown : s.vm.findClass RX6 = some m.cls) (hN : pzN s) (hK : va_K D vwCl tys s) (hX : pzX (va_A w0 s.heap.size) s s.heap) (hexc : ∀ x ∈ c.exceptionTable.toList, False) (hlocks : meth.locks = false) (hfr : 5 < rm.frames) (hlo : 90 ≤ rm.locals) (hcc : mc ≤ rm.cells) (hss : ms ≤ rm.slots) :
    z_Thr p l e s m args below meth c (va_A w0 s.heap.size) (vx_MQ below Qc (vx_X (fun (_ : Unit) => True) (fun E _ t => (kx ≠ 0 ∧ E = zEx kx) ∧ pzB D tys (va_A w0 s.heap.size) w1 t) (va_A w0 s.heap.size)) args s mc ms (va_A w0 s.heap.size)) rm cc mc ms D w1 kx := by
  intro H locs pc ls rest cells slots ik is ic i k text hi hk0 hk hlk hini hg hng hgo hsz d0 d3 d4 d6 d9 hrest hc hs hP hD hS
  subst hk
  obtain ⟨sa, hstr⟩ := hX.1 (is, text) (List.mem_of_getElem? hi)
  refine vx_throwS (names := zNames) (sa := sa) hx hb hl hown (zfit kx) zfitN hlk hini hstr (vx_hat hg hng (fun w hw => va_Nw.use (pz_tab pzN_ok hw) (hN w hw))) hgo hX.2.1 hX.2.2 hS hsz d0 d3 d4 d6 d9 (fun x hx9 => (hexc x hx9).elim) (by show 2 + 3 < rm.frames; omega) (by show _ + (13 * (2 + 1) + 43) ≤ rm.locals; omega) (by omega) (by omega) hlocks (fun t hvm hz hkeep => ⟨(), trivial, ⟨⟨hk0, rfl⟩, ?_, va_K.moved hvm hK, hD⟩, ?_⟩) hS.2.2 hc hs
  · exact hP.kept fun k q hq => hkeep q.1 (hP k q hq).lt
  · exact ⟨Nat.le_trans hS.1 hz, fun q h1 h2 => by rw [hkeep q (Nat.lt_of_lt_of_le h1 hS.1)]; exact hS.2.1 q h1 h2⟩
theorem z_out_of {p : Program} {e : Env} {s : State} {m : MethodId} {args : Array Value} {below : List Frame} {meth : Method} {c : Code} {kx : Nat} {Qc : Array Value → State → Outcome → State → Prop} (hK : va_K D vwCl tys s) (hexc : ∀ x ∈ c.exceptionTable.toList, False) (hlocks : meth.locks = false) :
    z_Out p l e s m args below meth c (va_A w0 s.heap.size) (vx_MQ below Qc (vx_X (fun (_ : Unit) => True) (fun E _ t => (kx ≠ 0 ∧ E = zEx kx) ∧ pzB D tys (va_A w0 s.heap.size) w1 t) (va_A w0 s.heap.size)) args s mc ms (va_A w0 s.heap.size)) rm mc ms D w1 kx := by
  intro H locs pc ls rest cells slots k ce q hk0 hk hc hs hP hD hS q1 q2 q3
  subst hk
  exact vx_out (fun x hx => (hexc x hx).elim) hlocks q1 q2 q3 (fun t ht hvm => ⟨(), trivial, ⟨⟨hk0, rfl⟩, by rw [ht]; exact hP, va_K.moved hvm hK, hD⟩, hS.F ht⟩) hS.2.2 hc hs
theorem z_xmeti {r : Int32} {kx : Nat} (hl : l.stackTraces = false) (hy : plainName y.cls = true) (hy6 : y.cls = RX6) (hw : ws = Cond.code y cc maxL (some .int) :: ws') (hle : (lg_sl av).length ≤ maxL) (hfr : 5 < rm.frames) (hlo : 90 ≤ rm.locals) (hcc : mc ≤ rm.cells) (hss : ms ≤ rm.slots)
    (body : ∀ (p : Program) (e : Env) (s : State) (m : MethodId) (args : Array Value) (below : List Frame) (meth : Method) (c : Code) (A : Nat → Prop) (ls : Array Slot) (Q : State → Prop) (H : Heap) (locs : List Loc),
      z_Fx y cc maxL ws D tys p s m args c A → pzX A s s.heap → va_P D vwCl w0 H → va_D A w0 → va_S A s.heap H locs → lv_has ls maxL (lv_args 0 av) →
      (∀ (H : Heap) (locs : List Loc) (pc : Nat) (ls : Array Slot) (v : Int32) (cells slots : Nat), decode cc pc = .ok (.ireturn, 1) → kx = 0 ∧ v = r → cells ≤ mc → slots ≤ ms → va_P D vwCl w1 H → va_D A w1 → va_S A s.heap H locs → W p l e rm s m args below meth c H locs cells slots Q (F0 m pc ls [.int v])) →
      z_Thr p l e s m args below meth c A Q rm cc mc ms D w1 kx → z_Out p l e s m args below meth c A Q rm mc ms D w1 kx →
      W p l e rm s m args below meth c H locs 0 0 Q (F0 m 0 ls [])) :
    vx_Met l y ws rm (va_Pc av (pzPreX D tys w0 sz)) (va_Qi (fun v (_ : Unit) => kx = 0 ∧ v = r) (fun _ t => pzB D tys (va_A w0 sz) w1 t) (va_A w0 sz)) (vx_X (fun (_ : Unit) => True) (fun E _ t => (kx ≠ 0 ∧ E = zEx kx) ∧ pzB D tys (va_A w0 sz) w1 t) (va_A w0 sz)) mc ms (va_A w0 sz) := by
  refine vx_ofW (cc := cc) (maxL := maxL) (ret := some .int) hy hw ?_
  intro p e s m args below meth c s₁ B hml hexc hv
  obtain ⟨rfl, ⟨hsz, hP, hK, hD0, hN⟩, hX⟩ := hv
  have hts := atoms_spec (ws := ws) B.pre
  have hown : s.vm.findClass y.cls = some m.cls := findClass_of_methodNamed B.named
  subst hsz
  have hD := hD0.self (sz := s.heap.size)
  have hlv := lv_entry av (n := maxL) hle
  rw [lg_entry_eq]
  refine body p e s m _ below meth c (va_A w0 s.heap.size) _ _ _ _ ⟨B.exec, B.bytes, hml, hown, hts, hN, hK, fun q h => Or.inr h⟩ hX hP hD va_S.rf hlv ?_ (z_thr_of hl B.exec B.bytes (by rw [← hy6]; exact hown) hN hK hX hexc B.notSynchronized hfr hlo hcc hss) (z_out_of hK hexc B.notSynchronized)
  intro H locs pc ls v cells slots hdg hv hc hs hP1 hD1 hS1
  refine W.widen hc hs (vx_ret ?_)
  exact W.iret (v := v) B.exec B.bytes B.returns (fun t ht hW => ⟨⟨v, (), rfl, hv, by rw [ht]; exact hP1, va_K.moved hW.alike hK, hD1⟩, hS1.F ht⟩) hS1.2.2 hdg B.notSynchronized
theorem z_xmetv {kx : Nat} (hl : l.stackTraces = false) (hy : plainName y.cls = true) (hy6 : y.cls = RX6) (hw : ws = Cond.code y cc maxL none :: ws') (hle : (lg_sl av).length ≤ maxL) (hfr : 5 < rm.frames) (hlo : 90 ≤ rm.locals) (hcc : mc ≤ rm.cells) (hss : ms ≤ rm.slots)
    (body : ∀ (p : Program) (e : Env) (s : State) (m : MethodId) (args : Array Value) (below : List Frame) (meth : Method) (c : Code) (A : Nat → Prop) (ls : Array Slot) (Q : State → Prop) (H : Heap) (locs : List Loc),
      z_Fx y cc maxL ws D tys p s m args c A → pzX A s s.heap → va_P D vwCl w0 H → va_D A w0 → va_S A s.heap H locs → lv_has ls maxL (lv_args 0 av) →
      (∀ (H : Heap) (locs : List Loc) (pc : Nat) (ls : Array Slot) (cells slots : Nat), decode cc pc = .ok (.return_, 1) → kx = 0 → cells ≤ mc → slots ≤ ms → va_P D vwCl w1 H → va_D A w1 → va_S A s.heap H locs → W p l e rm s m args below meth c H locs cells slots Q (F0 m pc ls [])) →
      z_Thr p l e s m args below meth c A Q rm cc mc ms D w1 kx → z_Out p l e s m args below meth c A Q rm mc ms D w1 kx →
      W p l e rm s m args below meth c H locs 0 0 Q (F0 m 0 ls [])) :
    vx_Met l y ws rm (va_Pc av (pzPreX D tys w0 sz)) (va_Qv (fun (_ : Unit) => kx = 0) (fun _ t => pzB D tys (va_A w0 sz) w1 t) (va_A w0 sz)) (vx_X (fun (_ : Unit) => True) (fun E _ t => (kx ≠ 0 ∧ E = zEx kx) ∧ pzB D tys (va_A w0 sz) w1 t) (va_A w0 sz)) mc ms (va_A w0 sz) := by
  refine vx_ofW (cc := cc) (maxL := maxL) (ret := none) hy hw ?_
  intro p e s m args below meth c s₁ B hml hexc hv
  obtain ⟨rfl, ⟨hsz, hP, hK, hD0, hN⟩, hX⟩ := hv
  have hts := atoms_spec (ws := ws) B.pre
  have hown : s.vm.findClass y.cls = some m.cls := findClass_of_methodNamed B.named
  subst hsz
  have hD := hD0.self (sz := s.heap.size)
  have hlv := lv_entry av (n := maxL) hle
  rw [lg_entry_eq]
  refine body p e s m _ below meth c (va_A w0 s.heap.size) _ _ _ _ ⟨B.exec, B.bytes, hml, hown, hts, hN, hK, fun q h => Or.inr h⟩ hX hP hD va_S.rf hlv ?_ (z_thr_of hl B.exec B.bytes (by rw [← hy6]; exact hown) hN hK hX hexc B.notSynchronized hfr hlo hcc hss) (z_out_of hK hexc B.notSynchronized)
  intro H locs pc ls cells slots hdg hv hc hs hP1 hD1 hS1
  refine W.widen hc hs (vx_ret ?_)
  exact W.vret B.exec B.bytes B.returns (fun t ht hW => ⟨⟨(), rfl, hv, by rw [ht]; exact hP1, va_K.moved hW.alike hK, hD1⟩, hS1.F ht⟩) hS1.2.2 hdg B.notSynchronized
end ZXM
