-- ===== ZK: models (partial functions), worlds, and the rows that a program lays =====
def gd {α : Type} (b : Bool) (x : Option α) : Option α := match b with
  | true => x
  | false => none
theorem gd_t {α : Type} {b : Bool} {x : Option α} {r : α} (h : gd b x = some r) : b = true ∧ x = some r := by
  cases b with
  | true => exact ⟨rfl, h⟩
  | false => cases h
def bd {α β : Type} (e : α) (k : α → Option β) : Option β := k e
theorem bd_t {α β : Type} {e y : α} {k : α → Option β} {r : β} (he : y = e) (h : bd e k = some r) : k y = some r := by
  subst he
  exact h
def bn {α β : Type} (o : Option α) (k : α → Option β) : Option β := match o with
  | some y => k y
  | none => none
theorem bn_t {α β : Type} {o : Option α} {k : α → Option β} {r : β} (h : bn o k = some r) : ∃ y, o = some y ∧ k y = some r := by
  cases o with
  | none => cases h
  | some y => exact ⟨y, rfl, h⟩
theorem if_t {α : Type} {c : Prop} [Decidable c] {x z : Option α} {r : α} (hc : c) (h : (if c then x else z) = some r) : x = some r := by
  rw [if_pos hc] at h
  exact h
theorem if_f {α : Type} {c : Prop} [Decidable c] {x z : Option α} {r : α} (hc : ¬ c) (h : (if c then x else z) = some r) : z = some r := by
  rw [if_neg hc] at h
  exact h
def inb (i : Int32) (n : Nat) : Bool := decide (0 ≤ i.toInt ∧ i.toInt < n)
theorem inb_t {i : Int32} {n : Nat} (h : inb i n = true) : vp_in i n := vp_in_iff.mpr (of_decide_eq_true h)
theorem inb_c {i : Int32} {n : Nat} (h : inb i n = true) : i.toNatClampNeg < n := Nat.not_le.mp fun q => inb_t h (Or.inr q)
def nzb (x : Int32) : Bool := decide (¬ x = 0)
theorem nzb_t {x : Int32} (h : nzb x = true) : ¬ x = 0 := of_decide_eq_true h
/-- 0 or 1 -/
def isb (x : Int32) : Bool := decide (x = 0 ∨ x = 1)
theorem isb_t {x : Int32} (h : isb x = true) : narrow .boolean (.int x) = .int x := by
  rcases (of_decide_eq_true h : x = 0 ∨ x = 1) with rfl | rfl <;> rfl
theorem isb_f {x : Int32} (h : isb x = true) : fits .boolean (.int x) = true := by
  rcases (of_decide_eq_true h : x = 0 ∨ x = 1) with rfl | rfl <;> rfl
/-- a copy's side conditions -/
def cpb (sp dp n : Int32) (n0 n1 : Nat) : Bool := decide (0 ≤ sp.toInt ∧ 0 ≤ dp.toInt ∧ 0 ≤ n.toInt ∧ sp.toNatClampNeg + n.toNatClampNeg ≤ n0 ∧ dp.toNatClampNeg + n.toNatClampNeg ≤ n1)
theorem nn_of {x : Int32} (h : 0 ≤ x.toInt) : ¬ x < 0 := by
  intro q
  have := Int32.lt_iff_toInt_lt.mp q
  have h0 : (0 : Int32).toInt = 0 := rfl
  omega
theorem cpb_t {sp dp n : Int32} {n0 n1 : Nat} (h : cpb sp dp n n0 n1 = true) : ¬ sp < 0 ∧ ¬ dp < 0 ∧ ¬ n < 0 ∧ sp.toNatClampNeg + n.toNatClampNeg ≤ n0 ∧ dp.toNatClampNeg + n.toNatClampNeg ≤ n1 := by
  obtain ⟨h1, h2, h3, h4, h5⟩ := of_decide_eq_true h
  exact ⟨nn_of h1, nn_of h2, nn_of h3, h4, h5⟩
-- the nest words
def pzNest (w : Cond) : Bool := match w with
  | .fieldLinkNest _ _ _ _ _ _ => true
  | .methodLinkNest _ _ _ _ => true
  | .declares _ => true
  | .castable _ _ => true
  | _ => false
theorem pz_warm {s U : State} {ws : List Cond} (hg : ws.all pzNest = true) (hW : s.WarmedH U.vm) (h : ∀ w ∈ ws, va_Nw w s) : ∀ w ∈ ws, va_Nw w U := by
  intro w hw
  have h1 := List.all_eq_true.mp hg w hw
  have h2 := h w hw
  unfold pzNest at h1
  split at h1
  · exact va_Nw.warmF hW h2
  · exact va_Nw.warmM hW h2
  · exact va_Nw.warmD hW h2
  · exact va_tabs rfl (rfl : (s.setVm U.vm).vm = U.vm) (by rw [Cond.castable_setVm hW.alike]; exact h2)
  · cases h1
theorem pz_tab {ws : List Cond} (hg : ws.all pzNest = true) {w : Cond} (hw : w ∈ ws) : w.onTables = true := by
  have h1 := List.all_eq_true.mp hg w hw
  unfold pzNest at h1
  split at h1
  · rfl
  · rfl
  · rfl
  · rfl
  · cases h1
def pzNws : List Cond := [.fieldLinkNest "TraceCache$Machine" 67 "TraceCache$Program" "kinds" "[I" "TraceCache",
  .fieldLinkNest "TraceCache$Fetch" 62 "TraceCache$Program" "kinds" "[I" "TraceCache",
  .fieldLinkNest "TraceCache" 125 "TraceCache$Program" "kinds" "[I" "TraceCache",
  .fieldLinkNest "TraceCache$Machine" 70 "TraceCache$Program" "targets" "[I" "TraceCache",
  .fieldLinkNest "TraceCache" 129 "TraceCache$Program" "targets" "[I" "TraceCache",
  .fieldLinkNest "TraceCache" 138 "TraceCache$Program" "outcomes" "[I" "TraceCache",
  .fieldLinkNest "TraceCache" 135 "TraceCache$Program" "lengths" "[I" "TraceCache",
  .fieldLinkNest "TraceCache" 132 "TraceCache$Program" "outcomeCounts" "[I" "TraceCache",
  .fieldLinkNest "TraceCache" 141 "TraceCache$Program" "counters" "[I" "TraceCache",
  .fieldLinkNest "TraceCache$Fetch" 19 "TraceCache$Program" "next" "I" "TraceCache",
  .fieldLinkNest "TraceCache$Machine" 81 "TraceCache$Program" "next" "I" "TraceCache",
  .fieldLinkNest "TraceCache" 149 "TraceCache$Program" "next" "I" "TraceCache",
  .fieldLinkNest "TraceCache$Fetch" 49 "TraceCache$Cache" "addresses" "[[I" "TraceCache",
  .fieldLinkNest "TraceCache" 172 "TraceCache$Cache" "sizes" "[I" "TraceCache",
  .fieldLinkNest "TraceCache" 181 "TraceCache$Cache" "useNumbers" "[I" "TraceCache",
  .fieldLinkNest "TraceCache" 238 "TraceCache$Cache" "put" "I" "TraceCache",
  .fieldLinkNest "TraceCache" 240 "TraceCache$Cache" "replaced" "I" "TraceCache",
  .fieldLinkNest "TraceCache" 243 "TraceCache$Cache" "dropped" "I" "TraceCache",
  .fieldLinkNest "TraceCache" 67 "TraceCache$Machine" "program" "LTraceCache$Program;" "TraceCache",
  .fieldLinkNest "TraceCache" 168 "TraceCache$Machine" "cache" "LTraceCache$Cache;" "TraceCache",
  .fieldLinkNest "TraceCache" 221 "TraceCache$Machine" "time" "I" "TraceCache",
  .fieldLinkNest "TraceCache" 224 "TraceCache$Machine" "fetches" "I" "TraceCache",
  .fieldLinkNest "TraceCache" 227 "TraceCache$Machine" "executed" "I" "TraceCache",
  .fieldLinkNest "TraceCache" 228 "TraceCache$Machine" "thrownAway" "I" "TraceCache",
  .fieldLinkNest "TraceCache" 231 "TraceCache$Machine" "mispredictions" "I" "TraceCache",
  .fieldLinkNest "TraceCache" 232 "TraceCache$Machine" "executedFromLines" "I" "TraceCache",
  .fieldLinkNest "TraceCache" 235 "TraceCache$Machine" "fetchesFromLines" "I" "TraceCache",
  .fieldLinkNest "TraceCache" 117 "TraceCache$History" "size" "I" "TraceCache",
  .fieldLinkNest "TraceCache" 98 "TraceCache$Text" "length" "I" "TraceCache",
  .fieldLinkNest "TraceCache" 250 "TraceCache$Text" "operation" "I" "TraceCache",
  .fieldLinkNest "TraceCache" 256 "TraceCache$Text" "address" "I" "TraceCache",
  .fieldLinkNest "TraceCache" 253 "TraceCache$Text" "number" "I" "TraceCache",
  .fieldLinkNest "TraceCache" 259 "TraceCache$Text" "outcomes" "I" "TraceCache",
  .fieldLinkNest "TraceCache$Machine" 109 "TraceCache$Fetch" "addresses" "[I" "TraceCache",
  .fieldLinkNest "TraceCache" 218 "TraceCache$Fetch" "addresses" "[I" "TraceCache",
  .fieldLinkNest "TraceCache$Machine" 116 "TraceCache$Fetch" "size" "I" "TraceCache",
  .fieldLinkNest "TraceCache" 208 "TraceCache$Fetch" "size" "I" "TraceCache",
  .fieldLinkNest "TraceCache$Machine" 94 "TraceCache$Fetch" "place" "I" "TraceCache",
  .fieldLinkNest "TraceCache" 205 "TraceCache$Fetch" "place" "I" "TraceCache",
  .fieldLinkNest "TraceCache$Machine" 108 "TraceCache$Fetch" "executed" "I" "TraceCache",
  .fieldLinkNest "TraceCache" 212 "TraceCache$Fetch" "executed" "I" "TraceCache",
  .fieldLinkNest "TraceCache$Machine" 115 "TraceCache$Fetch" "mispredictions" "I" "TraceCache",
  .fieldLinkNest "TraceCache" 215 "TraceCache$Fetch" "mispredictions" "I" "TraceCache",
  .methodLinkNest "TraceCache" 11 ⟨"TraceCache$Machine", "<init>", "()V"⟩ "TraceCache",
  .methodLinkNest "TraceCache$Machine" 11 ⟨"TraceCache$Program", "<init>", "()V"⟩ "TraceCache",
  .methodLinkNest "TraceCache$Machine" 20 ⟨"TraceCache$Cache", "<init>", "()V"⟩ "TraceCache",
  .methodLinkNest "TraceCache" 18 ⟨"TraceCache$History", "<init>", "()V"⟩ "TraceCache",
  .methodLinkNest "TraceCache$History" 17 ⟨"TraceCache$Machine", "<init>", "()V"⟩ "TraceCache",
  .methodLinkNest "TraceCache" 25 ⟨"TraceCache$Text", "<init>", "()V"⟩ "TraceCache",
  .methodLinkNest "TraceCache" 32 ⟨"TraceCache$Fetch", "<init>", "()V"⟩ "TraceCache",
  .methodLinkNest "TraceCache" 39 ⟨"TraceCache$Program", "<init>", "()V"⟩ "TraceCache",
  .methodLinkNest "TraceCache" 55 ⟨"TraceCache$History", "save", "(LTraceCache$Machine;)V"⟩ "TraceCache",
  .methodLinkNest "TraceCache$History" 25 ⟨"TraceCache$Machine", "copyFrom", "(LTraceCache$Machine;)V"⟩ "TraceCache",
  .methodLinkNest "TraceCache$Machine" 29 ⟨"TraceCache$Program", "copyFrom", "(LTraceCache$Program;)V"⟩ "TraceCache",
  .methodLinkNest "TraceCache$Machine" 33 ⟨"TraceCache$Cache", "copyFrom", "(LTraceCache$Cache;)V"⟩ "TraceCache",
  .methodLinkNest "TraceCache" 83 ⟨"TraceCache$Machine", "dropAll", "()I"⟩ "TraceCache",
  .methodLinkNest "TraceCache$Machine" 84 ⟨"TraceCache$Cache", "dropEvery", "()I"⟩ "TraceCache",
  .methodLinkNest "TraceCache" 102 ⟨"TraceCache$Text", "firstError", "()I"⟩ "TraceCache",
  .methodLinkNest "TraceCache" 193 ⟨"TraceCache$Cache", "filled", "()I"⟩ "TraceCache",
  .methodLinkNest "TraceCache" 59 ⟨"TraceCache$Machine", "put", "(III)I"⟩ "TraceCache",
  .methodLinkNest "TraceCache$Machine" 77 ⟨"TraceCache$Cache", "dropHolding", "(I)I"⟩ "TraceCache",
  .methodLinkNest "TraceCache" 70 ⟨"TraceCache$Program", "replacePattern", "(III)I"⟩ "TraceCache",
  .methodLinkNest "TraceCache" 73 ⟨"TraceCache$Machine", "moveTo", "(I)I"⟩ "TraceCache",
  .methodLinkNest "TraceCache" 79 ⟨"TraceCache$Machine", "runFetches", "(ILTraceCache$Fetch;)I"⟩ "TraceCache",
  .methodLinkNest "TraceCache$Machine" 88 ⟨"TraceCache$Fetch", "choose", "(LTraceCache$Program;LTraceCache$Cache;)V"⟩ "TraceCache",
  .methodLinkNest "TraceCache$Fetch" 25 ⟨"TraceCache$Cache", "firstPlaceFor", "(I)I"⟩ "TraceCache",
  .methodLinkNest "TraceCache$Fetch" 37 ⟨"TraceCache$Cache", "addressAt", "(II)I"⟩ "TraceCache",
  .methodLinkNest "TraceCache$Fetch" 41 ⟨"TraceCache$Cache", "usableSize", "(ILTraceCache$Program;)I"⟩ "TraceCache",
  .methodLinkNest "TraceCache$Cache" 42 ⟨"TraceCache$Program", "predictedSuccessor", "(I)I"⟩ "TraceCache",
  .methodLinkNest "TraceCache$Fetch" 58 ⟨"TraceCache$Program", "predictsTaken", "(I)Z"⟩ "TraceCache",
  .methodLinkNest "TraceCache$Machine" 97 ⟨"TraceCache$Cache", "use", "(I)V"⟩ "TraceCache",
  .methodLinkNest "TraceCache$Machine" 101 ⟨"TraceCache$Fetch", "execute", "(LTraceCache$Program;)V"⟩ "TraceCache",
  .methodLinkNest "TraceCache$Fetch" 71 ⟨"TraceCache$Program", "step", "()Z"⟩ "TraceCache",
  .methodLinkNest "TraceCache$Machine" 122 ⟨"TraceCache$Cache", "store", "([II)V"⟩ "TraceCache",
  .methodLinkNest "TraceCache" 89 ⟨"TraceCache$Text", "add", "(I)Z"⟩ "TraceCache",
  .methodLinkNest "TraceCache" 107 ⟨"TraceCache$Text", "rewind", "()V"⟩ "TraceCache",
  .methodLinkNest "TraceCache" 110 ⟨"TraceCache$Text", "readNext", "()Z"⟩ "TraceCache",
  .methodLinkNest "TraceCache" 122 ⟨"TraceCache$History", "restore", "(LTraceCache$Machine;)V"⟩ "TraceCache",
  .methodLinkNest "TraceCache" 144 ⟨"TraceCache$Program", "predictedSuccessor", "(I)I"⟩ "TraceCache",
  .methodLinkNest "TraceCache" 157 ⟨"TraceCache$Program", "copyFrom", "(LTraceCache$Program;)V"⟩ "TraceCache",
  .methodLinkNest "TraceCache" 161 ⟨"TraceCache$Program", "step", "()Z"⟩ "TraceCache",
  .methodLinkNest "TraceCache" 177 ⟨"TraceCache$Cache", "usableSize", "(ILTraceCache$Program;)I"⟩ "TraceCache",
  .methodLinkNest "TraceCache" 184 ⟨"TraceCache$Cache", "addressAt", "(II)I"⟩ "TraceCache",
  .methodLinkNest "TraceCache" 190 ⟨"TraceCache$Machine", "pendingAt", "(I)I"⟩ "TraceCache",
  .methodLinkNest "TraceCache" 196 ⟨"TraceCache$Cache", "holding", "(I)I"⟩ "TraceCache",
  .methodLinkNest "TraceCache" 201 ⟨"TraceCache$Fetch", "choose", "(LTraceCache$Program;LTraceCache$Cache;)V"⟩ "TraceCache",
  .methodLinkNest "TraceCache" 209 ⟨"TraceCache$Fetch", "execute", "(LTraceCache$Program;)V"⟩ "TraceCache",
  .declares (Bundle.initS "java/lang/RuntimeException"),
  .declares (Bundle.initS "java/lang/Exception"),
  .declares (Bundle.initS Bundle.tN),
  .castable "java/lang/IndexOutOfBoundsException" "java/lang/IndexOutOfBoundsException",
  .castable "java/lang/IllegalArgumentException" "java/lang/IllegalArgumentException",
  .castable "java/lang/IllegalStateException" "java/lang/IllegalStateException"]
theorem pzN_ok : pzNws.all pzNest = true := by decide +kernel
def pzN (U : State) : Prop := ∀ w ∈ pzNws, va_Nw w U
theorem pzN.use {U : State} {w : Cond} {args : Array Value} (h : pzN U) (i : Nat) (hi : pzNws[i]? = some w) : w.before args U = true := va_Nw.use (pz_tab pzN_ok (List.mem_of_getElem? hi)) (h _ (List.mem_of_getElem? hi))
theorem pzN.nw {U : State} {w : Cond} (h : pzN U) (i : Nat) (hi : pzNws[i]? = some w) : va_Nw w U := h _ (List.mem_of_getElem? hi)
def pzPre (D : va_G) (tys : List (ClassId × FieldType)) (w : va_W) (sz : Nat) : State → Prop := fun U => U.heap.size = sz ∧ va_P D vwCl w U.heap ∧ va_K D vwCl tys U ∧ va_D (fun _ => True) w ∧ pzN U
def pzB (D : va_G) (tys : List (ClassId × FieldType)) (A : Nat → Prop) (w : va_W) (t : State) : Prop := va_P D vwCl w t.heap ∧ va_K D vwCl tys t ∧ va_D A w
theorem pz_blind {av : List Value} {D : va_G} {tys : List (ClassId × FieldType)} {w : va_W} {sz : Nat} : FrameBlind (va_Pc av (pzPre D tys w sz)) := by
  intro a U g mk q
  obtain ⟨q0, q1, qP, qK, qD, qN⟩ := q
  exact ⟨q0, q1, qP, va_K.moved (u := U) (U := U.calling g mk a) (Vm.Alike.refl U.vm) qK, qD, fun w hw => va_Nw.same (pz_tab pzN_ok hw) (show U.vm = (U.calling g mk a).vm from rfl) (qN w hw)⟩
theorem pz_pre {av : List Value} {D : va_G} {tys : List (ClassId × FieldType)} {w : va_W} {A : Nat → Prop} {s : State} {H : Heap} (hK : va_K D vwCl tys s) (hN : pzN s) (hP : va_P D vwCl w H) (hD : va_D A w) : ∀ U : State, U.heap = H → s.WarmedH U.vm → va_Pc av (pzPre D tys w H.size) av.toArray U :=
  fun U hU hW => ⟨rfl, by rw [hU], by rw [hU]; exact hP, va_K.moved hW.alike hK, hD.weaken (fun _ _ _ _ => trivial), pz_warm pzN_ok hW hN⟩
-- worlds as lists: what is in them
theorem P_mem {D : va_G} {cl : List vw_C} {ws : va_W} {H : Heap} : va_P D cl ws H ↔ ∀ q ∈ ws, va_at D cl q H :=
  ⟨fun h q hq => by obtain ⟨k, hk⟩ := List.mem_iff_getElem?.mp hq; exact h k q hk, fun h k q hk => h q (List.mem_of_getElem? hk)⟩
theorem P_sub {D : va_G} {cl : List vw_C} {ws ws' : va_W} {H : Heap} (h : va_P D cl ws H) (hs : ∀ q ∈ ws', q ∈ ws) : va_P D cl ws' H := P_mem.mpr fun q hq => P_mem.mp h q (hs q hq)
theorem D_iff {A : Nat → Prop} {ws : va_W} : va_D A ws ↔ ws.Pairwise (fun p q => p.1 ≠ q.1) ∧ ∀ q ∈ ws, A q.1 := by
  constructor
  · intro h
    refine ⟨List.pairwise_iff_getElem.mpr fun i j hi hj hij e => ?_, fun q hq => by obtain ⟨k, hk⟩ := List.mem_iff_getElem?.mp hq; exact h.2 k q hk⟩
    have := h.1 i j ws[i] ws[j] (List.getElem?_eq_getElem hi) (List.getElem?_eq_getElem hj) e
    omega
  · intro h
    refine ⟨fun i j p q hp hq e => ?_, fun k q hk => h.2 q (List.mem_of_getElem? hk)⟩
    obtain ⟨hi, rfl⟩ := List.getElem?_eq_some_iff.mp hp
    obtain ⟨hj, rfl⟩ := List.getElem?_eq_some_iff.mp hq
    rcases Nat.lt_trichotomy i j with c | c | c
    · exact absurd e (List.pairwise_iff_getElem.mp h.1 i j hi hj c)
    · exact c
    · exact absurd e.symm (List.pairwise_iff_getElem.mp h.1 j i hj hi c)
theorem D_mid {A : Nat → Prop} {x b y : va_W} (h : va_D A (x ++ (b ++ y))) : va_D A b := by
  have h1 := D_iff.mp h
  refine D_iff.mpr ⟨?_, fun q hq => h1.2 q (by simp [hq])⟩
  exact (List.pairwise_append.mp (List.pairwise_append.mp h1.1).2.1).1
theorem P_mid {D : va_G} {cl : List vw_C} {x b y : va_W} {H : Heap} (h : va_P D cl (x ++ (b ++ y)) H) : va_P D cl b H := P_sub h fun q hq => by simp [hq]
theorem pz_free {A0 : Nat → Prop} {x b y : va_W} {H0 H : Heap} {locs : List Loc} (hD : va_D A0 (x ++ (b ++ y))) (hS : va_S A0 H0 H locs) (hA : ∀ q, H0.size ≤ q → A0 q) : ∀ q, va_A b H.size q → A0 q := by
  intro q h
  rcases h with ⟨k, e, h⟩ | h
  · exact (D_mid hD).2 k _ h
  · exact hA q (Nat.le_trans hS.1 h)
theorem pz_join {A0 : Nat → Prop} {D : va_G} {cl : List vw_C} {x b y b1 : va_W} {H H1 : Heap} (hP : va_P D cl (x ++ (b ++ y)) H) (hD : va_D A0 (x ++ (b ++ y)))
    (hk : ∀ q : Nat, q < H.size → ¬ va_A b H.size q → H1[q]? = H[q]?) (hF : ∀ q, va_A b H.size q → A0 q) (hP1 : va_P D cl b1 H1) (hD1 : va_D (va_A b H.size) b1) : va_P D cl (x ++ (b1 ++ y)) H1 ∧ va_D A0 (x ++ (b1 ++ y)) := by
  have hPm := P_mem.mp hP
  have hDi := D_iff.mp hD
  obtain ⟨hx, hby, hxby⟩ := List.pairwise_append.mp hDi.1
  obtain ⟨hb, hy, hbyd⟩ := List.pairwise_append.mp hby
  have out : ∀ q ∈ x ++ y, q.1 < H.size ∧ ¬ va_A b H.size q.1 := by
    intro q hq
    have hlt : q.1 < H.size := (hPm q (by rcases List.mem_append.mp hq with h | h <;> simp [h])).lt
    refine ⟨hlt, ?_⟩
    rintro (⟨k, e, h⟩ | h)
    · have hm := List.mem_of_getElem? h
      rcases List.mem_append.mp hq with h2 | h2
      · exact hxby q h2 _ (List.mem_append_left _ hm) rfl
      · exact hbyd _ hm q h2 rfl
    · omega
  have keep : ∀ q ∈ x ++ y, va_at D cl q H1 := by
    intro q hq
    obtain ⟨h1, h2⟩ := out q hq
    have h0 : va_P D cl [q] H := P_mem.mpr fun q' h' => by
      rw [List.mem_singleton.mp h']
      exact hPm q (by rcases List.mem_append.mp hq with h | h <;> simp [h])
    have h3 : va_P D cl [q] H1 := h0.kept fun k q' hk' => by
      have := List.mem_singleton.mp (List.mem_of_getElem? hk')
      subst this
      exact hk _ h1 h2
    exact P_mem.mp h3 q (List.mem_singleton.mpr rfl)
  have hDi1 := D_iff.mp hD1
  have far : ∀ q ∈ x ++ y, ∀ q1 ∈ b1, q.1 ≠ q1.1 := by
    intro q hq q1 h1 e
    exact (out q hq).2 (by rw [e]; exact hDi1.2 q1 h1)
  refine ⟨P_mem.mpr fun q hq => ?_, D_iff.mpr ⟨?_, fun q hq => ?_⟩⟩
  · rcases List.mem_append.mp hq with h | h
    · exact keep q (List.mem_append_left _ h)
    · rcases List.mem_append.mp h with h | h
      · exact P_mem.mp hP1 q h
      · exact keep q (List.mem_append_right _ h)
  · refine List.pairwise_append.mpr ⟨hx, List.pairwise_append.mpr ⟨hDi1.1, hy, fun p hp q hq => (far q (List.mem_append_right _ hq) p hp).symm⟩, fun p hp q hq => ?_⟩
    rcases List.mem_append.mp hq with h | h
    · exact far p (List.mem_append_left _ hp) q h
    · exact hxby p hp q (List.mem_append_right _ h)
  · rcases List.mem_append.mp hq with h | h
    · exact hDi.2 q (List.mem_append_left _ h)
    · rcases List.mem_append.mp h with h | h
      · exact hF _ (hDi1.2 q h)
      · exact hDi.2 q (List.mem_append_right _ (List.mem_append_right _ h))
section ZKW
variable {p : Program} {l : Launch} {e : Env} {R : Room} {s : State} {m : MethodId} {args : Array Value} {below : List Frame} {meth : Method} {c : Code} {H H0 : Heap} {locs : List Loc} {cells slots : Nat} {Q : State → Prop} {pc : Nat} {ls : Array Slot} {rest st0 : List Value} {a : Array Value} {A : Nat → Prop} {D : va_G} {tys : List (ClassId × FieldType)} {ws wsn x b y b1 : va_W} {mc ms : Nat}
theorem pz_V {C : String} {T : u_T} {N ci bo : Nat} {fs : List Value} {As : List Value} {bi : Nat} (hK : va_K D vwCl tys s) (hN : pzN s) (hP : va_P D vwCl ws H) (hD : va_D A ws) (hws : ws = x ++ (b ++ y)) (hc : vwCl[ci]? = some (C, T, N)) (he : b[bi]? = some (bo, .inr (ci, fs))) :
    PreV s H C bo (va_Pc (.ref bo :: As) (pzPre D tys b H.size)) As := by
  subst hws
  exact ⟨pz_blind, va_recv hK (P_mid hP) hc he, pz_pre hK hN (P_mid hP) (D_mid hD)⟩
theorem pz_S {As : List Value} (hK : va_K D vwCl tys s) (hN : pzN s) (hP : va_P D vwCl ws H) (hD : va_D A ws) (hws : ws = x ++ (b ++ y)) :
    PreS s H (va_Pc As (pzPre D tys b H.size)) As := by
  subst hws
  exact ⟨pz_blind, pz_pre hK hN (P_mid hP) (D_mid hD)⟩
theorem z_ai {r : Int32} (hr : va_Run p l e R s m args below meth c H locs cells slots mc ms (F0 m pc ls st0) rest (va_Qi (fun v (_ : Unit) => v = r) (fun _ t => pzB D tys (va_A b H.size) b1 t) (va_A b H.size) a) (va_A b H.size))
    (hP : va_P D vwCl ws H) (hD : va_D A ws) (hS : va_S A H0 H locs) (hA : ∀ q, H0.size ≤ q → A q) (hws : ws = x ++ (b ++ y)) (hwn : wsn = x ++ (b1 ++ y))
    (kk : ∀ (H1 : Heap) (locs1 : List Loc), va_P D vwCl wsn H1 → va_D A wsn → va_S A H0 H1 locs1 → W p l e R s m args below meth c H1 locs1 (cells + mc) (slots + ms) Q (F0 m (pc + 3) ls (.int r :: rest))) : W p l e R s m args below meth c H locs cells slots Q (F0 m pc ls st0) := by
  subst hws
  have hF := pz_free hD hS hA
  refine va_calli hr hS (fun q _ h => hF q h) hF (fun v u t H1 locs1 ht hvm hv hB hz1 hk1 hS => ?_)
  obtain ⟨hP1, -, hD1⟩ := hB
  rw [ht] at hP1
  obtain ⟨hP, hD⟩ := pz_join hP hD hk1 hF hP1 hD1
  subst hv
  subst hwn
  exact kk H1 locs1 hP hD hS
theorem z_av (hr : va_Run p l e R s m args below meth c H locs cells slots mc ms (F0 m pc ls st0) rest (va_Qv (fun (_ : Unit) => True) (fun _ t => pzB D tys (va_A b H.size) b1 t) (va_A b H.size) a) (va_A b H.size))
    (hP : va_P D vwCl ws H) (hD : va_D A ws) (hS : va_S A H0 H locs) (hA : ∀ q, H0.size ≤ q → A q) (hws : ws = x ++ (b ++ y)) (hwn : wsn = x ++ (b1 ++ y))
    (kk : ∀ (H1 : Heap) (locs1 : List Loc), va_P D vwCl wsn H1 → va_D A wsn → va_S A H0 H1 locs1 → W p l e R s m args below meth c H1 locs1 (cells + mc) (slots + ms) Q (F0 m (pc + 3) ls rest)) : W p l e R s m args below meth c H locs cells slots Q (F0 m pc ls st0) := by
  subst hws
  have hF := pz_free hD hS hA
  refine va_callv hr hS (fun q _ h => hF q h) hF (fun u t H1 locs1 ht hvm hv hB hz1 hk1 hS => ?_)
  obtain ⟨hP1, -, hD1⟩ := hB
  rw [ht] at hP1
  obtain ⟨hP, hD⟩ := pz_join hP hD hk1 hF hP1 hD1
  subst hwn
  exact kk H1 locs1 hP hD hS
end ZKW
/-- what a body stands on: its frame of facts -/
def z_Fx (y : MethodName) (cc : ByteArray) (maxL : Nat) (ws : List Cond) (D : va_G) (tys : List (ClassId × FieldType)) (p : Program) (s : State) (m : MethodId) (args : Array Value) (c : Code) (A : Nat → Prop) : Prop :=
  p.tables.exec = Jvm.exec ∧ c.code = cc ∧ c.maxLocals = maxL ∧ s.vm.findClass y.cls = some m.cls ∧ (∀ w ∈ ws, w.before args s = true) ∧ pzN s ∧ va_K D vwCl tys s ∧ (∀ q : Nat, s.heap.size ≤ q → A q)
section ZKM
variable {l : Launch} {y : MethodName} {ws ws' : List Cond} {rm : Room} {cc : ByteArray} {maxL : Nat} {D : va_G} {tys : List (ClassId × FieldType)} {w0 w1 : va_W} {av : List Value} {sz : Nat}
theorem z_meti {r : Int32} (hy : plainName y.cls = true) (hw : ws = Cond.code y cc maxL (some .int) :: ws') (hle : (lg_sl av).length ≤ maxL)
    (body : ∀ (p : Program) (e : Env) (s : State) (m : MethodId) (args : Array Value) (below : List Frame) (meth : Method) (c : Code) (A : Nat → Prop) (ls : Array Slot) (Q : State → Prop) (H : Heap) (locs : List Loc),
      z_Fx y cc maxL ws D tys p s m args c A → va_P D vwCl w0 H → va_D A w0 → va_S A s.heap H locs → lv_has ls maxL (lv_args 0 av) →
      (∀ (H : Heap) (locs : List Loc) (pc : Nat) (ls : Array Slot) (v : Int32), decode cc pc = .ok (.ireturn, 1) → v = r → va_P D vwCl w1 H → va_D A w1 → va_S A s.heap H locs → W p l e rm s m args below meth c H locs 0 0 Q (F0 m pc ls [.int v])) →
      W p l e rm s m args below meth c H locs 0 0 Q (F0 m 0 ls [])) :
    Met l y ws rm (va_Pc av (pzPre D tys w0 sz)) (va_Qi (fun v (_ : Unit) => v = r) (fun _ t => pzB D tys (va_A w0 sz) w1 t) (va_A w0 sz)) 0 0 (va_A w0 sz) := by
  refine Met.ofW (cc := cc) (maxL := maxL) (ret := some .int) hy hw ?_
  intro p e s m args below meth c s₁ B hml hv
  obtain ⟨rfl, hsz, hP, hK, hD0, hN⟩ := hv
  have hts := atoms_spec (ws := ws) B.pre
  have hown : s.vm.findClass y.cls = some m.cls := findClass_of_methodNamed B.named
  subst hsz
  have hD := hD0.self (sz := s.heap.size)
  have hl := lv_entry av (n := maxL) hle
  rw [lg_entry_eq]
  refine body p e s m _ below meth c (va_A w0 s.heap.size) _ _ _ _ ⟨B.exec, B.bytes, hml, hown, hts, hN, hK, fun q h => Or.inr h⟩ hP hD va_S.rf hl ?_
  intro H locs pc ls v hdg hv hP1 hD1 hS1
  exact W.iret (v := v) B.exec B.bytes B.returns (fun t ht hW => ⟨⟨v, (), rfl, hv, by rw [ht]; exact hP1, va_K.moved hW.alike hK, hD1⟩, hS1.F ht⟩) hS1.2.2 hdg B.notSynchronized
theorem z_metz {r : Int32} (hy : plainName y.cls = true) (hw : ws = Cond.code y cc maxL (some .boolean) :: ws') (hle : (lg_sl av).length ≤ maxL)
    (body : ∀ (p : Program) (e : Env) (s : State) (m : MethodId) (args : Array Value) (below : List Frame) (meth : Method) (c : Code) (A : Nat → Prop) (ls : Array Slot) (Q : State → Prop) (H : Heap) (locs : List Loc),
      z_Fx y cc maxL ws D tys p s m args c A → va_P D vwCl w0 H → va_D A w0 → va_S A s.heap H locs → lv_has ls maxL (lv_args 0 av) →
      (∀ (H : Heap) (locs : List Loc) (pc : Nat) (ls : Array Slot) (v : Int32), decode cc pc = .ok (.ireturn, 1) → isb v = true → v = r → va_P D vwCl w1 H → va_D A w1 → va_S A s.heap H locs → W p l e rm s m args below meth c H locs 0 0 Q (F0 m pc ls [.int v])) →
      W p l e rm s m args below meth c H locs 0 0 Q (F0 m 0 ls [])) :
    Met l y ws rm (va_Pc av (pzPre D tys w0 sz)) (va_Qi (fun v (_ : Unit) => v = r) (fun _ t => pzB D tys (va_A w0 sz) w1 t) (va_A w0 sz)) 0 0 (va_A w0 sz) := by
  refine Met.ofW (cc := cc) (maxL := maxL) (ret := some .boolean) hy hw ?_
  intro p e s m args below meth c s₁ B hml hv
  obtain ⟨rfl, hsz, hP, hK, hD0, hN⟩ := hv
  have hts := atoms_spec (ws := ws) B.pre
  have hown : s.vm.findClass y.cls = some m.cls := findClass_of_methodNamed B.named
  subst hsz
  have hD := hD0.self (sz := s.heap.size)
  have hl := lv_entry av (n := maxL) hle
  rw [lg_entry_eq]
  refine body p e s m _ below meth c (va_A w0 s.heap.size) _ _ _ _ ⟨B.exec, B.bytes, hml, hown, hts, hN, hK, fun q h => Or.inr h⟩ hP hD va_S.rf hl ?_
  intro H locs pc ls v hdg hn hv hP1 hD1 hS1
  exact W.zret (v := v) B.exec B.bytes B.returns (isb_t hn) (fun t ht hW => ⟨⟨v, (), rfl, hv, by rw [ht]; exact hP1, va_K.moved hW.alike hK, hD1⟩, hS1.F ht⟩) hS1.2.2 hdg B.notSynchronized
theorem z_metv (hy : plainName y.cls = true) (hw : ws = Cond.code y cc maxL none :: ws') (hle : (lg_sl av).length ≤ maxL)
    (body : ∀ (p : Program) (e : Env) (s : State) (m : MethodId) (args : Array Value) (below : List Frame) (meth : Method) (c : Code) (A : Nat → Prop) (ls : Array Slot) (Q : State → Prop) (H : Heap) (locs : List Loc),
      z_Fx y cc maxL ws D tys p s m args c A → va_P D vwCl w0 H → va_D A w0 → va_S A s.heap H locs → lv_has ls maxL (lv_args 0 av) →
      (∀ (H : Heap) (locs : List Loc) (pc : Nat) (ls : Array Slot), decode cc pc = .ok (.return_, 1) → va_P D vwCl w1 H → va_D A w1 → va_S A s.heap H locs → W p l e rm s m args below meth c H locs 0 0 Q (F0 m pc ls [])) →
      W p l e rm s m args below meth c H locs 0 0 Q (F0 m 0 ls [])) :
    Met l y ws rm (va_Pc av (pzPre D tys w0 sz)) (va_Qv (fun (_ : Unit) => True) (fun _ t => pzB D tys (va_A w0 sz) w1 t) (va_A w0 sz)) 0 0 (va_A w0 sz) := by
  refine Met.ofW (cc := cc) (maxL := maxL) (ret := none) hy hw ?_
  intro p e s m args below meth c s₁ B hml hv
  obtain ⟨rfl, hsz, hP, hK, hD0, hN⟩ := hv
  have hts := atoms_spec (ws := ws) B.pre
  have hown : s.vm.findClass y.cls = some m.cls := findClass_of_methodNamed B.named
  subst hsz
  have hD := hD0.self (sz := s.heap.size)
  have hl := lv_entry av (n := maxL) hle
  rw [lg_entry_eq]
  refine body p e s m _ below meth c (va_A w0 s.heap.size) _ _ _ _ ⟨B.exec, B.bytes, hml, hown, hts, hN, hK, fun q h => Or.inr h⟩ hP hD va_S.rf hl ?_
  intro H locs pc ls hdg hP1 hD1 hS1
  exact W.vret B.exec B.bytes B.returns (fun t ht hW => ⟨⟨(), rfl, trivial, by rw [ht]; exact hP1, va_K.moved hW.alike hK, hD1⟩, hS1.F ht⟩) hS1.2.2 hdg B.notSynchronized
end ZKM
/-- the outer array of eight rows -/
def zro (rr : Nat → Nat) : Nat → Option Nat := fun j => if j < 8 then some (rr j) else none
/-- eight rows of eight -/
def zr8 (cI : ClassId) (rr : Nat → Nat) (M : Nat → Nat → Int32) : va_W := [(rr 0, .inl (cI, 8, .inl (M 0))), (rr 1, .inl (cI, 8, .inl (M 1))), (rr 2, .inl (cI, 8, .inl (M 2))), (rr 3, .inl (cI, 8, .inl (M 3))), (rr 4, .inl (cI, 8, .inl (M 4))), (rr 5, .inl (cI, 8, .inl (M 5))), (rr 6, .inl (cI, 8, .inl (M 6))), (rr 7, .inl (cI, 8, .inl (M 7)))]
theorem zr8_at {cI : ClassId} {rr : Nat → Nat} {M : Nat → Nat → Int32} {k : Nat} (pre : va_W) (h : k < 8) : (pre ++ zr8 cI rr M)[pre.length + k]? = some (rr k, .inl (cI, 8, .inl (M k))) := by
  rw [List.getElem?_append_right (Nat.le_add_right _ _), Nat.add_sub_cancel_left]
  rcases (show k = 0 ∨ k = 1 ∨ k = 2 ∨ k = 3 ∨ k = 4 ∨ k = 5 ∨ k = 6 ∨ k = 7 by omega) with rfl | rfl | rfl | rfl | rfl | rfl | rfl | rfl <;> rfl
theorem zr8_set {cI : ClassId} {rr : Nat → Nat} {M : Nat → Nat → Int32} {k : Nat} (pre : va_W) (h : k < 8) (g : Nat → Int32) : (pre ++ zr8 cI rr M).set (pre.length + k) (rr k, .inl (cI, 8, .inl g)) = pre ++ zr8 cI rr (va_up M k g) := by
  have h1 : ∀ z, (pre ++ zr8 cI rr M).set (pre.length + k) z = pre ++ (zr8 cI rr M).set k z := by
    intro z
    rw [List.set_append, if_neg (by omega), Nat.add_sub_cancel_left]
  rw [h1]
  congr 1
  rcases (show k = 0 ∨ k = 1 ∨ k = 2 ∨ k = 3 ∨ k = 4 ∨ k = 5 ∨ k = 6 ∨ k = 7 by omega) with rfl | rfl | rfl | rfl | rfl | rfl | rfl | rfl <;> rfl
def wX4 (cI cZ cII : ClassId) (a : Nat → Nat) (kinds : Nat → Int32) (targets : Nat → Int32) (outcomes : Nat → Int32) (lengths : Nat → Int32) (outcomeCounts : Nat → Int32) (counters : Nat → Int32) (next : Int32) : va_W := [(a 0, .inr (4, [.ref (a 1), .ref (a 2), .ref (a 3), .ref (a 4), .ref (a 5), .ref (a 6), .int next])), (a 1, .inl (cI, 48, .inl kinds)), (a 2, .inl (cI, 48, .inl targets)), (a 3, .inl (cI, 48, .inl outcomes)), (a 4, .inl (cI, 48, .inl lengths)), (a 5, .inl (cI, 48, .inl outcomeCounts)), (a 6, .inl (cI, 48, .inl counters))]
def wX0 (cI cZ cII : ClassId) (a : Nat → Nat) (rr : Nat → Nat) (addresses : Nat → Nat → Int32) (sizes : Nat → Int32) (useNumbers : Nat → Int32) (lastUse : Int32) (put : Int32) (replaced : Int32) (dropped : Int32) : va_W := [(a 0, .inr (0, [.ref (a 1), .ref (a 2), .ref (a 3), .int lastUse, .int put, .int replaced, .int dropped])), (a 1, .inl (cII, 8, .inr (.inr (.inr (.inr (zro rr)))))), (a 2, .inl (cI, 8, .inl sizes)), (a 3, .inl (cI, 8, .inl useNumbers))] ++ zr8 cI rr addresses
def wX1 (cI cZ cII : ClassId) (a : Nat → Nat) (addresses : Nat → Int32) (predictions : Nat → Int32) (size : Int32) (place : Int32) (executed : Int32) (mispredictions : Int32) : va_W := [(a 0, .inr (1, [.ref (a 1), .ref (a 2), .int size, .int place, .int executed, .int mispredictions])), (a 1, .inl (cI, 8, .inl addresses)), (a 2, .inl (cZ, 8, .inl predictions))]
def wX5 (cI cZ cII : ClassId) (a : Nat → Nat) (characters : Nat → Int32) (length : Int32) (place : Int32) (operation : Int32) (address : Int32) (number : Int32) (outcomes : Int32) : va_W := [(a 0, .inr (5, [.ref (a 1), .int length, .int place, .int operation, .int address, .int number, .int outcomes])), (a 1, .inl (cI, 80, .inl characters))]
def wX7 (cI cZ cII : ClassId) (a : Nat → Nat) (thrown : Int32) (s : Nat → Int32) (aside : Nat → Int32) (saved : Nat → Int32) (savedMany : Int32) (text : Nat → Int32) (length : Int32) (fetched : Nat → Int32) (predicted : Nat → Int32) (fetchedMany : Int32) (fetchedWay : Int32) (spot : Int32) (isWrong : Int32) (executedByText : Int32) : va_W := [(a 0, .inr (7, [.int thrown, .ref (a 1), .ref (a 2), .ref (a 3), .int savedMany, .ref (a 4), .int length, .ref (a 5), .ref (a 6), .int fetchedMany, .int fetchedWay, .int spot, .int isWrong, .int executedByText])), (a 1, .inl (cI, 389, .inl s)), (a 2, .inl (cI, 389, .inl aside)), (a 3, .inl (cI, 2334, .inl saved)), (a 4, .inl (cI, 80, .inl text)), (a 5, .inl (cI, 8, .inl fetched)), (a 6, .inl (cI, 8, .inl predicted))]
def wX3 (cI cZ cII : ClassId) (a : Nat → Nat) (k_program k_cache k_pendingLine : Nat) (pendingSize : Int32) (time : Int32) (fetches : Int32) (executed : Int32) (thrownAway : Int32) (mispredictions : Int32) (executedFromLines : Int32) (fetchesFromLines : Int32) : va_W := [(a 0, .inr (3, [.ref k_program, .ref k_cache, .ref k_pendingLine, .int pendingSize, .int time, .int fetches, .int executed, .int thrownAway, .int mispredictions, .int executedFromLines, .int fetchesFromLines]))]
def wX6 (cI cZ cII : ClassId) (a : Nat → Nat) (k_machine k_history k_text k_fetch k_rehearsal : Nat) : va_W := [(a 0, .inr (6, [.ref k_machine, .ref k_history, .ref k_text, .ref k_fetch, .ref k_rehearsal]))]
def zA (cI : ClassId) (a : Nat → Nat) (n : Nat) (f : Nat → Int32) : va_W := [(a 0, .inl (cI, n, .inl f))]
def zT (cI cZ cII cJ cM : ClassId) : List (ClassId × FieldType) := [(cI, .int), (cZ, .boolean), (cII, .array .int), (cJ, .long), (cM, .object RX3)]
theorem wX0_row {cI cZ cII : ClassId} {a rr : Nat → Nat} {M : Nat → Nat → Int32} {sz us : Nat → Int32} {n1 n2 n3 n4 : Int32} {x y : va_W} {k : Nat} (h : k < 8) :
    (x ++ (wX0 cI cZ cII a rr M sz us n1 n2 n3 n4 ++ y))[x.length + (4 + k)]? = some (rr k, .inl (cI, 8, .inl (M k))) := by
  rw [List.getElem?_append_right (Nat.le_add_right _ _), Nat.add_sub_cancel_left]
  rcases (show k = 0 ∨ k = 1 ∨ k = 2 ∨ k = 3 ∨ k = 4 ∨ k = 5 ∨ k = 6 ∨ k = 7 by omega) with rfl | rfl | rfl | rfl | rfl | rfl | rfl | rfl <;> rfl
theorem wX0_set {cI cZ cII : ClassId} {a rr : Nat → Nat} {M : Nat → Nat → Int32} {sz us : Nat → Int32} {n1 n2 n3 n4 : Int32} {x y : va_W} {k : Nat} (h : k < 8) (g : Nat → Int32) :
    (x ++ (wX0 cI cZ cII a rr M sz us n1 n2 n3 n4 ++ y)).set (x.length + (4 + k)) (rr k, .inl (cI, 8, .inl g)) = x ++ (wX0 cI cZ cII a rr (va_up M k g) sz us n1 n2 n3 n4 ++ y) := by
  have h1 : ∀ z, (x ++ (wX0 cI cZ cII a rr M sz us n1 n2 n3 n4 ++ y)).set (x.length + (4 + k)) z = x ++ (wX0 cI cZ cII a rr M sz us n1 n2 n3 n4 ++ y).set (4 + k) z := by
    intro z
    rw [List.set_append, if_neg (by omega), Nat.add_sub_cancel_left]
  rw [h1]
  congr 1
  rcases (show k = 0 ∨ k = 1 ∨ k = 2 ∨ k = 3 ∨ k = 4 ∨ k = 5 ∨ k = 6 ∨ k = 7 by omega) with rfl | rfl | rfl | rfl | rfl | rfl | rfl | rfl <;> rfl
theorem z_i32 {x : Int32} {k : Int} {v : Int32} (h : x.toInt = k) (hv : v.toInt = k := by decide) : x = v := by
  have h1 : x.toInt = v.toInt := h.trans hv.symm
  exact Int32.toInt_inj.mp h1
section ZK2
variable {p : Program} {l : Launch} {e : Env} {R : Room} {s : State} {m : MethodId} {args : Array Value} {below : List Frame} {meth : Method} {c : Code} {H H0 : Heap} {locs : List Loc} {cells slots : Nat} {Q : State → Prop} {pc : Nat} {ls : Array Slot} {rest : List Value} {cc : ByteArray} {a : Nat} {D : va_G} {cl : List vw_C} {tys : List (ClassId × FieldType)} {ws : va_W}
theorem z_aald8 {rr : Nat → Nat} (hexec : p.tables.exec = Jvm.exec) (hb : c.code = cc) (hK : va_K D cl tys s) (hP : va_P D cl ws H) (q0 t0 : Nat) {cA : ClassId} (ha : ws[q0]? = some (a, .inl (cA, 8, .inr (.inr (.inr (.inr (zro rr))))))) (ht : tys[t0]? = some (cA, .array .int)) {i : Int32} (hin : vp_in i 8) (hlt : i.toNatClampNeg < 8) (hdg : decode cc pc = .ok (.aaload, 1))
    (kk : W p l e R s m args below meth c H locs cells slots Q (F0 m (pc + 1) ls (.ref (rr i.toNatClampNeg) :: rest))) : W p l e R s m args below meth c H locs cells slots Q (F0 m pc ls (.int i :: .ref a :: rest)) := by
  have hv : va_rf (zro rr i.toNatClampNeg) = .ref (rr i.toNatClampNeg) := by
    unfold zro
    rw [if_pos hlt]
    rfl
  exact W.aald (v := .ref (rr i.toNatClampNeg)) (ty := .array .int) hexec hb (hP q0 _ ha) ((hK.2 t0 _ ht).1 8 (fun j => va_rf (zro rr j))) rfl (fun q => by cases q) (by show ¬ (i < 0 ∨ (arrV _ _ _).slots.size ≤ _); rw [arrV_size]; exact hin) (by show (arrV _ _ _).slots[_]? = _; rw [arrV_read _ _ hlt, hv]) rfl rfl hdg kk
end ZK2
theorem P_swap {D : va_G} {cl : List vw_C} {w w' x a b y : va_W} {H : Heap} (h : w = x ++ (a ++ (b ++ y))) (h' : w' = x ++ (b ++ (a ++ y))) (hP : va_P D cl w H) : va_P D cl w' H := by
  subst h
  subst h'
  refine P_sub hP fun q hq => ?_
  simp only [List.mem_append] at hq ⊢
  rcases hq with h | h | h | h
  · exact Or.inl h
  · exact Or.inr (Or.inr (Or.inl h))
  · exact Or.inr (Or.inl h)
  · exact Or.inr (Or.inr (Or.inr h))
theorem D_swap {A : Nat → Prop} {w w' x a b y : va_W} (h : w = x ++ (a ++ (b ++ y))) (h' : w' = x ++ (b ++ (a ++ y))) (hD : va_D A w) : va_D A w' := by
  subst h
  subst h'
  have h1 := D_iff.mp hD
  refine D_iff.mpr ⟨?_, fun q hq => h1.2 q ?_⟩
  · have hp : (x ++ (a ++ (b ++ y))).Perm (x ++ (b ++ (a ++ y))) := by
      refine List.Perm.append_left x ?_
      rw [← List.append_assoc, ← List.append_assoc]
      exact List.Perm.append_right y List.perm_append_comm
    exact hp.pairwise h1.1 (fun hne => hne.symm)
  · simp only [List.mem_append] at hq ⊢
    rcases hq with h | h | h | h
    · exact Or.inl h
    · exact Or.inr (Or.inr (Or.inl h))
    · exact Or.inr (Or.inl h)
    · exact Or.inr (Or.inr (Or.inr h))
/-- the contents of a machine -/
abbrev zMT : Type := Int32 × Int32 × Int32 × Int32 × Int32 × Int32 × Int32 × Int32 × (Nat → Int32) × (Nat → Nat → Int32) × (Nat → Int32) × (Nat → Int32) × Int32 × Int32 × Int32 × Int32 × (Nat → Int32) × (Nat → Int32) × (Nat → Int32) × (Nat → Int32) × (Nat → Int32) × (Nat → Int32) × Int32
def zMc (cI cZ cII : ClassId) (h : Nat → Nat → Nat) (u : zMT) : va_W := wX3 cI cZ cII (h 0) (h 3 0) (h 2 0) (h 1 0) u.1 u.2.1 u.2.2.1 u.2.2.2.1 u.2.2.2.2.1 u.2.2.2.2.2.1 u.2.2.2.2.2.2.1 u.2.2.2.2.2.2.2.1 ++ (zA cI (h 1) 8 u.2.2.2.2.2.2.2.2.1 ++ (wX0 cI cZ cII (h 2) (h 4) u.2.2.2.2.2.2.2.2.2.1 u.2.2.2.2.2.2.2.2.2.2.1 u.2.2.2.2.2.2.2.2.2.2.2.1 u.2.2.2.2.2.2.2.2.2.2.2.2.1 u.2.2.2.2.2.2.2.2.2.2.2.2.2.1 u.2.2.2.2.2.2.2.2.2.2.2.2.2.2.1 u.2.2.2.2.2.2.2.2.2.2.2.2.2.2.2.1 ++ (wX4 cI cZ cII (h 3) u.2.2.2.2.2.2.2.2.2.2.2.2.2.2.2.2.1 u.2.2.2.2.2.2.2.2.2.2.2.2.2.2.2.2.2.1 u.2.2.2.2.2.2.2.2.2.2.2.2.2.2.2.2.2.2.1 u.2.2.2.2.2.2.2.2.2.2.2.2.2.2.2.2.2.2.2.1 u.2.2.2.2.2.2.2.2.2.2.2.2.2.2.2.2.2.2.2.2.1 u.2.2.2.2.2.2.2.2.2.2.2.2.2.2.2.2.2.2.2.2.2.1 u.2.2.2.2.2.2.2.2.2.2.2.2.2.2.2.2.2.2.2.2.2.2 ++ [])))
def zH6 (cI cZ cII : ClassId) (h : Nat → Nat → Nat → Nat) (S : Nat → zMT) : va_W := zMc cI cZ cII (h 0) (S 0) ++ (zMc cI cZ cII (h 1) (S 1) ++ (zMc cI cZ cII (h 2) (S 2) ++ (zMc cI cZ cII (h 3) (S 3) ++ (zMc cI cZ cII (h 4) (S 4) ++ (zMc cI cZ cII (h 5) (S 5) ++ [])))))
def zs6 (h : Nat → Nat → Nat → Nat) : Nat → Option Nat := fun j => if j < 6 then some (h j 0 0) else none
def zH0 (cM : ClassId) (a : Nat → Nat) (h : Nat → Nat → Nat → Nat) (oldest size : Int32) : va_W := [(a 0, .inr (2, [.ref (a 1), .int oldest, .int size])), (a 1, .inl (cM, 6, .inr (.inr (.inr (.inr (zs6 h))))))]
def wX2 (cI cZ cII cM : ClassId) (a : Nat → Nat) (h : Nat → Nat → Nat → Nat) (saved : Nat → zMT) (oldest size : Int32) : va_W := zH0 cM a h oldest size ++ zH6 cI cZ cII h saved
def z6 (g : Nat → zMT → va_W) (S : Nat → zMT) : va_W := g 0 (S 0) ++ (g 1 (S 1) ++ (g 2 (S 2) ++ (g 3 (S 3) ++ (g 4 (S 4) ++ (g 5 (S 5) ++ [])))))
theorem z6_split (g : Nat → zMT → va_W) (S : Nat → zMT) {k : Nat} (hk : k < 6) : ∃ pre post : va_W, z6 g S = pre ++ (g k (S k) ++ post) ∧ ∀ u, z6 g (va_up S k u) = pre ++ (g k u ++ post) := by
  rcases (show k = 0 ∨ k = 1 ∨ k = 2 ∨ k = 3 ∨ k = 4 ∨ k = 5 by omega) with rfl | rfl | rfl | rfl | rfl | rfl
  · exact ⟨[], g 1 (S 1) ++ (g 2 (S 2) ++ (g 3 (S 3) ++ (g 4 (S 4) ++ (g 5 (S 5) ++ ([]))))), by simp only [z6, List.append_assoc, List.nil_append], fun u => by simp [z6, va_up, List.append_assoc]⟩
  · exact ⟨g 0 (S 0), g 2 (S 2) ++ (g 3 (S 3) ++ (g 4 (S 4) ++ (g 5 (S 5) ++ ([])))), by simp only [z6, List.append_assoc, List.nil_append], fun u => by simp [z6, va_up, List.append_assoc]⟩
  · exact ⟨g 0 (S 0) ++ (g 1 (S 1)), g 3 (S 3) ++ (g 4 (S 4) ++ (g 5 (S 5) ++ ([]))), by simp only [z6, List.append_assoc, List.nil_append], fun u => by simp [z6, va_up, List.append_assoc]⟩
  · exact ⟨g 0 (S 0) ++ (g 1 (S 1) ++ (g 2 (S 2))), g 4 (S 4) ++ (g 5 (S 5) ++ ([])), by simp only [z6, List.append_assoc, List.nil_append], fun u => by simp [z6, va_up, List.append_assoc]⟩
  · exact ⟨g 0 (S 0) ++ (g 1 (S 1) ++ (g 2 (S 2) ++ (g 3 (S 3)))), g 5 (S 5) ++ ([]), by simp only [z6, List.append_assoc, List.nil_append], fun u => by simp [z6, va_up, List.append_assoc]⟩
  · exact ⟨g 0 (S 0) ++ (g 1 (S 1) ++ (g 2 (S 2) ++ (g 3 (S 3) ++ (g 4 (S 4))))), [], by simp only [z6, List.append_assoc, List.nil_append], fun u => by simp [z6, va_up, List.append_assoc]⟩
theorem zH6_split (cI cZ cII : ClassId) (h : Nat → Nat → Nat → Nat) (S : Nat → zMT) {k : Nat} (hk : k < 6) : ∃ pre post : va_W, zH6 cI cZ cII h S = pre ++ (zMc cI cZ cII (h k) (S k) ++ post) ∧ ∀ u, zH6 cI cZ cII h (va_up S k u) = pre ++ (zMc cI cZ cII (h k) u ++ post) :=
  z6_split (fun i u => zMc cI cZ cII (h i) u) S hk
section ZK3
variable {p : Program} {l : Launch} {e : Env} {R : Room} {s : State} {m : MethodId} {args : Array Value} {below : List Frame} {meth : Method} {c : Code} {H H0 : Heap} {locs : List Loc} {cells slots : Nat} {Q : State → Prop} {pc : Nat} {ls : Array Slot} {rest : List Value} {cc : ByteArray} {a : Nat} {D : va_G} {cl : List vw_C} {tys : List (ClassId × FieldType)} {ws : va_W}
theorem z_aald6 {h : Nat → Nat → Nat → Nat} (hexec : p.tables.exec = Jvm.exec) (hb : c.code = cc) (hK : va_K D cl tys s) (hP : va_P D cl ws H) (q0 t0 : Nat) {cA : ClassId} (ha : ws[q0]? = some (a, .inl (cA, 6, .inr (.inr (.inr (.inr (zs6 h))))))) (ht : tys[t0]? = some (cA, .object RX3)) {i : Int32} (hin : vp_in i 6) (hlt : i.toNatClampNeg < 6) (hdg : decode cc pc = .ok (.aaload, 1))
    (kk : W p l e R s m args below meth c H locs cells slots Q (F0 m (pc + 1) ls (.ref (h i.toNatClampNeg 0 0) :: rest))) : W p l e R s m args below meth c H locs cells slots Q (F0 m pc ls (.int i :: .ref a :: rest)) := by
  have hv : va_rf (zs6 h i.toNatClampNeg) = .ref (h i.toNatClampNeg 0 0) := by
    unfold zs6
    rw [if_pos hlt]
    rfl
  exact W.aald (v := .ref (h i.toNatClampNeg 0 0)) (ty := .object RX3) hexec hb (hP q0 _ ha) ((hK.2 t0 _ ht).1 6 (fun j => va_rf (zs6 h j))) rfl (fun q => by cases q) (by show ¬ (i < 0 ∨ (arrV _ _ _).slots.size ≤ _); rw [arrV_size]; exact hin) (by show (arrV _ _ _).slots[_]? = _; rw [arrV_read _ _ hlt, hv]) rfl rfl hdg kk
end ZK3
