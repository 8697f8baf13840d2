/-! what is known of the machine's tables, and the judgements over the flat heap -/
def zty (G : zG) : List (ClassId × FieldType) := [(G.2.2.1 21, .int), (G.2.2.1 22, .long), (G.2.2.1 23, .byte), (G.2.2.1 24, .boolean), (G.2.2.1 25, .object "GraceTree$Text"), (G.2.2.1 26, .object "GraceTree$World")]
/-- the String constants, each by its place -/
def zvS (aK aV : Nat → Nat) (A : Nat → Prop) (U : State) (H : Heap) : Prop := ∀ i : Nat, i < 29 → va_O "java/lang/String" (aK i) A U H ∧ va_OF "java/lang/String" "coder" "B" (.int 0) (aK i) A U H ∧ va_OF "java/lang/String" "value" "[B" (.ref (aV i)) (aK i) A U H ∧ va_T .byte (aV i) (zsln.getD i 0) (fun j => .int ((zsby.getD i []).getD j 0)) A U H
theorem zvS.moved {aK aV : Nat → Nat} {A : Nat → Prop} {u U : State} {H : Heap} (hvm : u.vm.Alike U.vm) (h : zvS aK aV A u H) : zvS aK aV A U H := fun i hi => ⟨va_O.moved hvm (h i hi).1, va_OF.moved hvm (h i hi).2.1, va_OF.moved hvm (h i hi).2.2.1, va_T.moved hvm (h i hi).2.2.2⟩
theorem zvS.kept {aK aV : Nat → Nat} {A : Nat → Prop} {U : State} {H H1 : Heap} (h : zvS aK aV A U H) (hq : ∀ a : Nat, a < H.size → ¬ A a → H1[a]? = H[a]?) : zvS aK aV A U H1 := fun i hi => ⟨(h i hi).1.kept hq, (h i hi).2.1.kept hq, (h i hi).2.2.1.kept hq, (h i hi).2.2.2.kept hq⟩
def zKU (G : zG) (U : State) : Prop :=
  (va_K G.2.1 vwCl (zty G) U ∧ va_AO "GraceTree$Text" U ∧ va_AO "GraceTree$World" U ∧ ∀ w ∈ zNest, va_Nw w U) ∧ zbase G + 1 ≤ U.heap.size ∧
  (∀ i : Nat, i < 29 → vk_R "GraceTree$Tokens" (zsk.getD i 0) (zstx.getD i "") (G.2.2.2.2.1 i) U) ∧
  zvS G.2.2.2.2.1 G.2.2.2.2.2.1 (zA G) U U.heap ∧ va_Z "java/lang/String" "COMPACT_STRINGS" "Z" (.int 1) (zA G) U U.heap ∧ va_Zq "jdk/internal/util/Preconditions" "SIOOBE_FORMATTER" "Ljava/util/function/BiFunction;" (zA G) U U.heap ∧ va_X (zsb G) (zsL G) (zsX G) U U.heap ∧ zsb G ≤ zbase G
theorem zNest_on : ∀ w ∈ zNest, w.onTables = true := by
  intro w hw
  simp only [zNest, List.mem_cons, List.not_mem_nil, or_false] at hw
  rcases hw with h | h | h | h | h <;> (rw [h]; rfl)
theorem zNest_warm {s U : State} (hW : s.WarmedH U.vm) : ∀ w ∈ zNest, va_Nw w s → va_Nw w U := by
  intro w hw hs
  simp only [zNest, List.mem_cons, List.not_mem_nil, or_false] at hw
  rcases hw with h | h | h | h | h <;> (rw [h] at hs ⊢; exact va_Nw.warmM hW hs)
theorem zKU.same {G : zG} {u U : State} (hv : U.vm = u.vm) (hh : U.heap = u.heap) (h : zKU G u) : zKU G U := by
  have hal : u.vm.Alike U.vm := by rw [hv]; exact Vm.Alike.refl u.vm
  obtain ⟨⟨h1, h2, h3, h4⟩, h5, h6, h7, h8, h9, h10, h11⟩ := h
  refine ⟨⟨va_K.moved hal h1, va_AO.moved hal h2, va_AO.moved hal h3, fun w hw => va_Nw.same (zNest_on w hw) hv.symm (h4 w hw)⟩, by rw [hh]; exact h5, fun i hi => vk_R.same hv (h6 i hi), ?_, ?_, ?_, ?_, h11⟩
  · rw [hh]; exact zvS.moved hal h7
  · rw [hh]; exact va_Z.moved hal h8
  · rw [hh]; exact va_Zq.moved hal h9
  · rw [hh]; exact va_X.moved hal h10
theorem zKU.warm {G : zG} {s U : State} (hW : s.WarmedH U.vm) (hz : s.heap.size ≤ U.heap.size) (hk : ∀ a : Nat, a < s.heap.size → ¬ zA G a → U.heap[a]? = s.heap[a]?) (h : zKU G s) : zKU G U := by
  have hal : s.vm.Alike U.vm := hW.alike
  obtain ⟨⟨h1, h2, h3, h4⟩, h5, h6, h7, h8, h9, h10, h11⟩ := h
  refine ⟨⟨va_K.moved hal h1, va_AO.moved hal h2, va_AO.moved hal h3, fun w hw => zNest_warm hW w hw (h4 w hw)⟩, Nat.le_trans h5 hz, fun i hi => vk_R.warm hW (h6 i hi), ?_, ?_, ?_, ?_, h11⟩
  · exact zvS.moved hal (zvS.kept h7 hk)
  · exact va_Z.moved hal (va_Z.kept h8 hk)
  · exact va_Zq.moved hal (va_Zq.kept h9 hk)
  · refine va_X.moved hal (va_X.kept h10 (hk _ ?_ ?_))
    · obtain ⟨scr, q1, -⟩ := h10
      exact (Array.getElem?_eq_some_iff.mp q1).1
    · show ¬ zbase G < zsb G
      omega
def zrm (d mc ms : Nat) : Room := { frames := d, cells := mc, slots := ms, locals := 64 * d }
def zQ (G : zG) {α : Type} (ev : α → Option Value) (r : α) (h' : zH) : Array Value → State → Outcome → State → Prop := fun _ st o t => o = .returned (ev r) ∧ zHR G h' t.heap ∧ va_F (zA G) st t
def zMet (G : zG) (y : MethodName) (cc : ByteArray) (nL : Nat) (rt : Option FieldType) {α : Type} (ev : α → Option Value) (d : Nat) (as : List Value) (h : zH) (X : Option (α × zH)) : Prop :=
  ∀ r h', X = some (r, h') → znx h ≤ znx h' ∧ zsl h ≤ zsl h' ∧ Met G.1 y (zWs y cc nL rt) (zrm d (znx h' - znx h) (zsl h' - zsl h)) (va_Pc as (fun U => zHR G h U.heap ∧ zKU G U)) (zQ G ev r h') (znx h' - znx h) (zsl h' - zsl h) (zA G)
/-- inside a method: what doesn't change while it runs -/
def zCx (G : zG) (y : MethodName) (cc : ByteArray) (nL : Nat) (rt : Option FieldType) (d : Nat) (p : Program) (R : Room) (s : State) (m : MethodId) (args : Array Value) (meth : Method) (c : Code) : Prop :=
  p.tables.exec = Jvm.exec ∧ c.code = cc ∧ meth.sig.returnType = rt ∧ c.maxLocals = nL ∧ (∀ w ∈ zWs y cc nL rt, w.before args s = true) ∧ s.vm.findClass y.cls = some m.cls ∧ meth.locks = false ∧ meth.name = y.name ∧ (d ≤ R.frames ∧ 64 * d ≤ R.locals) ∧ zKU G s
def zW (G : zG) (y : MethodName) (cc : ByteArray) (nL : Nat) (rt : Option FieldType) {α : Type} (ev : α → Option Value) (d : Nat) (pc : Nat) (l : List (Nat × Value)) (st : List Value) (h : zH) (X : Option (α × zH)) : Prop :=
  ∀ r h', X = some (r, h') → znx h ≤ znx h' ∧ zsl h ≤ zsl h' ∧
    ∀ (p : Program) (e : Env) (R : Room) (s : State) (m : MethodId) (args : Array Value) (below : List Frame) (meth : Method) (c : Code) (H : Heap) (locs : List Loc) (cells slots mc ms : Nat) (ls : Array Slot),
      zCx G y cc nL rt d p R s m args meth c → zHR G h H → va_S (zA G) s.heap H locs → lv_has ls nL l → cells + (znx h' - znx h) = mc → slots + (zsl h' - zsl h) = ms → mc ≤ R.cells → ms ≤ R.slots →
      W p G.1 e R s m args below meth c H locs cells slots (MQ below (zQ G ev r h') args s mc ms (zA G)) (F0 m pc ls st)
section
variable {G : zG} {y : MethodName} {cc : ByteArray} {nL : Nat} {rt : Option FieldType} {α : Type} {ev : α → Option Value} {d pc : Nat} {l : List (Nat × Value)} {st : List Value} {h : zH} {X : Option (α × zH)}
theorem zMet_of {as : List Value} (hy : plainName y.cls = true) (hlen : (lg_sl as).length ≤ nL) (hl0 : lv_args 0 as = l) (k : zW G y cc nL rt ev d 0 l [] h X) : zMet G y cc nL rt ev d as h X := by
  intro r h' hX
  obtain ⟨b1, b2, kk⟩ := k r h' hX
  refine ⟨b1, b2, ?_⟩
  refine Met.ofW (cc := cc) (maxL := nL) (ret := rt) (ws' := zT) hy rfl ?_
  intro p e s m args below meth c s₁ B hml hv
  obtain ⟨rfl, hH, hK⟩ := hv
  have hl := lv_entry as (n := nL) hlen
  rw [hl0] at hl
  rw [lg_entry_eq]
  generalize (lg_sl as ++ List.replicate (nL - (lg_sl as).length) Slot.unset).toArray = ls at hl ⊢
  refine kk p e _ s m _ below meth c s.heap [] 0 0 _ _ ls ⟨B.exec, B.bytes, B.returns, hml, atoms_spec (ws := zWs y cc nL rt) B.pre, findClass_of_methodNamed B.named, B.notSynchronized, (name_of_methodNamed B.named B.method).1, ⟨?_, ?_⟩, hK⟩ hH va_S.rf hl (Nat.zero_add _) (Nat.zero_add _) ?_ ?_
  · exact Nat.le_refl _
  · exact Nat.le_refl _
  · exact Nat.le_refl _
  · exact Nat.le_refl _
theorem zW_none : zW G y cc nL rt ev d pc l st h none := fun _ _ hX => by cases hX
/-- a step that leaves the heap -/
theorem zlift {pc' : Nat} {l' : List (Nat × Value)} {st' : List Value}
    (hst : ∀ (p : Program) (e : Env) (R : Room) (s : State) (m : MethodId) (args : Array Value) (below : List Frame) (meth : Method) (c : Code) (H : Heap) (locs : List Loc) (cells slots : Nat) (Q : State → Prop) (ls : Array Slot), zCx G y cc nL rt d p R s m args meth c → zHR G h H → va_S (zA G) s.heap H locs → lv_has ls nL l →
      (∀ ls', lv_has ls' nL l' → W p G.1 e R s m args below meth c H locs cells slots Q (F0 m pc' ls' st')) → W p G.1 e R s m args below meth c H locs cells slots Q (F0 m pc ls st))
    (k : zW G y cc nL rt ev d pc' l' st' h X) : zW G y cc nL rt ev d pc l st h X := by
  intro r h' hX
  obtain ⟨b1, b2, kk⟩ := k r h' hX
  refine ⟨b1, b2, fun p e R s m args below meth c H locs cells slots mc ms ls hC hH hS hl hc hs h1 h2 => ?_⟩
  exact hst p e R s m args below meth c H locs cells slots _ ls hC hH hS hl (fun ls' hl' => kk p e R s m args below meth c H locs cells slots mc ms ls' hC hH hS hl' hc hs h1 h2)
/-- fewer locals, in any order -/
theorem zi_sub {l' : List (Nat × Value)} (ks : List Nat) (hl : lv_pick l ks = l') (k : zW G y cc nL rt ev d pc l' st h X) : zW G y cc nL rt ev d pc l st h X := by
  intro r h' hX
  obtain ⟨b1, b2, kk⟩ := k r h' hX
  exact ⟨b1, b2, fun p e R s m args below meth c H locs cells slots mc ms ls hC hH hS hl0 hc hs h1 h2 => kk p e R s m args below meth c H locs cells slots mc ms ls hC hH hS (lv_sub hl0 ks hl) hc hs h1 h2⟩
theorem zi_iconst {n : Int} {v : Int32} (hd : decode cc pc = .ok (.iconst n, 1)) (hv : Int32.ofInt n = v) (k : zW G y cc nL rt ev d (pc + 1) l (.int v :: st) h X) : zW G y cc nL rt ev d pc l st h X := zlift (fun _ _ _ _ _ _ _ _ _ _ _ _ _ _ ls hC _ _ hl k => lv_iconst hC.1 hC.2.1 hd hv (k ls hl)) k
theorem zi_bipush {n : Int} {v : Int32} (hd : decode cc pc = .ok (.bipush n, 2)) (hv : (Int8.ofInt n).toInt32 = v) (k : zW G y cc nL rt ev d (pc + 2) l (.int v :: st) h X) : zW G y cc nL rt ev d pc l st h X := zlift (fun _ _ _ _ _ _ _ _ _ _ _ _ _ _ ls hC _ _ hl k => lv_bipush hC.1 hC.2.1 hd hv (k ls hl)) k
theorem zi_sipush {n : Int} {v : Int32} (hd : decode cc pc = .ok (.sipush n, 3)) (hv : (Int16.ofInt n).toInt32 = v) (k : zW G y cc nL rt ev d (pc + 3) l (.int v :: st) h X) : zW G y cc nL rt ev d pc l st h X := zlift (fun _ _ _ _ _ _ _ _ _ _ _ _ _ _ ls hC _ _ hl k => lv_sipush hC.1 hC.2.1 hd hv (k ls hl)) k
theorem zi_lconst {n : Fin 2} {v : Int64} (hd : decode cc pc = .ok (.lconst n, 1)) (hv : Int64.ofNat (n : Nat) = v) (k : zW G y cc nL rt ev d (pc + 1) l (.long v :: st) h X) : zW G y cc nL rt ev d pc l st h X := zlift (fun _ _ _ _ _ _ _ _ _ _ _ _ _ _ ls hC _ _ hl k => lv_lconst hC.1 hC.2.1 hd hv (k ls hl)) k
theorem zi_ldc {idx : Nat} {v : Int32} (hd : decode cc pc = .ok (.ldc idx, 2)) (hw : Cond.constant y.cls idx v ∈ zT) (k : zW G y cc nL rt ev d (pc + 2) l (.int v :: st) h X) : zW G y cc nL rt ev d pc l st h X := zlift (fun _ _ _ _ _ _ _ _ _ _ _ _ _ _ ls hC _ _ hl k => lv_ldc hC.1 hC.2.1 hC.2.2.2.2.2.1 (hC.2.2.2.2.1 _ (List.mem_cons_of_mem _ hw)) hd (k ls hl)) k
theorem zi_ldcw {idx : Nat} {v : Int32} (hd : decode cc pc = .ok (.ldc_w idx, 3)) (hw : Cond.constant y.cls idx v ∈ zT) (k : zW G y cc nL rt ev d (pc + 3) l (.int v :: st) h X) : zW G y cc nL rt ev d pc l st h X := zlift (fun _ _ _ _ _ _ _ _ _ _ _ _ _ _ ls hC _ _ hl k => lv_ldcw hC.1 hC.2.1 hC.2.2.2.2.2.1 (hC.2.2.2.2.1 _ (List.mem_cons_of_mem _ hw)) hd (k ls hl)) k
theorem zi_ldc2 {idx : Nat} {v : Int64} (hd : decode cc pc = .ok (.ldc2_w idx, 3)) (hw : Cond.constantLong y.cls idx v ∈ zT) (k : zW G y cc nL rt ev d (pc + 3) l (.long v :: st) h X) : zW G y cc nL rt ev d pc l st h X := zlift (fun _ _ _ _ _ _ _ _ _ _ _ _ _ _ ls hC _ _ hl k => lv_ldc2 hC.1 hC.2.1 hC.2.2.2.2.2.1 (hC.2.2.2.2.1 _ (List.mem_cons_of_mem _ hw)) hd (k ls hl)) k
theorem zi_iload_n {k' : Fin 4} {i : Nat} {x : Int32} (hd : decode cc pc = .ok (.iload_n k', 1)) (hi : (k' : Nat) = i) (j : Nat) (hj : l[j]? = some (i, .int x)) (k : zW G y cc nL rt ev d (pc + 1) l (.int x :: st) h X) : zW G y cc nL rt ev d pc l st h X := zlift (fun _ _ _ _ _ _ _ _ _ _ _ _ _ _ ls hC _ _ hl k => lv_iload_n hC.1 hC.2.1 hd hi (lv_at hl j hj) (k ls hl)) k
theorem zi_iload {i : Nat} {x : Int32} (hd : decode cc pc = .ok (.iload i, 2)) (j : Nat) (hj : l[j]? = some (i, .int x)) (k : zW G y cc nL rt ev d (pc + 2) l (.int x :: st) h X) : zW G y cc nL rt ev d pc l st h X := zlift (fun _ _ _ _ _ _ _ _ _ _ _ _ _ _ ls hC _ _ hl k => lv_iload hC.1 hC.2.1 hd (lv_at hl j hj) (k ls hl)) k
theorem zi_lload_n {k' : Fin 4} {i : Nat} {x : Int64} (hd : decode cc pc = .ok (.lload_n k', 1)) (hi : (k' : Nat) = i) (j : Nat) (hj : l[j]? = some (i, .long x)) (k : zW G y cc nL rt ev d (pc + 1) l (.long x :: st) h X) : zW G y cc nL rt ev d pc l st h X := zlift (fun _ _ _ _ _ _ _ _ _ _ _ _ _ _ ls hC _ _ hl k => lv_lload_n hC.1 hC.2.1 hd hi (lv_at hl j hj) (k ls hl)) k
theorem zi_lload {i : Nat} {x : Int64} (hd : decode cc pc = .ok (.lload i, 2)) (j : Nat) (hj : l[j]? = some (i, .long x)) (k : zW G y cc nL rt ev d (pc + 2) l (.long x :: st) h X) : zW G y cc nL rt ev d pc l st h X := zlift (fun _ _ _ _ _ _ _ _ _ _ _ _ _ _ ls hC _ _ hl k => lv_lload hC.1 hC.2.1 hd (lv_at hl j hj) (k ls hl)) k
theorem zi_aload_n {k' : Fin 4} {i : Nat} {x : Nat} (hd : decode cc pc = .ok (.aload_n k', 1)) (hi : (k' : Nat) = i) (j : Nat) (hj : l[j]? = some (i, .ref x)) (k : zW G y cc nL rt ev d (pc + 1) l (.ref x :: st) h X) : zW G y cc nL rt ev d pc l st h X := zlift (fun _ _ _ _ _ _ _ _ _ _ _ _ _ _ ls hC _ _ hl k => lv_aload_n hC.1 hC.2.1 hd hi (lv_at hl j hj) (k ls hl)) k
theorem zi_aload {i : Nat} {x : Nat} (hd : decode cc pc = .ok (.aload i, 2)) (j : Nat) (hj : l[j]? = some (i, .ref x)) (k : zW G y cc nL rt ev d (pc + 2) l (.ref x :: st) h X) : zW G y cc nL rt ev d pc l st h X := zlift (fun _ _ _ _ _ _ _ _ _ _ _ _ _ _ ls hC _ _ hl k => lv_aload hC.1 hC.2.1 hd (lv_at hl j hj) (k ls hl)) k
theorem zi_aload_nz {k' : Fin 4} {i : Nat} {x : Nat} (hd : decode cc pc = .ok (.aload_n k', 1)) (hi : (k' : Nat) = i) (j : Nat) (hj : l[j]? = some (i, zrf G x)) (k : zW G y cc nL rt ev d (pc + 1) l (zrf G x :: st) h X) : zW G y cc nL rt ev d pc l st h X := zlift (fun _ _ _ _ _ _ _ _ _ _ _ _ _ _ ls hC _ _ hl k => by
  have h1 := lv_at hl j hj
  have h2 := k ls hl
  unfold zrf at h1 h2
  by_cases h0 : x = 0
  · rw [if_pos h0] at h1 h2
    exact lv_aload_nN hC.1 hC.2.1 hd hi h1 h2
  · rw [if_neg h0] at h1 h2
    exact lv_aload_n hC.1 hC.2.1 hd hi h1 h2) k
theorem zi_istore_n {k' : Fin 4} {i : Nat} {x : Int32} {l' : List (Nat × Value)} (hd : decode cc pc = .ok (.istore_n k', 1)) (hi : (k' : Nat) = i) (hn : i < nL) (hl' : (i, Value.int x) :: l.filter (fun q => !(q.1 == i) && !(q.1 + 1 == i && q.2.category == 2)) = l') (k : zW G y cc nL rt ev d (pc + 1) l' st h X) : zW G y cc nL rt ev d pc l (.int x :: st) h X := zlift (fun _ _ _ _ _ _ _ _ _ _ _ _ _ _ ls hC _ _ hl k => lv_istore_n hC.1 hC.2.1 hd hi hl hn hl' k) k
theorem zi_istore {i : Nat} {x : Int32} {l' : List (Nat × Value)} (hd : decode cc pc = .ok (.istore i, 2)) (hn : i < nL) (hl' : (i, Value.int x) :: l.filter (fun q => !(q.1 == i) && !(q.1 + 1 == i && q.2.category == 2)) = l') (k : zW G y cc nL rt ev d (pc + 2) l' st h X) : zW G y cc nL rt ev d pc l (.int x :: st) h X := zlift (fun _ _ _ _ _ _ _ _ _ _ _ _ _ _ ls hC _ _ hl k => lv_istore hC.1 hC.2.1 hd hl hn hl' k) k
theorem zi_lstore_n {k' : Fin 4} {i : Nat} {x : Int64} {l' : List (Nat × Value)} (hd : decode cc pc = .ok (.lstore_n k', 1)) (hi : (k' : Nat) = i) (hn : i + 1 < nL) (hl' : (i, Value.long x) :: l.filter (fun q => !(q.1 == i) && (!(q.1 == i + 1) && !(q.1 + 1 == i && q.2.category == 2))) = l') (k : zW G y cc nL rt ev d (pc + 1) l' st h X) : zW G y cc nL rt ev d pc l (.long x :: st) h X := zlift (fun _ _ _ _ _ _ _ _ _ _ _ _ _ _ ls hC _ _ hl k => lv_lstore_n hC.1 hC.2.1 hd hi hl hn hl' k) k
theorem zi_lstore {i : Nat} {x : Int64} {l' : List (Nat × Value)} (hd : decode cc pc = .ok (.lstore i, 2)) (hn : i + 1 < nL) (hl' : (i, Value.long x) :: l.filter (fun q => !(q.1 == i) && (!(q.1 == i + 1) && !(q.1 + 1 == i && q.2.category == 2))) = l') (k : zW G y cc nL rt ev d (pc + 2) l' st h X) : zW G y cc nL rt ev d pc l (.long x :: st) h X := zlift (fun _ _ _ _ _ _ _ _ _ _ _ _ _ _ ls hC _ _ hl k => lv_lstore hC.1 hC.2.1 hd hl hn hl' k) k
theorem zi_astore_n {k' : Fin 4} {i : Nat} {x : Nat} {l' : List (Nat × Value)} (hd : decode cc pc = .ok (.astore_n k', 1)) (hi : (k' : Nat) = i) (hn : i < nL) (hl' : (i, Value.ref x) :: l.filter (fun q => !(q.1 == i) && !(q.1 + 1 == i && q.2.category == 2)) = l') (k : zW G y cc nL rt ev d (pc + 1) l' st h X) : zW G y cc nL rt ev d pc l (.ref x :: st) h X := zlift (fun _ _ _ _ _ _ _ _ _ _ _ _ _ _ ls hC _ _ hl k => lv_astore_n hC.1 hC.2.1 hd hi hl hn hl' k) k
theorem zi_astore {i : Nat} {x : Nat} {l' : List (Nat × Value)} (hd : decode cc pc = .ok (.astore i, 2)) (hn : i < nL) (hl' : (i, Value.ref x) :: l.filter (fun q => !(q.1 == i) && !(q.1 + 1 == i && q.2.category == 2)) = l') (k : zW G y cc nL rt ev d (pc + 2) l' st h X) : zW G y cc nL rt ev d pc l (.ref x :: st) h X := zlift (fun _ _ _ _ _ _ _ _ _ _ _ _ _ _ ls hC _ _ hl k => lv_astore hC.1 hC.2.1 hd hl hn hl' k) k
theorem zi_astore_nz {k' : Fin 4} {i : Nat} {x : Nat} {l' : List (Nat × Value)} (hd : decode cc pc = .ok (.astore_n k', 1)) (hi : (k' : Nat) = i) (hn : i < nL) (hl' : (i, zrf G x) :: l.filter (fun q => !(q.1 == i) && !(q.1 + 1 == i && q.2.category == 2)) = l') (k : zW G y cc nL rt ev d (pc + 1) l' st h X) : zW G y cc nL rt ev d pc l (zrf G x :: st) h X := zlift (fun _ _ _ _ _ _ _ _ _ _ _ _ _ _ ls hC _ _ hl k => by
  unfold zrf at hl' ⊢
  by_cases h0 : x = 0
  · rw [if_pos h0] at hl' ⊢
    exact lv_astore_nN hC.1 hC.2.1 hd hi hl hn hl' k
  · rw [if_neg h0] at hl' ⊢
    exact lv_astore_n hC.1 hC.2.1 hd hi hl hn hl' k) k
theorem zi_iinc {i j : Nat} {n : Int} {x v : Int32} {l' : List (Nat × Value)} (hd : decode cc pc = .ok (.iinc i n, 3)) (hj : l[j]? = some (i, .int x)) (hv : x + Int32.ofInt n = v) (hn : i < nL) (hl' : (i, Value.int v) :: l.filter (fun q => !(q.1 == i) && !(q.1 + 1 == i && q.2.category == 2)) = l') (k : zW G y cc nL rt ev d (pc + 3) l' st h X) : zW G y cc nL rt ev d pc l st h X := zlift (fun _ _ _ _ _ _ _ _ _ _ _ _ _ _ ls hC _ _ hl k => lv_iinc hC.1 hC.2.1 hd hl hj hv hn hl' k) k
theorem zi_iadd {x y0 : Int32} (hd : decode cc pc = .ok (.iadd, 1)) (k : zW G y cc nL rt ev d (pc + 1) l (.int (x + y0) :: st) h X) : zW G y cc nL rt ev d pc l (.int y0 :: .int x :: st) h X := zlift (fun _ _ _ _ _ _ _ _ _ _ _ _ _ _ ls hC _ _ hl k => lv_iadd hC.1 hC.2.1 hd (k ls hl)) k
theorem zi_isub {x y0 : Int32} (hd : decode cc pc = .ok (.isub, 1)) (k : zW G y cc nL rt ev d (pc + 1) l (.int (x - y0) :: st) h X) : zW G y cc nL rt ev d pc l (.int y0 :: .int x :: st) h X := zlift (fun _ _ _ _ _ _ _ _ _ _ _ _ _ _ ls hC _ _ hl k => lv_isub hC.1 hC.2.1 hd (k ls hl)) k
theorem zi_imul {x y0 : Int32} (hd : decode cc pc = .ok (.imul, 1)) (k : zW G y cc nL rt ev d (pc + 1) l (.int (x * y0) :: st) h X) : zW G y cc nL rt ev d pc l (.int y0 :: .int x :: st) h X := zlift (fun _ _ _ _ _ _ _ _ _ _ _ _ _ _ ls hC _ _ hl k => lv_imul hC.1 hC.2.1 hd (k ls hl)) k
theorem zi_iand {x y0 : Int32} (hd : decode cc pc = .ok (.iand, 1)) (k : zW G y cc nL rt ev d (pc + 1) l (.int (x &&& y0) :: st) h X) : zW G y cc nL rt ev d pc l (.int y0 :: .int x :: st) h X := zlift (fun _ _ _ _ _ _ _ _ _ _ _ _ _ _ ls hC _ _ hl k => lv_iand hC.1 hC.2.1 hd (k ls hl)) k
theorem zi_ior {x y0 : Int32} (hd : decode cc pc = .ok (.ior, 1)) (k : zW G y cc nL rt ev d (pc + 1) l (.int (x ||| y0) :: st) h X) : zW G y cc nL rt ev d pc l (.int y0 :: .int x :: st) h X := zlift (fun _ _ _ _ _ _ _ _ _ _ _ _ _ _ ls hC _ _ hl k => lv_ior hC.1 hC.2.1 hd (k ls hl)) k
theorem zi_ixor {x y0 : Int32} (hd : decode cc pc = .ok (.ixor, 1)) (k : zW G y cc nL rt ev d (pc + 1) l (.int (x ^^^ y0) :: st) h X) : zW G y cc nL rt ev d pc l (.int y0 :: .int x :: st) h X := zlift (fun _ _ _ _ _ _ _ _ _ _ _ _ _ _ ls hC _ _ hl k => lv_ixor hC.1 hC.2.1 hd (k ls hl)) k
theorem zi_ishl {x y0 : Int32} (hd : decode cc pc = .ok (.ishl, 1)) (k : zW G y cc nL rt ev d (pc + 1) l (.int (x <<< (y0 &&& 31)) :: st) h X) : zW G y cc nL rt ev d pc l (.int y0 :: .int x :: st) h X := zlift (fun _ _ _ _ _ _ _ _ _ _ _ _ _ _ ls hC _ _ hl k => lv_ishl hC.1 hC.2.1 hd (k ls hl)) k
theorem zi_ishr {x y0 : Int32} (hd : decode cc pc = .ok (.ishr, 1)) (k : zW G y cc nL rt ev d (pc + 1) l (.int (x >>> (y0 &&& 31)) :: st) h X) : zW G y cc nL rt ev d pc l (.int y0 :: .int x :: st) h X := zlift (fun _ _ _ _ _ _ _ _ _ _ _ _ _ _ ls hC _ _ hl k => lv_ishr hC.1 hC.2.1 hd (k ls hl)) k
theorem zi_iushr {x y0 : Int32} (hd : decode cc pc = .ok (.iushr, 1)) (k : zW G y cc nL rt ev d (pc + 1) l (.int ((x.toUInt32 >>> (y0.toUInt32 &&& Int32.toUInt32 31)).toInt32) :: st) h X) : zW G y cc nL rt ev d pc l (.int y0 :: .int x :: st) h X := zlift (fun _ _ _ _ _ _ _ _ _ _ _ _ _ _ ls hC _ _ hl k => lv_iushr hC.1 hC.2.1 hd rfl (k ls hl)) k
theorem zi_idiv {x y0 : Int32} (hd : decode cc pc = .ok (.idiv, 1)) (hne : ¬ y0 = 0) (k : zW G y cc nL rt ev d (pc + 1) l (.int (x / y0) :: st) h X) : zW G y cc nL rt ev d pc l (.int y0 :: .int x :: st) h X := zlift (fun _ _ _ _ _ _ _ _ _ _ _ _ _ _ ls hC _ _ hl k => lv_idiv hC.1 hC.2.1 hd hne (k ls hl)) k
theorem zi_irem {x y0 : Int32} (hd : decode cc pc = .ok (.irem, 1)) (hne : ¬ y0 = 0) (k : zW G y cc nL rt ev d (pc + 1) l (.int (x - x / y0 * y0) :: st) h X) : zW G y cc nL rt ev d pc l (.int y0 :: .int x :: st) h X := zlift (fun _ _ _ _ _ _ _ _ _ _ _ _ _ _ ls hC _ _ hl k => lv_irem hC.1 hC.2.1 hd hne (k ls hl)) k
theorem zi_ladd {x y0 : Int64} (hd : decode cc pc = .ok (.ladd, 1)) (k : zW G y cc nL rt ev d (pc + 1) l (.long (x + y0) :: st) h X) : zW G y cc nL rt ev d pc l (.long y0 :: .long x :: st) h X := zlift (fun _ _ _ _ _ _ _ _ _ _ _ _ _ _ ls hC _ _ hl k => lv_ladd hC.1 hC.2.1 hd (k ls hl)) k
theorem zi_lsub {x y0 : Int64} (hd : decode cc pc = .ok (.lsub, 1)) (k : zW G y cc nL rt ev d (pc + 1) l (.long (x - y0) :: st) h X) : zW G y cc nL rt ev d pc l (.long y0 :: .long x :: st) h X := zlift (fun _ _ _ _ _ _ _ _ _ _ _ _ _ _ ls hC _ _ hl k => lv_lsub hC.1 hC.2.1 hd (k ls hl)) k
theorem zi_lmul {x y0 : Int64} (hd : decode cc pc = .ok (.lmul, 1)) (k : zW G y cc nL rt ev d (pc + 1) l (.long (x * y0) :: st) h X) : zW G y cc nL rt ev d pc l (.long y0 :: .long x :: st) h X := zlift (fun _ _ _ _ _ _ _ _ _ _ _ _ _ _ ls hC _ _ hl k => lv_lmul hC.1 hC.2.1 hd (k ls hl)) k
theorem zi_ldiv {x y0 : Int64} (hd : decode cc pc = .ok (.ldiv, 1)) (hne : ¬ y0 = 0) (k : zW G y cc nL rt ev d (pc + 1) l (.long (x / y0) :: st) h X) : zW G y cc nL rt ev d pc l (.long y0 :: .long x :: st) h X := zlift (fun _ _ _ _ _ _ _ _ _ _ _ _ _ _ ls hC _ _ hl k => lv_ldiv hC.1 hC.2.1 hd hne (k ls hl)) k
theorem zi_lrem {x y0 : Int64} (hd : decode cc pc = .ok (.lrem, 1)) (hne : ¬ y0 = 0) (k : zW G y cc nL rt ev d (pc + 1) l (.long (x - x / y0 * y0) :: st) h X) : zW G y cc nL rt ev d pc l (.long y0 :: .long x :: st) h X := zlift (fun _ _ _ _ _ _ _ _ _ _ _ _ _ _ ls hC _ _ hl k => lv_lrem hC.1 hC.2.1 hd hne (k ls hl)) k
theorem zi_lcmp {x y0 : Int64} (hd : decode cc pc = .ok (.lcmp, 1)) (k : zW G y cc nL rt ev d (pc + 1) l (.int (lg_cmp x y0) :: st) h X) : zW G y cc nL rt ev d pc l (.long y0 :: .long x :: st) h X := zlift (fun _ _ _ _ _ _ _ _ _ _ _ _ _ _ ls hC _ _ hl k => W.lcmp hC.1 hC.2.1 hd (k ls hl)) k
theorem zi_ineg {x : Int32} (hd : decode cc pc = .ok (.ineg, 1)) (k : zW G y cc nL rt ev d (pc + 1) l (.int (-x) :: st) h X) : zW G y cc nL rt ev d pc l (.int x :: st) h X := zlift (fun _ _ _ _ _ _ _ _ _ _ _ _ _ _ ls hC _ _ hl k => lv_ineg hC.1 hC.2.1 hd (k ls hl)) k
theorem zi_i2l {x : Int32} (hd : decode cc pc = .ok (.i2l, 1)) (k : zW G y cc nL rt ev d (pc + 1) l (.long (x.toInt64) :: st) h X) : zW G y cc nL rt ev d pc l (.int x :: st) h X := zlift (fun _ _ _ _ _ _ _ _ _ _ _ _ _ _ ls hC _ _ hl k => lv_i2l hC.1 hC.2.1 hd rfl (k ls hl)) k
theorem zi_l2i {x : Int64} (hd : decode cc pc = .ok (.l2i, 1)) (k : zW G y cc nL rt ev d (pc + 1) l (.int (x.toInt32) :: st) h X) : zW G y cc nL rt ev d pc l (.long x :: st) h X := zlift (fun _ _ _ _ _ _ _ _ _ _ _ _ _ _ ls hC _ _ hl k => lv_l2i hC.1 hC.2.1 hd rfl (k ls hl)) k
theorem zi_i2b {x : Int32} (hd : decode cc pc = .ok (.i2b, 1)) (k : zW G y cc nL rt ev d (pc + 1) l (.int (x.toInt8.toInt32) :: st) h X) : zW G y cc nL rt ev d pc l (.int x :: st) h X := zlift (fun _ _ _ _ _ _ _ _ _ _ _ _ _ _ ls hC _ _ hl k => lv_i2b hC.1 hC.2.1 hd rfl (k ls hl)) k
theorem zi_dup {v : Value} (hd : decode cc pc = .ok (.dup, 1)) (hv : v.category = 1) (k : zW G y cc nL rt ev d (pc + 1) l (v :: v :: st) h X) : zW G y cc nL rt ev d pc l (v :: st) h X := zlift (fun _ _ _ _ _ _ _ _ _ _ _ _ _ _ ls hC _ _ hl k => lv_dup hC.1 hC.2.1 hd hv (k ls hl)) k
theorem zi_pop {v : Value} (hd : decode cc pc = .ok (.pop, 1)) (hv : v.category = 1) (k : zW G y cc nL rt ev d (pc + 1) l (st) h X) : zW G y cc nL rt ev d pc l (v :: st) h X := zlift (fun _ _ _ _ _ _ _ _ _ _ _ _ _ _ ls hC _ _ hl k => lv_pop hC.1 hC.2.1 hd hv (k ls hl)) k
theorem zi_dup2 {v w : Value} (hd : decode cc pc = .ok (.dup2, 1)) (hv : v.category = 1) (hw : w.category = 1) (k : zW G y cc nL rt ev d (pc + 1) l (v :: w :: v :: w :: st) h X) : zW G y cc nL rt ev d pc l (v :: w :: st) h X := zlift (fun _ _ _ _ _ _ _ _ _ _ _ _ _ _ ls hC _ _ hl k => lv_dup2_11 hC.1 hC.2.1 hd hv hw (k ls hl)) k
theorem zi_dup2l {v : Value} (hd : decode cc pc = .ok (.dup2, 1)) (hv : v.category = 2) (k : zW G y cc nL rt ev d (pc + 1) l (v :: v :: st) h X) : zW G y cc nL rt ev d pc l (v :: st) h X := zlift (fun _ _ _ _ _ _ _ _ _ _ _ _ _ _ ls hC _ _ hl k => lv_dup2_2 hC.1 hC.2.1 hd hv (k ls hl)) k
theorem zi_null (hd : decode cc pc = .ok (.aconst_null, 1)) (k : zW G y cc nL rt ev d (pc + 1) l (.null :: st) h X) : zW G y cc nL rt ev d pc l (st) h X := zlift (fun _ _ _ _ _ _ _ _ _ _ _ _ _ _ ls hC _ _ hl k => lv_null hC.1 hC.2.1 hd (k ls hl)) k
theorem zi_goto {off : Int} {tgt : Nat} (hd : decode cc pc = .ok (.goto off, 3)) (ht : (pc : Int) + off = (tgt : Int)) (k : zW G y cc nL rt ev d tgt l st h X) : zW G y cc nL rt ev d pc l st h X := zlift (fun _ _ _ _ _ _ _ _ _ _ _ _ _ _ ls hC _ _ hl k => lv_goto hC.1 hC.2.1 hd ht (k ls hl)) k
theorem zif {c : Prop} [Decidable c] {X1 X2 : Option (α × zH)} {pc1 pc2 : Nat} {l1 l2 : List (Nat × Value)} {st1 st2 : List Value}
    (hst : ∀ (p : Program) (e : Env) (R : Room) (s : State) (m : MethodId) (args : Array Value) (below : List Frame) (meth : Method) (c0 : Code) (H : Heap) (locs : List Loc) (cells slots : Nat) (Q : State → Prop) (ls : Array Slot), zCx G y cc nL rt d p R s m args meth c0 → zHR G h H → va_S (zA G) s.heap H locs → lv_has ls nL l →
      (c → lv_has ls nL l1 → W p G.1 e R s m args below meth c0 H locs cells slots Q (F0 m pc1 ls st1)) → (¬ c → lv_has ls nL l2 → W p G.1 e R s m args below meth c0 H locs cells slots Q (F0 m pc2 ls st2)) → W p G.1 e R s m args below meth c0 H locs cells slots Q (F0 m pc ls st))
    (k1 : zW G y cc nL rt ev d pc1 l1 st1 h X1) (k2 : zW G y cc nL rt ev d pc2 l2 st2 h X2) : zW G y cc nL rt ev d pc l st h (if c then X1 else X2) := by
  intro r h' hX
  by_cases hc0 : c
  · rw [if_pos hc0] at hX
    obtain ⟨b1, b2, kk⟩ := k1 r h' hX
    refine ⟨b1, b2, fun p e R s m args below meth c0 H locs cells slots mc ms ls hC hH hS hl hc hs h1 h2 => ?_⟩
    exact hst p e R s m args below meth c0 H locs cells slots _ ls hC hH hS hl (fun _ hl1 => kk p e R s m args below meth c0 H locs cells slots mc ms ls hC hH hS hl1 hc hs h1 h2) (fun q => absurd hc0 q)
  · rw [if_neg hc0] at hX
    obtain ⟨b1, b2, kk⟩ := k2 r h' hX
    refine ⟨b1, b2, fun p e R s m args below meth c0 H locs cells slots mc ms ls hC hH hS hl hc hs h1 h2 => ?_⟩
    exact hst p e R s m args below meth c0 H locs cells slots _ ls hC hH hS hl (fun q => absurd q hc0) (fun _ hl2 => kk p e R s m args below meth c0 H locs cells slots mc ms ls hC hH hS hl2 hc hs h1 h2)
theorem zi_if_eq {x : Int32} {off : Int} {tgt : Nat} {X1 X2 : Option (α × zH)} (hd : decode cc pc = .ok (.ifCond .eq off, 3)) (ht : (pc : Int) + off = (tgt : Int)) (k1 : zW G y cc nL rt ev d tgt l st h X1) (k2 : zW G y cc nL rt ev d (pc + 3) l st h X2) : zW G y cc nL rt ev d pc l (.int x :: st) h (if x = 0 then X1 else X2) := zif (fun _ _ _ _ _ _ _ _ _ _ _ _ _ _ ls hC _ _ hl k1 k2 => lv_if_eq hC.1 hC.2.1 hd ht (fun q => k1 q hl) (fun q => k2 q hl)) k1 k2
theorem zi_if_ne {x : Int32} {off : Int} {tgt : Nat} {X1 X2 : Option (α × zH)} (hd : decode cc pc = .ok (.ifCond .ne off, 3)) (ht : (pc : Int) + off = (tgt : Int)) (k1 : zW G y cc nL rt ev d tgt l st h X1) (k2 : zW G y cc nL rt ev d (pc + 3) l st h X2) : zW G y cc nL rt ev d pc l (.int x :: st) h (if x = 0 then X2 else X1) := zif (fun _ _ _ _ _ _ _ _ _ _ _ _ _ _ ls hC _ _ hl k2 k1 => lv_if_ne hC.1 hC.2.1 hd ht (fun q => k1 q hl) (fun q => k2 q hl)) k2 k1
theorem zi_if_lt {x : Int32} {off : Int} {tgt : Nat} {X1 X2 : Option (α × zH)} (hd : decode cc pc = .ok (.ifCond .lt off, 3)) (ht : (pc : Int) + off = (tgt : Int)) (k1 : zW G y cc nL rt ev d tgt l st h X1) (k2 : zW G y cc nL rt ev d (pc + 3) l st h X2) : zW G y cc nL rt ev d pc l (.int x :: st) h (if x < 0 then X1 else X2) := zif (fun _ _ _ _ _ _ _ _ _ _ _ _ _ _ ls hC _ _ hl k1 k2 => lv_if_lt hC.1 hC.2.1 hd ht (fun q => k1 q hl) (fun q => k2 q hl)) k1 k2
theorem zi_if_ge {x : Int32} {off : Int} {tgt : Nat} {X1 X2 : Option (α × zH)} (hd : decode cc pc = .ok (.ifCond .ge off, 3)) (ht : (pc : Int) + off = (tgt : Int)) (k1 : zW G y cc nL rt ev d tgt l st h X1) (k2 : zW G y cc nL rt ev d (pc + 3) l st h X2) : zW G y cc nL rt ev d pc l (.int x :: st) h (if 0 ≤ x then X1 else X2) := zif (fun _ _ _ _ _ _ _ _ _ _ _ _ _ _ ls hC _ _ hl k1 k2 => lv_if_ge hC.1 hC.2.1 hd ht (fun q => k1 q hl) (fun q => k2 q hl)) k1 k2
theorem zi_if_gt {x : Int32} {off : Int} {tgt : Nat} {X1 X2 : Option (α × zH)} (hd : decode cc pc = .ok (.ifCond .gt off, 3)) (ht : (pc : Int) + off = (tgt : Int)) (k1 : zW G y cc nL rt ev d tgt l st h X1) (k2 : zW G y cc nL rt ev d (pc + 3) l st h X2) : zW G y cc nL rt ev d pc l (.int x :: st) h (if 0 < x then X1 else X2) := zif (fun _ _ _ _ _ _ _ _ _ _ _ _ _ _ ls hC _ _ hl k1 k2 => lv_if_gt hC.1 hC.2.1 hd ht (fun q => k1 q hl) (fun q => k2 q hl)) k1 k2
theorem zi_if_le {x : Int32} {off : Int} {tgt : Nat} {X1 X2 : Option (α × zH)} (hd : decode cc pc = .ok (.ifCond .le off, 3)) (ht : (pc : Int) + off = (tgt : Int)) (k1 : zW G y cc nL rt ev d tgt l st h X1) (k2 : zW G y cc nL rt ev d (pc + 3) l st h X2) : zW G y cc nL rt ev d pc l (.int x :: st) h (if x ≤ 0 then X1 else X2) := zif (fun _ _ _ _ _ _ _ _ _ _ _ _ _ _ ls hC _ _ hl k1 k2 => lv_if_le hC.1 hC.2.1 hd ht (fun q => k1 q hl) (fun q => k2 q hl)) k1 k2
theorem zi_icmp_eq {x y0 : Int32} {off : Int} {tgt : Nat} {X1 X2 : Option (α × zH)} (hd : decode cc pc = .ok (.if_icmp .eq off, 3)) (ht : (pc : Int) + off = (tgt : Int)) (k1 : zW G y cc nL rt ev d tgt l st h X1) (k2 : zW G y cc nL rt ev d (pc + 3) l st h X2) : zW G y cc nL rt ev d pc l (.int y0 :: .int x :: st) h (if x = y0 then X1 else X2) := zif (fun _ _ _ _ _ _ _ _ _ _ _ _ _ _ ls hC _ _ hl k1 k2 => lv_icmp_eq hC.1 hC.2.1 hd ht (fun q => k1 q hl) (fun q => k2 q hl)) k1 k2
theorem zi_icmp_ne {x y0 : Int32} {off : Int} {tgt : Nat} {X1 X2 : Option (α × zH)} (hd : decode cc pc = .ok (.if_icmp .ne off, 3)) (ht : (pc : Int) + off = (tgt : Int)) (k1 : zW G y cc nL rt ev d tgt l st h X1) (k2 : zW G y cc nL rt ev d (pc + 3) l st h X2) : zW G y cc nL rt ev d pc l (.int y0 :: .int x :: st) h (if x = y0 then X2 else X1) := zif (fun _ _ _ _ _ _ _ _ _ _ _ _ _ _ ls hC _ _ hl k2 k1 => lv_icmp_ne hC.1 hC.2.1 hd ht (fun q => k1 q hl) (fun q => k2 q hl)) k2 k1
theorem zi_icmp_lt {x y0 : Int32} {off : Int} {tgt : Nat} {X1 X2 : Option (α × zH)} (hd : decode cc pc = .ok (.if_icmp .lt off, 3)) (ht : (pc : Int) + off = (tgt : Int)) (k1 : zW G y cc nL rt ev d tgt l st h X1) (k2 : zW G y cc nL rt ev d (pc + 3) l st h X2) : zW G y cc nL rt ev d pc l (.int y0 :: .int x :: st) h (if x < y0 then X1 else X2) := zif (fun _ _ _ _ _ _ _ _ _ _ _ _ _ _ ls hC _ _ hl k1 k2 => lv_icmp_lt hC.1 hC.2.1 hd ht (fun q => k1 q hl) (fun q => k2 q hl)) k1 k2
theorem zi_icmp_ge {x y0 : Int32} {off : Int} {tgt : Nat} {X1 X2 : Option (α × zH)} (hd : decode cc pc = .ok (.if_icmp .ge off, 3)) (ht : (pc : Int) + off = (tgt : Int)) (k1 : zW G y cc nL rt ev d tgt l st h X1) (k2 : zW G y cc nL rt ev d (pc + 3) l st h X2) : zW G y cc nL rt ev d pc l (.int y0 :: .int x :: st) h (if y0 ≤ x then X1 else X2) := zif (fun _ _ _ _ _ _ _ _ _ _ _ _ _ _ ls hC _ _ hl k1 k2 => lv_icmp_ge hC.1 hC.2.1 hd ht (fun q => k1 q hl) (fun q => k2 q hl)) k1 k2
theorem zi_icmp_gt {x y0 : Int32} {off : Int} {tgt : Nat} {X1 X2 : Option (α × zH)} (hd : decode cc pc = .ok (.if_icmp .gt off, 3)) (ht : (pc : Int) + off = (tgt : Int)) (k1 : zW G y cc nL rt ev d tgt l st h X1) (k2 : zW G y cc nL rt ev d (pc + 3) l st h X2) : zW G y cc nL rt ev d pc l (.int y0 :: .int x :: st) h (if y0 < x then X1 else X2) := zif (fun _ _ _ _ _ _ _ _ _ _ _ _ _ _ ls hC _ _ hl k1 k2 => lv_icmp_gt hC.1 hC.2.1 hd ht (fun q => k1 q hl) (fun q => k2 q hl)) k1 k2
theorem zi_icmp_le {x y0 : Int32} {off : Int} {tgt : Nat} {X1 X2 : Option (α × zH)} (hd : decode cc pc = .ok (.if_icmp .le off, 3)) (ht : (pc : Int) + off = (tgt : Int)) (k1 : zW G y cc nL rt ev d tgt l st h X1) (k2 : zW G y cc nL rt ev d (pc + 3) l st h X2) : zW G y cc nL rt ev d pc l (.int y0 :: .int x :: st) h (if x ≤ y0 then X1 else X2) := zif (fun _ _ _ _ _ _ _ _ _ _ _ _ _ _ ls hC _ _ hl k1 k2 => lv_icmp_le hC.1 hC.2.1 hd ht (fun q => k1 q hl) (fun q => k2 q hl)) k1 k2
end
