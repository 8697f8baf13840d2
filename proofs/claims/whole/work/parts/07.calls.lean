/-! calls, ends, switches -/
def zvI : Int32 → Option Value := fun r => some (.int r)
def zvL : Int64 → Option Value := fun r => some (.long r)
def zvR (G : zG) : Nat → Option Value := fun a => some (.ref (zbase G + a))
def zvN (G : zG) : Nat → Option Value := fun a => some (zrf G a)
def zvU : Unit → Option Value := fun _ => none
def zb {ρ β : Type} (Y : Option (β × zH)) (K : β → zH → Option ρ) : Option ρ := Y.bind (fun q => K q.1 q.2)
def zck {ρ : Type} (h : zH) (c a : Nat) (X : Option ρ) : Option ρ := if zsh h a = c then X else none
def zlt {ρ β : Type} (v : β) (K : β → Option ρ) : Option ρ := K v
def zrZ (v : Int32) (h : zH) : Option (Int32 × zH) := if v = 0 ∨ v = 1 then some (v, h) else none
def zswl {ρ : Type} (x : Int32) : List (Int32 × Nat × Option ρ) → Option ρ → Option ρ
  | [], Xd => Xd
  | q :: r, Xd => if x = q.1 then q.2.2 else zswl x r Xd
theorem zb_some {ρ β : Type} (r : β) (h : zH) (K : β → zH → Option ρ) : zb (some (r, h)) K = K r h := rfl
/-- what is known of a method: its words, how many parameters -/
def zMd (y : MethodName) (cc : ByteArray) (nL : Nat) (rt : Option FieldType) (n : Nat) : Prop := Cond.code y cc nL rt ∈ zT ∧ Cond.initialized y.cls ∈ zT ∧ (y.cls ≠ "java/lang/invoke/MethodHandle" ∧ y.cls ≠ "java/lang/invoke/VarHandle") ∧ (parseMethodDescriptor y.desc).map (fun d => d.parameters.length) = some n ∧ nL ≤ 44
def zMv (y : MethodName) : Prop := Cond.instanceMethod y ∈ zT ∧ Cond.selects y.cls y y ∈ zT
section
variable {G : zG} {y : MethodName} {cc : ByteArray} {nL : Nat} {rt : Option FieldType} {α : Type} {ev : α → Option Value} {d pc : Nat} {l : List (Nat × Value)} {st : List Value} {h : zH} {X : Option (α × zH)}
theorem zi_let {β : Type} {v : β} {sf : β → List Value} {K : β → Option (α × zH)} (kk : ∀ x, zW G y cc nL rt ev d pc l (sf x) h (K x)) : zW G y cc nL rt ev d pc l (sf v) h (zlt v K) := kk v
theorem zPc_blind {as : List Value} : FrameBlind (va_Pc as (fun U => zHR G h U.heap ∧ zKU G U)) := fun _ U _ _ q => ⟨q.1, q.2.1, zKU.same (u := U) rfl rfl q.2.2⟩
theorem zPc_at {p : Program} {R : Room} {s : State} {m : MethodId} {args : Array Value} {meth : Method} {c0 : Code} {H : Heap} {locs : List Loc} {as : List Value} (hC : zCx G y cc nL rt d p R s m args meth c0) (hH : zHR G h H) (hS : va_S (zA G) s.heap H locs) : ∀ U : State, U.heap = H → s.WarmedH U.vm → va_Pc as (fun U => zHR G h U.heap ∧ zKU G U) as.toArray U := fun U hU hW => ⟨rfl, by rw [hU]; exact hH, zKU.warm hW (by rw [hU]; exact hS.1) (by rw [hU]; exact hS.2.1) hC.2.2.2.2.2.2.2.2.2⟩
theorem zcall {y' : MethodName} {cc' : ByteArray} {nL' : Nat} {rt' : Option FieldType} {β : Type} {ev' : β → Option Value} {d' : Nat} {as stk rest : List Value} {Y : Option (β × zH)} {K : β → zH → Option (α × zH)} (hM : zMet G y' cc' nL' rt' ev' d' as h Y)
    (hrun : ∀ (p : Program) (e : Env) (R : Room) (s : State) (m : MethodId) (args : Array Value) (below : List Frame) (meth : Method) (c0 : Code) (H : Heap) (locs : List Loc) (cells slots mc ms : Nat) (ls : Array Slot) (Qc : Array Value → State → Outcome → State → Prop), zCx G y cc nL rt d p R s m args meth c0 → zHR G h H → va_S (zA G) s.heap H locs → lv_has ls nL l →
      Met G.1 y' (zWs y' cc' nL' rt') (zrm d' mc ms) (va_Pc as (fun U => zHR G h U.heap ∧ zKU G U)) Qc mc ms (zA G) → cells + mc ≤ R.cells → slots + ms ≤ R.slots → va_Run p G.1 e R s m args below meth c0 H locs cells slots mc ms (F0 m pc ls stk) rest (Qc as.toArray) (zA G))
    (kk : ∀ r h1, zW G y cc nL rt ev d (pc + 3) l ((ev' r).toList ++ rest) h1 (K r h1)) : zW G y cc nL rt ev d pc l stk h (zb Y K) := by
  intro r h' hX
  cases hY : Y with
  | none => rw [hY] at hX; cases hX
  | some q =>
    obtain ⟨q, h1⟩ := q
    rw [hY, zb_some] at hX
    obtain ⟨b1, b2, hMet⟩ := hM q h1 hY
    obtain ⟨c1, c2, kk⟩ := kk q h1 r h' hX
    refine ⟨Nat.le_trans b1 c1, Nat.le_trans b2 c2, fun p e R s m args below meth c0 H locs cells slots mc ms ls hC hH hS hl hc hs g1 g2 => ?_⟩
    intro T hT X0
    obtain ⟨v, st₀, t, T', L, h0, X', hL, e1, e2, hq, stp⟩ := hrun p e R s m args below meth c0 H locs cells slots _ _ ls _ hC hH hS hl hMet (by omega) (by omega) T hT X0
    obtain ⟨hv, hH1, hz, hk⟩ := hq
    have hv : v = ev' q := Outcome.returned.inj hv
    subst hv
    rw [h0] at hz hk
    obtain ⟨t2, a1, b1⟩ := kk p e R s m args below meth c0 T'.heap (locs ++ L) _ _ mc ms ls hC (by rw [e1]; exact hH1)
      ⟨Nat.le_trans hS.1 (by rw [e1]; exact hz), fun q h1 h2 => by rw [e1, hk q (Nat.lt_of_lt_of_le h1 hS.1) h2]; exact hS.2.1 q h1 h2, fun q hq => by
        rcases List.mem_append.mp hq with h | h
        · exact hS.2.2 q h
        · exact hL q h⟩ hl (by omega) (by omega) g1 g2 T' rfl X'
    exact ⟨t2, stp t2 a1, b1⟩
theorem zGoodV {y' : MethodName} {cc' : ByteArray} {nL' n idx : Nat} {rt' : Option FieldType} (hw : Cond.methodLink y.cls idx y' ∈ zT) (hm : zMd y' cc' nL' rt' n) (hv : zMv y') : GoodIn (zWs y cc nL rt) (wsV y.cls idx y'.cls y' (zWs y' cc' nL' rt')) := by
  intro w hw0
  have h1 : w ∈ zT := by
    simp only [wsV, List.mem_append, List.mem_cons, List.not_mem_nil, or_false] at hw0
    rcases hw0 with (h | h | h | h) | h
    · rw [h]; exact hw
    · rw [h]; exact hv.1
    · rw [h]; exact hv.2
    · rw [h]; exact hm.2.1
    · rcases List.mem_cons.mp h with q | q
      · rw [q]; exact hm.1
      · exact q
  exact ⟨List.mem_cons_of_mem _ h1, good_of_word (List.mem_filter.mp h1).2⟩
theorem zroom {d' nL' mc ms : Nat} {R : Room} (hd : d' + 1 ≤ d) (hn : nL' ≤ 44) (hR : d ≤ R.frames ∧ 64 * d ≤ R.locals) : (zrm d' mc ms).frames + 1 ≤ R.frames ∧ 8 + (nL' + 11) + (zrm d' mc ms).locals ≤ R.locals := by
  refine ⟨Nat.le_trans hd hR.1, ?_⟩
  show 8 + (nL' + 11) + 64 * d' ≤ R.locals
  have := hR.2
  omega
theorem zi_callV {y' : MethodName} {cc' : ByteArray} {nL' : Nat} {rt' : Option FieldType} {β : Type} {ev' : β → Option Value} {d' idx ci n a : Nat} {As stk rest : List Value} {Y : Option (β × zH)} {K : β → zH → Option (α × zH)} (hd : decode cc pc = .ok (.invokevirtual idx, 3)) (hw : Cond.methodLink y.cls idx y' ∈ zT) (hm : zMd y' cc' nL' rt' n) (hv : zMv y') (hci : (vwCl[ci]?).map (fun q => q.1) = some y'.cls) (hi : ci < 19) (hn : As.length = n) (hst : stk = As.reverse ++ .ref (zbase G + a) :: rest) (hrest : (rest.map fun v => v.category).sum ≤ 8) (hdd : d' + 1 ≤ d) (hM : zMet G y' cc' nL' rt' ev' d' (.ref (zbase G + a) :: As) h Y)
    (kk : ∀ r h1, zW G y cc nL rt ev d (pc + 3) l ((ev' r).toList ++ rest) h1 (K r h1)) : zW G y cc nL rt ev d pc l stk h (zck h (ci + 1) a (zb Y K)) := by
  unfold zck
  by_cases hs : zsh h a = ci + 1
  · rw [if_pos hs]
    refine zcall hM (fun p e R s m args below meth c0 H locs cells slots mc ms ls Qc hC hH hS hl hMet g1 g2 => ?_) kk
    refine va_runV (Ts := zWs y cc nL rt) (own := y.cls) (C := y'.cls) ⟨hC.1, hC.2.1, hC.2.2.2.1, hC.2.2.2.2.2.1, hC.2.2.2.2.1⟩ hMet (cwV n hC.2.2.2.2.1 (zGoodV hw hm hv) rfl rfl rfl ⟨rfl, hm.2.2.1.1, hm.2.2.1.2, hm.2.2.2.1⟩ (zroom hdd hm.2.2.2.2 hC.2.2.2.2.2.2.2.2.1)) ⟨zPc_blind, ?_, zPc_at hC hH hS⟩ rfl hn hl.1 hst (by show 2 * 0 + _ ≤ 8; omega) hd ⟨g1, g2⟩
    obtain ⟨r, h1, cell, q1, q2, q3, -⟩ := hH.obj hs hi
    refine ⟨cell, q1, by rw [q3]; rfl, ?_⟩
    rw [q2]
    have := (hC.2.2.2.2.2.2.2.2.2.1.1.1 ci r h1).2.1
    rw [h1] at hci
    have e : r.1 = y'.cls := Option.some.inj hci
    rw [← e]
    exact this
  · rw [if_neg hs]
    exact zW_none
theorem zcallB {p : Program} {R : Room} {s : State} {m : MethodId} {args : Array Value} {meth : Method} {c0 : Code} {y' : MethodName} {cc' : ByteArray} {nL' d' idx n mc ms : Nat} {rt' : Option FieldType} (hC : zCx G y cc nL rt d p R s m args meth c0) (hw : Cond.methodLink y.cls idx y' ∈ zT) (hm : zMd y' cc' nL' rt' n) (hdd : d' + 1 ≤ d) : CallB R s args y.cls idx y' cc' nL' rt' (zWs y' cc' nL' rt') (zrm d' mc ms) mc ms n :=
  callB_of n hC.2.2.2.2.1 (zGood hm.1) rfl rfl rfl (hC.2.2.2.2.1 _ (List.mem_cons_of_mem _ hm.2.1)) (hC.2.2.2.2.1 _ (List.mem_cons_of_mem _ hw)) ⟨hm.2.2.1.1, hm.2.2.1.2, hm.2.2.2.1⟩ (zroom hdd hm.2.2.2.2 hC.2.2.2.2.2.2.2.2.1)
theorem zi_callS {y' : MethodName} {cc' : ByteArray} {nL' : Nat} {rt' : Option FieldType} {β : Type} {ev' : β → Option Value} {d' idx n : Nat} {As stk rest : List Value} {Y : Option (β × zH)} {K : β → zH → Option (α × zH)} (hd : decode cc pc = .ok (.invokestatic idx, 3)) (hw : Cond.methodLink y.cls idx y' ∈ zT) (hm : zMd y' cc' nL' rt' n) (hv : Cond.static y' ∈ zT) (hn : As.length = n) (hst : stk = As.reverse ++ rest) (hrest : (rest.map fun v => v.category).sum ≤ 8) (hdd : d' + 1 ≤ d) (hM : zMet G y' cc' nL' rt' ev' d' As h Y)
    (kk : ∀ r h1, zW G y cc nL rt ev d (pc + 3) l ((ev' r).toList ++ rest) h1 (K r h1)) : zW G y cc nL rt ev d pc l stk h (zb Y K) :=
  zcall hM (fun p e R s m args below meth c0 H locs cells slots mc ms ls Qc hC hH hS hl hMet g1 g2 =>
    va_runS (Ts := zWs y cc nL rt) (own := y.cls) ⟨hC.1, hC.2.1, hC.2.2.2.1, hC.2.2.2.2.2.1, hC.2.2.2.2.1⟩ hMet ⟨zcallB hC hw hm hdd, hC.2.2.2.2.1 _ (List.mem_cons_of_mem _ hv)⟩ ⟨zPc_blind, zPc_at hC hH hS⟩ rfl hn hl.1 hst (by show 2 * 0 + _ ≤ 8; omega) hd ⟨g1, g2⟩) kk
theorem zi_callN {y' : MethodName} {cc' : ByteArray} {nL' : Nat} {rt' : Option FieldType} {β : Type} {ev' : β → Option Value} {d' idx n : Nat} {host : String} {As stk rest : List Value} {Y : Option (β × zH)} {K : β → zH → Option (α × zH)} (hd : decode cc pc = .ok (.invokestatic idx, 3)) (hw : Cond.methodLinkNest y.cls idx y' host ∈ zNest) (hm : zMd y' cc' nL' rt' n) (hv : Cond.static y' ∈ zT) (hn : As.length = n) (hst : stk = As.reverse ++ rest) (hrest : (rest.map fun v => v.category).sum ≤ 8) (hdd : d' + 1 ≤ d) (hM : zMet G y' cc' nL' rt' ev' d' As h Y)
    (kk : ∀ r h1, zW G y cc nL rt ev d (pc + 3) l ((ev' r).toList ++ rest) h1 (K r h1)) : zW G y cc nL rt ev d pc l stk h (zb Y K) :=
  zcall hM (fun p e R s m args below meth c0 H locs cells slots mc ms ls Qc hC hH hS hl hMet g1 g2 =>
    va_runSN (Ts := zWs y cc nL rt) (own := y.cls) (host := host) ⟨hC.1, hC.2.1, hC.2.2.2.1, hC.2.2.2.2.2.1, hC.2.2.2.2.1⟩ hMet ⟨va_cnB n hC.2.2.2.2.1 (zGood hm.1) rfl rfl rfl (hC.2.2.2.2.2.2.2.2.2.1.2.2.2 _ hw) (hC.2.2.2.2.1 _ (List.mem_cons_of_mem _ hm.2.1)) ⟨hm.2.2.1.1, hm.2.2.1.2, hm.2.2.2.1⟩ (zroom hdd hm.2.2.2.2 hC.2.2.2.2.2.2.2.2.1), hC.2.2.2.2.1 _ (List.mem_cons_of_mem _ hv), trivial⟩ ⟨zPc_blind, zPc_at hC hH hS⟩ rfl hn hl.1 hst (by show 2 * 0 + _ ≤ 8; omega) hd ⟨g1, g2⟩) kk
theorem zi_callI {y' : MethodName} {cc' : ByteArray} {nL' : Nat} {β : Type} {ev' : β → Option Value} {d' idx n a : Nat} {As stk rest : List Value} {Y : Option (β × zH)} {K : β → zH → Option (α × zH)} (hd : decode cc pc = .ok (.invokespecial idx, 3)) (hw : Cond.methodLink y.cls idx y' ∈ zT) (hm : zMd y' cc' nL' none n) (hv : Cond.instanceMethod y' ∈ zT) (hy : y'.name = "<init>") (hn : As.length = n) (hst : stk = As.reverse ++ .ref (zbase G + a) :: rest) (hrest : (rest.map fun v => v.category).sum ≤ 8) (hdd : d' + 1 ≤ d) (hM : zMet G y' cc' nL' none ev' d' (.ref (zbase G + a) :: As) h Y)
    (kk : ∀ r h1, zW G y cc nL rt ev d (pc + 3) l ((ev' r).toList ++ rest) h1 (K r h1)) : zW G y cc nL rt ev d pc l stk h (zb Y K) :=
  zcall hM (fun p e R s m args below meth c0 H locs cells slots mc ms ls Qc hC hH hS hl hMet g1 g2 =>
    va_runI (Ts := zWs y cc nL rt) (own := y.cls) ⟨hC.1, hC.2.1, hC.2.2.2.1, hC.2.2.2.2.2.1, hC.2.2.2.2.1⟩ hMet ⟨zcallB hC hw hm hdd, hy, hC.2.2.2.2.1 _ (List.mem_cons_of_mem _ hv)⟩ ⟨zPc_blind, zPc_at hC hH hS⟩ rfl hn hl.1 hst (by show 2 * 0 + _ ≤ 8; omega) hd ⟨g1, g2⟩) kk
theorem zi_objInit {idx a : Nat} (hd : decode cc pc = .ok (.invokespecial idx, 3)) (hw : Cond.methodLink y.cls idx Lib.objectInit ∈ zT) (hw2 : Cond.instanceMethod Lib.objectInit ∈ zT) (hw3 : Cond.code Lib.objectInit ⟨#[0xb1]⟩ 1 none ∈ zT) (hrest : (st.map fun v => v.category).sum ≤ 8) (hdd : 1 ≤ d) (k : zW G y cc nL rt ev d (pc + 3) l st h X) : zW G y cc nL rt ev d pc l (.ref a :: st) h X :=
  zlift (fun p e R s m args below meth c0 H locs cells slots Q ls hC _ _ hl k => W.objInit hC.1 hC.2.1 hC.2.2.2.2.2.1 (hC.2.2.2.2.1 _ (List.mem_cons_of_mem _ hw)) (hC.2.2.2.2.1 _ (List.mem_cons_of_mem _ hw2)) (hC.2.2.2.2.1 _ (List.mem_cons_of_mem _ hw3)) rfl (hl.1.trans hC.2.2.2.1.symm) rfl hd (Nat.le_trans hdd hC.2.2.2.2.2.2.2.2.1.1) (by
    have h1 := hC.2.2.2.2.2.2.2.2.1.2
    show 2 * 0 + _ + 12 ≤ _
    omega) (k ls hl)) k
theorem zend {v : Option Value} {r : α} (hv : ev r = v)
    (hst : ∀ (p : Program) (e : Env) (R : Room) (s : State) (m : MethodId) (args : Array Value) (below : List Frame) (meth : Method) (c0 : Code) (H : Heap) (locs : List Loc) (cells slots : Nat) (ls : Array Slot), zCx G y cc nL rt d p R s m args meth c0 → (∀ q ∈ locs, zA G q.base) → (∀ t : State, t.heap = H → s.WarmedH t.vm → zQ G ev r h args s (.returned v) t) →
      W p G.1 e R s m args below meth c0 H locs cells slots (MQ below (zQ G ev r h) args s cells slots (zA G)) (F0 m pc ls st)) : zW G y cc nL rt ev d pc l st h (some (r, h)) := by
  intro r' h' hX
  cases hX
  refine ⟨Nat.le_refl _, Nat.le_refl _, fun p e R s m args below meth c0 H locs cells slots mc ms ls hC hH hS hl hc hs g1 g2 => ?_⟩
  have e1 : mc = cells := by omega
  have e2 : ms = slots := by omega
  rw [e1, e2]
  exact hst p e R s m args below meth c0 H locs cells slots ls hC hS.2.2 (fun t ht _ => ⟨by rw [hv], by rw [ht]; exact hH, hS.F ht⟩)
end
section
variable {G : zG} {y : MethodName} {cc : ByteArray} {nL : Nat} {d pc : Nat} {l : List (Nat × Value)} {h : zH}
theorem zi_retI {v : Int32} (hd : decode cc pc = .ok (.ireturn, 1)) : zW G y cc nL (some .int) zvI d pc l [.int v] h (some (v, h)) := zend rfl (fun _ _ _ _ _ _ _ _ _ _ _ _ _ _ hC hf hq => W.iret hC.1 hC.2.1 hC.2.2.1 hq hf hd hC.2.2.2.2.2.2.1)
theorem zi_retZ {v : Int32} (hd : decode cc pc = .ok (.ireturn, 1)) : zW G y cc nL (some .boolean) zvI d pc l [.int v] h (zrZ v h) := by
  unfold zrZ
  by_cases hv : v = 0 ∨ v = 1
  · rw [if_pos hv]
    exact zend rfl (fun _ _ _ _ _ _ _ _ _ _ _ _ _ _ hC hf hq => W.zret hC.1 hC.2.1 hC.2.2.1 (by rcases hv with rfl | rfl <;> rfl) hq hf hd hC.2.2.2.2.2.2.1)
  · rw [if_neg hv]
    exact zW_none
theorem zi_ret0 (hd : decode cc pc = .ok (.ireturn, 1)) : zW G y cc nL (some .boolean) zvI d pc l [.int 0] h (some (0, h)) := zi_retZ (v := 0) hd
theorem zi_ret1 (hd : decode cc pc = .ok (.ireturn, 1)) : zW G y cc nL (some .boolean) zvI d pc l [.int 1] h (some (1, h)) := zi_retZ (v := 1) hd
theorem zi_retL {v : Int64} (hd : decode cc pc = .ok (.lreturn, 1)) : zW G y cc nL (some .long) zvL d pc l [.long v] h (some (v, h)) := zend rfl (fun _ _ _ _ _ _ _ _ _ _ _ _ _ _ hC hf hq => W.lret hC.1 hC.2.1 hC.2.2.1 hq hf hd hC.2.2.2.2.2.2.1)
theorem zi_retV (hd : decode cc pc = .ok (.return_, 1)) : zW G y cc nL none zvU d pc l [] h (some ((), h)) := zend rfl (fun _ _ _ _ _ _ _ _ _ _ _ _ _ _ hC hf hq => W.vret hC.1 hC.2.1 hC.2.2.1 hq hf hd hC.2.2.2.2.2.2.1)
theorem zi_retR {a : Nat} {C : String} (hd : decode cc pc = .ok (.areturn, 1)) : zW G y cc nL (some (.object C)) (zvR G) d pc l [.ref (zbase G + a)] h (some (a, h)) := zend rfl (fun _ _ _ _ _ _ _ _ _ _ _ _ _ _ hC hf hq => W.aret hC.1 hC.2.1 hC.2.2.1 (Or.inl ⟨_, rfl⟩) (Or.inr ⟨_, rfl⟩) hq hf hd hC.2.2.2.2.2.2.1)
theorem zi_retN {a : Nat} {C : String} (hd : decode cc pc = .ok (.areturn, 1)) : zW G y cc nL (some (.object C)) (zvN G) d pc l [zrf G a] h (some (a, h)) := zend rfl (fun _ _ _ _ _ _ _ _ _ _ _ _ _ _ hC hf hq => W.aret hC.1 hC.2.1 hC.2.2.1 (Or.inl ⟨_, rfl⟩) (by unfold zrf; by_cases h0 : a = 0 <;> simp [h0]) hq hf hd hC.2.2.2.2.2.2.1)
end
