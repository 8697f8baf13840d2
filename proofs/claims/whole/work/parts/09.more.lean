/-! more rows: references that aren't null, calls by what they answer, loops -/
def zpQ {ρ : Type} (h : zH) (c a k v : Nat) (K : zH → Option ρ) : Option ρ := if zsh h a = c ∧ v ≠ 0 then K (zsr h a k v) else none
def zeQ {ρ : Type} (h : zH) (t c a : Nat) (i : Int32) (v : Nat) (K : zH → Option ρ) : Option ρ := if (zsh h a = t ∧ ¬ (i < 0 ∨ zln h a ≤ i.toNatClampNeg)) ∧ zsh h v = c then K (zsr h a i.toNatClampNeg v) else none
section
variable {G : zG} {y : MethodName} {cc : ByteArray} {nL : Nat} {rt : Option FieldType} {α : Type} {ev : α → Option Value} {d pc : Nat} {l : List (Nat × Value)} {st : List Value} {h : zH} {X : Option (α × zH)}
theorem zi_letl {β : Type} {v : β} {lf : β → List (Nat × Value)} {K : β → Option (α × zH)} (kk : ∀ x, zW G y cc nL rt ev d pc (lf x) st h (K x)) : zW G y cc nL rt ev d pc (lf v) st h (zlt v K) := kk v
theorem zi_putQF {idx ci k a v : Nat} {K : zH → Option (α × zH)} (hd : decode cc pc = .ok (.putfield idx, 3)) (hf : zFl y.cls idx ci k 2 true) (hin : y.name = "<init>") (hcy : (vwCl[ci]?).map (fun q => q.1) = some y.cls) (kk : ∀ h1 : zH, zW G y cc nL rt ev d (pc + 3) l st h1 (K h1)) : zW G y cc nL rt ev d pc l (.ref (zbase G + v) :: .ref (zbase G + a) :: st) h (zpQ h (ci + 1) a k v K) := by
  unfold zpQ
  by_cases hv : v ≠ 0
  · by_cases hs : zsh h a = ci + 1
    · rw [if_pos ⟨hs, hv⟩]
      have := zi_putRF (G := G) (l := l) (st := st) (h := h) (ev := ev) (d := d) (a := a) (K := K) hd hf hin hcy hv kk
      unfold zpR at this
      rw [if_pos hs] at this
      exact this
    · rw [if_neg (fun q => hs q.1)]
      exact zW_none
  · rw [if_neg (fun q => hv q.2)]
    exact zW_none
theorem zi_aastTn {a v : Nat} {i : Int32} {K : zH → Option (α × zH)} (hd : decode cc pc = .ok (.aastore, 1)) (kk : ∀ h1 : zH, zW G y cc nL rt ev d (pc + 1) l st h1 (K h1)) : zW G y cc nL rt ev d pc l (.ref (zbase G + v) :: .int i :: .ref (zbase G + a) :: st) h (zeQ h 25 9 a i v K) :=
  zwrite rfl rfl (fun _ _ _ _ _ _ _ _ _ _ _ _ _ _ _ hC hH hS hl hs kk => by
    have hv : v ≠ 0 := by have := (hH.2.2 v (by rw [hs.2]; decide)).1; omega
    rw [← zrf_pos G hv]
    exact zastv (t := 25) (tt := 4) (ci := 8) (r := (RX8, TX8, 5)) hC hH hS rfl (by decide) rfl (by decide) hs.1.1 hs.1.2 (Or.inr hs.2) hd (fun H1 locs1 hH1 hS1 => kk H1 locs1 hH1 hS1 hl)) kk
theorem zi_aastWn {a v : Nat} {i : Int32} {K : zH → Option (α × zH)} (hd : decode cc pc = .ok (.aastore, 1)) (kk : ∀ h1 : zH, zW G y cc nL rt ev d (pc + 1) l st h1 (K h1)) : zW G y cc nL rt ev d pc l (.ref (zbase G + v) :: .int i :: .ref (zbase G + a) :: st) h (zeQ h 26 11 a i v K) :=
  zwrite rfl rfl (fun _ _ _ _ _ _ _ _ _ _ _ _ _ _ _ hC hH hS hl hs kk => by
    have hv : v ≠ 0 := by have := (hH.2.2 v (by rw [hs.2]; decide)).1; omega
    rw [← zrf_pos G hv]
    exact zastv (t := 26) (tt := 5) (ci := 10) (r := (RX10, TX10, 10)) hC hH hS rfl (by decide) rfl (by decide) hs.1.1 hs.1.2 (Or.inr hs.2) hd (fun H1 locs1 hH1 hS1 => kk H1 locs1 hH1 hS1 hl)) kk
theorem zi_newT {n : Int32} {idx : Nat} {K : Nat → zH → Option (α × zH)} (hd : decode cc pc = .ok (.anewarray idx, 3)) (hw : Cond.classLink y.cls idx "GraceTree$Text" ∈ zT) (kk : ∀ (a : Nat) (h1 : zH), a ≠ 0 → zW G y cc nL rt ev d (pc + 3) l (.ref (zbase G + a) :: st) h1 (K a h1)) : zW G y cc nL rt ev d pc l (.int n :: st) h (znA h 25 n K) := zi_newq (tt := 4) rfl (by decide) (fun _ q => q.1.2.1) hd hw kk
theorem zi_newW {n : Int32} {idx : Nat} {K : Nat → zH → Option (α × zH)} (hd : decode cc pc = .ok (.anewarray idx, 3)) (hw : Cond.classLink y.cls idx "GraceTree$World" ∈ zT) (kk : ∀ (a : Nat) (h1 : zH), a ≠ 0 → zW G y cc nL rt ev d (pc + 3) l (.ref (zbase G + a) :: st) h1 (K a h1)) : zW G y cc nL rt ev d pc l (.int n :: st) h (znA h 26 n K) := zi_newq (tt := 5) rfl (by decide) (fun _ q => q.1.2.2.1) hd hw kk
theorem zi_callVI {y' : MethodName} {cc' : ByteArray} {nL' : Nat} {rt' : Option FieldType} {d' idx ci n a : Nat} {As stk rest : List Value} {Y : Option (Int32 × zH)} {K : Int32 → zH → Option (α × zH)} (hd : decode cc pc = .ok (.invokevirtual idx, 3)) (hw : Cond.methodLink y.cls idx y' ∈ zT) (hm : zMd y' cc' nL' rt' n) (hv : zMv y') (hci : (vwCl[ci]?).map (fun q => q.1) = some y'.cls) (hi : ci < 19) (hn : As.length = n) (hst : stk = As.reverse ++ .ref (zbase G + a) :: rest) (hrest : (rest.map fun v => v.category).sum ≤ 8) (hdd : d' + 1 ≤ d) (hM : zMet G y' cc' nL' rt' zvI d' (.ref (zbase G + a) :: As) h Y)
    (kk : ∀ r h1, zW G y cc nL rt ev d (pc + 3) l (.int r :: rest) h1 (K r h1)) : zW G y cc nL rt ev d pc l stk h (zck h (ci + 1) a (zb Y K)) := zi_callV hd hw hm hv hci hi hn hst hrest hdd hM kk
theorem zi_callVL {y' : MethodName} {cc' : ByteArray} {nL' : Nat} {rt' : Option FieldType} {d' idx ci n a : Nat} {As stk rest : List Value} {Y : Option (Int64 × zH)} {K : Int64 → zH → Option (α × zH)} (hd : decode cc pc = .ok (.invokevirtual idx, 3)) (hw : Cond.methodLink y.cls idx y' ∈ zT) (hm : zMd y' cc' nL' rt' n) (hv : zMv y') (hci : (vwCl[ci]?).map (fun q => q.1) = some y'.cls) (hi : ci < 19) (hn : As.length = n) (hst : stk = As.reverse ++ .ref (zbase G + a) :: rest) (hrest : (rest.map fun v => v.category).sum ≤ 8) (hdd : d' + 1 ≤ d) (hM : zMet G y' cc' nL' rt' zvL d' (.ref (zbase G + a) :: As) h Y)
    (kk : ∀ r h1, zW G y cc nL rt ev d (pc + 3) l (.long r :: rest) h1 (K r h1)) : zW G y cc nL rt ev d pc l stk h (zck h (ci + 1) a (zb Y K)) := zi_callV hd hw hm hv hci hi hn hst hrest hdd hM kk
theorem zi_callVR {y' : MethodName} {cc' : ByteArray} {nL' : Nat} {rt' : Option FieldType} {d' idx ci n a : Nat} {As stk rest : List Value} {Y : Option (Nat × zH)} {K : Nat → zH → Option (α × zH)} (hd : decode cc pc = .ok (.invokevirtual idx, 3)) (hw : Cond.methodLink y.cls idx y' ∈ zT) (hm : zMd y' cc' nL' rt' n) (hv : zMv y') (hci : (vwCl[ci]?).map (fun q => q.1) = some y'.cls) (hi : ci < 19) (hn : As.length = n) (hst : stk = As.reverse ++ .ref (zbase G + a) :: rest) (hrest : (rest.map fun v => v.category).sum ≤ 8) (hdd : d' + 1 ≤ d) (hM : zMet G y' cc' nL' rt' (zvR G) d' (.ref (zbase G + a) :: As) h Y)
    (kk : ∀ r h1, zW G y cc nL rt ev d (pc + 3) l (.ref (zbase G + r) :: rest) h1 (K r h1)) : zW G y cc nL rt ev d pc l stk h (zck h (ci + 1) a (zb Y K)) := zi_callV hd hw hm hv hci hi hn hst hrest hdd hM kk
theorem zi_callVN {y' : MethodName} {cc' : ByteArray} {nL' : Nat} {rt' : Option FieldType} {d' idx ci n a : Nat} {As stk rest : List Value} {Y : Option (Nat × zH)} {K : Nat → zH → Option (α × zH)} (hd : decode cc pc = .ok (.invokevirtual idx, 3)) (hw : Cond.methodLink y.cls idx y' ∈ zT) (hm : zMd y' cc' nL' rt' n) (hv : zMv y') (hci : (vwCl[ci]?).map (fun q => q.1) = some y'.cls) (hi : ci < 19) (hn : As.length = n) (hst : stk = As.reverse ++ .ref (zbase G + a) :: rest) (hrest : (rest.map fun v => v.category).sum ≤ 8) (hdd : d' + 1 ≤ d) (hM : zMet G y' cc' nL' rt' (zvN G) d' (.ref (zbase G + a) :: As) h Y)
    (kk : ∀ r h1, zW G y cc nL rt ev d (pc + 3) l (zrf G r :: rest) h1 (K r h1)) : zW G y cc nL rt ev d pc l stk h (zck h (ci + 1) a (zb Y K)) := zi_callV hd hw hm hv hci hi hn hst hrest hdd hM kk
theorem zi_callVU {y' : MethodName} {cc' : ByteArray} {nL' : Nat} {rt' : Option FieldType} {d' idx ci n a : Nat} {As stk rest : List Value} {Y : Option (Unit × zH)} {K : Unit → zH → Option (α × zH)} (hd : decode cc pc = .ok (.invokevirtual idx, 3)) (hw : Cond.methodLink y.cls idx y' ∈ zT) (hm : zMd y' cc' nL' rt' n) (hv : zMv y') (hci : (vwCl[ci]?).map (fun q => q.1) = some y'.cls) (hi : ci < 19) (hn : As.length = n) (hst : stk = As.reverse ++ .ref (zbase G + a) :: rest) (hrest : (rest.map fun v => v.category).sum ≤ 8) (hdd : d' + 1 ≤ d) (hM : zMet G y' cc' nL' rt' zvU d' (.ref (zbase G + a) :: As) h Y)
    (kk : ∀ r h1, zW G y cc nL rt ev d (pc + 3) l (rest) h1 (K r h1)) : zW G y cc nL rt ev d pc l stk h (zck h (ci + 1) a (zb Y K)) := zi_callV hd hw hm hv hci hi hn hst hrest hdd hM kk
theorem zi_callSI {y' : MethodName} {cc' : ByteArray} {nL' : Nat} {rt' : Option FieldType} {d' idx n : Nat} {As stk rest : List Value} {Y : Option (Int32 × zH)} {K : Int32 → zH → Option (α × zH)} (hd : decode cc pc = .ok (.invokestatic idx, 3)) (hw : Cond.methodLink y.cls idx y' ∈ zT) (hm : zMd y' cc' nL' rt' n) (hv : Cond.static y' ∈ zT) (hn : As.length = n) (hst : stk = As.reverse ++ rest) (hrest : (rest.map fun v => v.category).sum ≤ 8) (hdd : d' + 1 ≤ d) (hM : zMet G y' cc' nL' rt' zvI d' As h Y)
    (kk : ∀ r h1, zW G y cc nL rt ev d (pc + 3) l (.int r :: rest) h1 (K r h1)) : zW G y cc nL rt ev d pc l stk h (zb Y K) := zi_callS hd hw hm hv hn hst hrest hdd hM kk
theorem zi_callSL {y' : MethodName} {cc' : ByteArray} {nL' : Nat} {rt' : Option FieldType} {d' idx n : Nat} {As stk rest : List Value} {Y : Option (Int64 × zH)} {K : Int64 → zH → Option (α × zH)} (hd : decode cc pc = .ok (.invokestatic idx, 3)) (hw : Cond.methodLink y.cls idx y' ∈ zT) (hm : zMd y' cc' nL' rt' n) (hv : Cond.static y' ∈ zT) (hn : As.length = n) (hst : stk = As.reverse ++ rest) (hrest : (rest.map fun v => v.category).sum ≤ 8) (hdd : d' + 1 ≤ d) (hM : zMet G y' cc' nL' rt' zvL d' As h Y)
    (kk : ∀ r h1, zW G y cc nL rt ev d (pc + 3) l (.long r :: rest) h1 (K r h1)) : zW G y cc nL rt ev d pc l stk h (zb Y K) := zi_callS hd hw hm hv hn hst hrest hdd hM kk
theorem zi_callSU {y' : MethodName} {cc' : ByteArray} {nL' : Nat} {rt' : Option FieldType} {d' idx n : Nat} {As stk rest : List Value} {Y : Option (Unit × zH)} {K : Unit → zH → Option (α × zH)} (hd : decode cc pc = .ok (.invokestatic idx, 3)) (hw : Cond.methodLink y.cls idx y' ∈ zT) (hm : zMd y' cc' nL' rt' n) (hv : Cond.static y' ∈ zT) (hn : As.length = n) (hst : stk = As.reverse ++ rest) (hrest : (rest.map fun v => v.category).sum ≤ 8) (hdd : d' + 1 ≤ d) (hM : zMet G y' cc' nL' rt' zvU d' As h Y)
    (kk : ∀ r h1, zW G y cc nL rt ev d (pc + 3) l (rest) h1 (K r h1)) : zW G y cc nL rt ev d pc l stk h (zb Y K) := zi_callS hd hw hm hv hn hst hrest hdd hM kk
theorem zi_callNI {y' : MethodName} {cc' : ByteArray} {nL' : Nat} {rt' : Option FieldType} {d' idx n : Nat} {host : String} {As stk rest : List Value} {Y : Option (Int32 × zH)} {K : Int32 → zH → Option (α × zH)} (hd : decode cc pc = .ok (.invokestatic idx, 3)) (hw : Cond.methodLinkNest y.cls idx y' host ∈ zNest) (hm : zMd y' cc' nL' rt' n) (hv : Cond.static y' ∈ zT) (hn : As.length = n) (hst : stk = As.reverse ++ rest) (hrest : (rest.map fun v => v.category).sum ≤ 8) (hdd : d' + 1 ≤ d) (hM : zMet G y' cc' nL' rt' zvI d' As h Y)
    (kk : ∀ r h1, zW G y cc nL rt ev d (pc + 3) l (.int r :: rest) h1 (K r h1)) : zW G y cc nL rt ev d pc l stk h (zb Y K) := zi_callN hd hw hm hv hn hst hrest hdd hM kk
theorem zi_callIU {y' : MethodName} {cc' : ByteArray} {nL' : Nat} {d' idx n a : Nat} {As stk rest : List Value} {Y : Option (Unit × zH)} {K : Unit → zH → Option (α × zH)} (hd : decode cc pc = .ok (.invokespecial idx, 3)) (hw : Cond.methodLink y.cls idx y' ∈ zT) (hm : zMd y' cc' nL' none n) (hv : Cond.instanceMethod y' ∈ zT) (hy : y'.name = "<init>") (hn : As.length = n) (hst : stk = As.reverse ++ .ref (zbase G + a) :: rest) (hrest : (rest.map fun v => v.category).sum ≤ 8) (hdd : d' + 1 ≤ d) (hM : zMet G y' cc' nL' none zvU d' (.ref (zbase G + a) :: As) h Y)
    (kk : ∀ r h1, zW G y cc nL rt ev d (pc + 3) l (rest) h1 (K r h1)) : zW G y cc nL rt ev d pc l stk h (zb Y K) := zi_callI hd hw hm hv hy hn hst hrest hdd hM kk
end
def zlp0 {R : Type} (F : (zH → Option R) → zH → Option R) : Nat → zH → Option R
  | 0 => fun _ => none
  | t + 1 => F (zlp0 F t)
theorem zlp0_s {R : Type} (F : (zH → Option R) → zH → Option R) (t : Nat) : zlp0 F (t + 1) = F (zlp0 F t) := rfl
def zlp1 {A : Type} {R : Type} (F : (A → zH → Option R) → A → zH → Option R) : Nat → A → zH → Option R
  | 0 => fun _ _ => none
  | t + 1 => F (zlp1 F t)
theorem zlp1_s {A : Type} {R : Type} (F : (A → zH → Option R) → A → zH → Option R) (t : Nat) : zlp1 F (t + 1) = F (zlp1 F t) := rfl
def zlp2 {A : Type} {B : Type} {R : Type} (F : (A → B → zH → Option R) → A → B → zH → Option R) : Nat → A → B → zH → Option R
  | 0 => fun _ _ _ => none
  | t + 1 => F (zlp2 F t)
theorem zlp2_s {A : Type} {B : Type} {R : Type} (F : (A → B → zH → Option R) → A → B → zH → Option R) (t : Nat) : zlp2 F (t + 1) = F (zlp2 F t) := rfl
def zlp3 {A : Type} {B : Type} {C : Type} {R : Type} (F : (A → B → C → zH → Option R) → A → B → C → zH → Option R) : Nat → A → B → C → zH → Option R
  | 0 => fun _ _ _ _ => none
  | t + 1 => F (zlp3 F t)
theorem zlp3_s {A : Type} {B : Type} {C : Type} {R : Type} (F : (A → B → C → zH → Option R) → A → B → C → zH → Option R) (t : Nat) : zlp3 F (t + 1) = F (zlp3 F t) := rfl
def zlp4 {A : Type} {B : Type} {C : Type} {D : Type} {R : Type} (F : (A → B → C → D → zH → Option R) → A → B → C → D → zH → Option R) : Nat → A → B → C → D → zH → Option R
  | 0 => fun _ _ _ _ _ => none
  | t + 1 => F (zlp4 F t)
theorem zlp4_s {A : Type} {B : Type} {C : Type} {D : Type} {R : Type} (F : (A → B → C → D → zH → Option R) → A → B → C → D → zH → Option R) (t : Nat) : zlp4 F (t + 1) = F (zlp4 F t) := rfl
def zlp5 {A : Type} {B : Type} {C : Type} {D : Type} {E : Type} {R : Type} (F : (A → B → C → D → E → zH → Option R) → A → B → C → D → E → zH → Option R) : Nat → A → B → C → D → E → zH → Option R
  | 0 => fun _ _ _ _ _ _ => none
  | t + 1 => F (zlp5 F t)
theorem zlp5_s {A : Type} {B : Type} {C : Type} {D : Type} {E : Type} {R : Type} (F : (A → B → C → D → E → zH → Option R) → A → B → C → D → E → zH → Option R) (t : Nat) : zlp5 F (t + 1) = F (zlp5 F t) := rfl
def zlp6 {A : Type} {B : Type} {C : Type} {D : Type} {E : Type} {T6 : Type} {R : Type} (F : (A → B → C → D → E → T6 → zH → Option R) → A → B → C → D → E → T6 → zH → Option R) : Nat → A → B → C → D → E → T6 → zH → Option R
  | 0 => fun _ _ _ _ _ _ _ => none
  | t + 1 => F (zlp6 F t)
theorem zlp6_s {A : Type} {B : Type} {C : Type} {D : Type} {E : Type} {T6 : Type} {R : Type} (F : (A → B → C → D → E → T6 → zH → Option R) → A → B → C → D → E → T6 → zH → Option R) (t : Nat) : zlp6 F (t + 1) = F (zlp6 F t) := rfl
def zlp7 {A : Type} {B : Type} {C : Type} {D : Type} {E : Type} {T6 : Type} {T7 : Type} {R : Type} (F : (A → B → C → D → E → T6 → T7 → zH → Option R) → A → B → C → D → E → T6 → T7 → zH → Option R) : Nat → A → B → C → D → E → T6 → T7 → zH → Option R
  | 0 => fun _ _ _ _ _ _ _ _ => none
  | t + 1 => F (zlp7 F t)
theorem zlp7_s {A : Type} {B : Type} {C : Type} {D : Type} {E : Type} {T6 : Type} {T7 : Type} {R : Type} (F : (A → B → C → D → E → T6 → T7 → zH → Option R) → A → B → C → D → E → T6 → T7 → zH → Option R) (t : Nat) : zlp7 F (t + 1) = F (zlp7 F t) := rfl
def zlp8 {A : Type} {B : Type} {C : Type} {D : Type} {E : Type} {T6 : Type} {T7 : Type} {T8 : Type} {R : Type} (F : (A → B → C → D → E → T6 → T7 → T8 → zH → Option R) → A → B → C → D → E → T6 → T7 → T8 → zH → Option R) : Nat → A → B → C → D → E → T6 → T7 → T8 → zH → Option R
  | 0 => fun _ _ _ _ _ _ _ _ _ => none
  | t + 1 => F (zlp8 F t)
theorem zlp8_s {A : Type} {B : Type} {C : Type} {D : Type} {E : Type} {T6 : Type} {T7 : Type} {T8 : Type} {R : Type} (F : (A → B → C → D → E → T6 → T7 → T8 → zH → Option R) → A → B → C → D → E → T6 → T7 → T8 → zH → Option R) (t : Nat) : zlp8 F (t + 1) = F (zlp8 F t) := rfl
def zlp9 {A : Type} {B : Type} {C : Type} {D : Type} {E : Type} {T6 : Type} {T7 : Type} {T8 : Type} {T9 : Type} {R : Type} (F : (A → B → C → D → E → T6 → T7 → T8 → T9 → zH → Option R) → A → B → C → D → E → T6 → T7 → T8 → T9 → zH → Option R) : Nat → A → B → C → D → E → T6 → T7 → T8 → T9 → zH → Option R
  | 0 => fun _ _ _ _ _ _ _ _ _ _ => none
  | t + 1 => F (zlp9 F t)
theorem zlp9_s {A : Type} {B : Type} {C : Type} {D : Type} {E : Type} {T6 : Type} {T7 : Type} {T8 : Type} {T9 : Type} {R : Type} (F : (A → B → C → D → E → T6 → T7 → T8 → T9 → zH → Option R) → A → B → C → D → E → T6 → T7 → T8 → T9 → zH → Option R) (t : Nat) : zlp9 F (t + 1) = F (zlp9 F t) := rfl
