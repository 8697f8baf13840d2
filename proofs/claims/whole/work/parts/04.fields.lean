/-! heap: fields, rows, what is made -/
def zkd (t : Nat) (v : Value) : Prop := match t with
  | 0 => ∃ x, v = .int x
  | 1 => ∃ x, v = .long x
  | 2 => v = .null ∨ ∃ a, v = .ref a
  | _ => v = .int 0 ∨ v = .int 1
def zCls (ci : Nat) (C : String) (T : u_T) (N : Nat) (ty : Nat → FieldType) : Prop := vwCl[ci]? = some (C, T, N) ∧ (∀ w ∈ u_ws C T N, w ∈ zT) ∧ (∀ k, k < N → parseFieldDescriptor (T k).2.2.1 = some (ty k)) ∧ (∀ a, a < N → ∀ b, b < N → a ≠ b → (T a).2.1 ≠ (T b).2.1) ∧ ci < 19
def zFl (own : String) (idx ci k t : Nat) (fin : Bool) : Prop := ∃ (C : String) (T : u_T) (N : Nat) (ty : Nat → FieldType), zCls ci C T N ty ∧ k < N ∧ (zft ci)[k]? = some t ∧ Cond.fieldLink own idx (T k).1 (T k).2.1 (T k).2.2.1 ∈ zT ∧ (T k).2.2.2 = fin ∧ (T k).1 = C ∧ ∀ v, zkd t v → narrow (ty k) v = v ∧ fits (ty k) v = true
theorem zk_int : ∀ v, zkd 0 v → narrow .int v = v ∧ fits .int v = true := by
  rintro v ⟨x, rfl⟩; exact ⟨rfl, rfl⟩
theorem zk_long : ∀ v, zkd 1 v → narrow .long v = v ∧ fits .long v = true := by
  rintro v ⟨x, rfl⟩; exact ⟨rfl, rfl⟩
theorem zk_obj (C : String) : ∀ v, zkd 2 v → narrow (.object C) v = v ∧ fits (.object C) v = true := by
  rintro v (rfl | ⟨x, rfl⟩) <;> exact ⟨rfl, rfl⟩
theorem zk_arr (t : FieldType) : ∀ v, zkd 2 v → narrow (.array t) v = v ∧ fits (.array t) v = true := by
  rintro v (rfl | ⟨x, rfl⟩) <;> exact ⟨rfl, rfl⟩
theorem zk_bool : ∀ v, zkd 3 v → narrow .boolean v = v ∧ fits .boolean v = true := by
  rintro v (rfl | rfl) <;> exact ⟨rfl, rfl⟩
section
variable {G : zG} {y : MethodName} {cc : ByteArray} {nL : Nat} {rt : Option FieldType} {α : Type} {ev : α → Option Value} {d pc : Nat} {l : List (Nat × Value)} {st : List Value} {h : zH} {X : Option (α × zH)}
def zgI {ρ : Type} (h : zH) (c a k : Nat) (K : Int32 → Option ρ) : Option ρ := if zsh h a = c then K (zmi h a k) else none
def zgL {ρ : Type} (h : zH) (c a k : Nat) (K : Int64 → Option ρ) : Option ρ := if zsh h a = c then K (zml h a k) else none
def zgR {ρ : Type} (h : zH) (c a k : Nat) (K : Nat → Option ρ) : Option ρ := if zsh h a = c ∧ zmr h a k ≠ 0 then K (zmr h a k) else none
def zpI {ρ : Type} (h : zH) (c a k : Nat) (v : Int32) (K : zH → Option ρ) : Option ρ := if zsh h a = c then K (zsi h a k v) else none
def zpZ {ρ : Type} (h : zH) (c a k : Nat) (v : Int32) (K : zH → Option ρ) : Option ρ := if zsh h a = c ∧ (v = 0 ∨ v = 1) then K (zsi h a k v) else none
def zpL {ρ : Type} (h : zH) (c a k : Nat) (v : Int64) (K : zH → Option ρ) : Option ρ := if zsh h a = c then K (zsg h a k v) else none
def zpR {ρ : Type} (h : zH) (c a k : Nat) (v : Nat) (K : zH → Option ρ) : Option ρ := if zsh h a = c then K (zsr h a k v) else none
def zaI {ρ : Type} (h : zH) (t a : Nat) (i : Int32) (K : Int32 → Option ρ) : Option ρ := if zsh h a = t ∧ ¬ (i < 0 ∨ zln h a ≤ i.toNatClampNeg) then K (zmi h a i.toNatClampNeg) else none
def zaL {ρ : Type} (h : zH) (a : Nat) (i : Int32) (K : Int64 → Option ρ) : Option ρ := if zsh h a = 22 ∧ ¬ (i < 0 ∨ zln h a ≤ i.toNatClampNeg) then K (zml h a i.toNatClampNeg) else none
def zaR {ρ : Type} (h : zH) (t a : Nat) (i : Int32) (K : Nat → Option ρ) : Option ρ := if zsh h a = t ∧ ¬ (i < 0 ∨ zln h a ≤ i.toNatClampNeg) then K (zmr h a i.toNatClampNeg) else none
def zaN {ρ : Type} (h : zH) (t a : Nat) (i : Int32) (K : Nat → Option ρ) : Option ρ := if (zsh h a = t ∧ ¬ (i < 0 ∨ zln h a ≤ i.toNatClampNeg)) ∧ zmr h a i.toNatClampNeg ≠ 0 then K (zmr h a i.toNatClampNeg) else none
def zeI {ρ : Type} (h : zH) (a : Nat) (i v : Int32) (K : zH → Option ρ) : Option ρ := if zsh h a = 21 ∧ ¬ (i < 0 ∨ zln h a ≤ i.toNatClampNeg) then K (zsi h a i.toNatClampNeg v) else none
def zeB {ρ : Type} (h : zH) (a : Nat) (i v : Int32) (K : zH → Option ρ) : Option ρ := if zsh h a = 23 ∧ ¬ (i < 0 ∨ zln h a ≤ i.toNatClampNeg) then K (zsi h a i.toNatClampNeg (vp_nar .byte v)) else none
def zeZ {ρ : Type} (h : zH) (a : Nat) (i v : Int32) (K : zH → Option ρ) : Option ρ := if zsh h a = 24 ∧ ¬ (i < 0 ∨ zln h a ≤ i.toNatClampNeg) then K (zsi h a i.toNatClampNeg (vp_nar .boolean v)) else none
def zeL {ρ : Type} (h : zH) (a : Nat) (i : Int32) (v : Int64) (K : zH → Option ρ) : Option ρ := if zsh h a = 22 ∧ ¬ (i < 0 ∨ zln h a ≤ i.toNatClampNeg) then K (zsg h a i.toNatClampNeg v) else none
/-- a reference (or null) of the kind c into a row of the kind t -/
def zeR {ρ : Type} (h : zH) (t c a : Nat) (i : Int32) (v : Nat) (K : zH → Option ρ) : Option ρ := if (zsh h a = t ∧ ¬ (i < 0 ∨ zln h a ≤ i.toNatClampNeg)) ∧ (v = 0 ∨ zsh h v = c) then K (zsr h a i.toNatClampNeg v) else none
def zln' {ρ : Type} (h : zH) (t a : Nat) (K : Int32 → Option ρ) : Option ρ := if zsh h a = t then K (Int32.ofNat (zln h a)) else none
def znO {ρ : Type} (h : zH) (c n : Nat) (K : Nat → zH → Option ρ) : Option ρ := K (znx h + 1) (znw h c 0 n)
def znA {ρ : Type} (h : zH) (t : Nat) (n : Int32) (K : Nat → zH → Option ρ) : Option ρ := if n < 0 ∨ 65536 ≤ n.toNatClampNeg then none else K (znx h + 1) (znw h t n.toNatClampNeg n.toNatClampNeg)
/-- System.arraycopy of ints -/
def zcp {ρ : Type} (h : zH) (a : Nat) (i : Int32) (b : Nat) (j n : Int32) (K : zH → Option ρ) : Option ρ := if (zsh h a = 21 ∧ zsh h b = 21) ∧ ¬ (i < 0 ∨ j < 0 ∨ n < 0) ∧ i.toNatClampNeg + n.toNatClampNeg ≤ zln h a ∧ j.toNatClampNeg + n.toNatClampNeg ≤ zln h b then K (zri h b (va_cpy (zmi h a) (zmi h b) i.toNatClampNeg j.toNatClampNeg n.toNatClampNeg)) else none
theorem zHR.obj {H : Heap} (hH : zHR G h H) {a ci : Nat} (hs : zsh h a = ci + 1) (hi : ci < 19) : va_at G.2.1 vwCl (zbase G + a, .inr (ci, zfs G h a (zft ci))) H := by
  have h1 := hH.2.2 a (by omega)
  have h2 := hH.2.1 a h1.1 h1.2
  rw [zce_obj hs hi] at h2
  exact h2
theorem zHR.one {H : Heap} (hH : zHR G h H) {a : Nat} (hs : zsh h a ≠ 0) : va_P G.2.1 vwCl [(zbase G + a, zce G h a)] H := by
  have h1 := hH.2.2 a hs
  intro k q hk
  have hz : k < 1 := (List.getElem?_eq_some_iff.mp hk).1
  have hk0 : k = 0 := by omega
  subst hk0
  cases hk
  exact hH.2.1 a h1.1 h1.2
/-- a read of the heap -/
theorem zread {β : Type} {c : Prop} [Decidable c] {v : β} {K : β → Option (α × zH)} {pc' : Nat} {l' : List (Nat × Value)} {st' : β → List Value}
    (hst : ∀ (p : Program) (e : Env) (R : Room) (s : State) (m : MethodId) (args : Array Value) (below : List Frame) (meth : Method) (c0 : Code) (H : Heap) (locs : List Loc) (cells slots : Nat) (Q : State → Prop) (ls : Array Slot), zCx G y cc nL rt d p R s m args meth c0 → zHR G h H → va_S (zA G) s.heap H locs → lv_has ls nL l → c →
      (lv_has ls nL l' → W p G.1 e R s m args below meth c0 H locs cells slots Q (F0 m pc' ls (st' v))) → W p G.1 e R s m args below meth c0 H locs cells slots Q (F0 m pc ls st))
    (k : ∀ v, zW G y cc nL rt ev d pc' l' (st' v) h (K v)) : zW G y cc nL rt ev d pc l st h (if c then K v else none) := by
  intro r h' hX
  by_cases hc0 : c
  · rw [if_pos hc0] at hX
    obtain ⟨b1, b2, kk⟩ := k v r h' hX
    refine ⟨b1, b2, fun p e R s m args below meth c0 H locs cells slots mc ms ls hC hH hS hl hc hs h1 h2 => ?_⟩
    exact hst p e R s m args below meth c0 H locs cells slots _ ls hC hH hS hl hc0 (fun hl1 => kk p e R s m args below meth c0 H locs cells slots mc ms ls hC hH hS hl1 hc hs h1 h2)
  · rw [if_neg hc0] at hX
    cases hX
/-- a write -/
theorem zwrite {c : Prop} [Decidable c] {h1 : zH} {K : zH → Option (α × zH)} {pc' : Nat} {l' : List (Nat × Value)} {st' : List Value} (hn : znx h1 = znx h) (hsl : zsl h1 = zsl h)
    (hst : ∀ (p : Program) (e : Env) (R : Room) (s : State) (m : MethodId) (args : Array Value) (below : List Frame) (meth : Method) (c0 : Code) (H : Heap) (locs : List Loc) (cells slots : Nat) (Q : State → Prop) (ls : Array Slot), zCx G y cc nL rt d p R s m args meth c0 → zHR G h H → va_S (zA G) s.heap H locs → lv_has ls nL l → c →
      (∀ H1 locs1, zHR G h1 H1 → va_S (zA G) s.heap H1 locs1 → lv_has ls nL l' → W p G.1 e R s m args below meth c0 H1 locs1 cells slots Q (F0 m pc' ls st')) → W p G.1 e R s m args below meth c0 H locs cells slots Q (F0 m pc ls st))
    (k : ∀ h1, zW G y cc nL rt ev d pc' l' st' h1 (K h1)) : zW G y cc nL rt ev d pc l st h (if c then K h1 else none) := by
  intro r h' hX
  by_cases hc0 : c
  · rw [if_pos hc0] at hX
    obtain ⟨b1, b2, kk⟩ := k h1 r h' hX
    rw [hn] at b1 kk
    rw [hsl] at b2 kk
    refine ⟨b1, b2, fun p e R s m args below meth c0 H locs cells slots mc ms ls hC hH hS hl hc hs g1 g2 => ?_⟩
    exact hst p e R s m args below meth c0 H locs cells slots _ ls hC hH hS hl hc0 (fun H1 locs1 hH1 hS1 hl1 => kk p e R s m args below meth c0 H1 locs1 cells slots mc ms ls hC hH1 hS1 hl1 hc hs g1 g2)
  · rw [if_neg hc0] at hX
    cases hX
theorem zgetv {p : Program} {e : Env} {R : Room} {s : State} {m : MethodId} {args : Array Value} {below : List Frame} {meth : Method} {c0 : Code} {H : Heap} {locs : List Loc} {cells slots : Nat} {Q : State → Prop} {ls : Array Slot} (hC : zCx G y cc nL rt d p R s m args meth c0) (hH : zHR G h H) {idx ci k t : Nat} {fin : Bool} {a : Nat} {v : Value} (hf : zFl y.cls idx ci k t fin) (hs : zsh h a = ci + 1) (hv : (if t = 1 then .long (zml h a k) else if t = 2 then zrf G (zmr h a k) else .int (zmi h a k)) = v) (hd : decode cc pc = .ok (.getfield idx, 3))
    (kk : W p G.1 e R s m args below meth c0 H locs cells slots Q (F0 m (pc + 3) ls (v :: st))) : W p G.1 e R s m args below meth c0 H locs cells slots Q (F0 m pc ls (.ref (zbase G + a) :: st)) := by
  obtain ⟨C, T, N, ty, ⟨hcl, hin, -, -, hi⟩, hk, hft, hlk, -, hC1, -⟩ := hf
  have hP := hH.one (a := a) (by omega)
  rw [zce_obj hs hi] at hP
  exact va_get hC.1 hC.2.1 (Ts := zWs y cc nL rt) hC.2.2.2.2.1 (fun w hw => List.mem_cons_of_mem _ (hin w hw)) hC.2.2.2.2.2.1 hC.2.2.2.2.2.2.2.2.2.1.1 hP 0 (ci := ci) rfl hcl k hk (ref := (T k).1) (hC.2.2.2.2.1 _ (List.mem_cons_of_mem _ hlk)) (fun _ q => q) (v := v) (by rw [zfs_at hft, hv]) hd kk
theorem zi_getI {idx ci k a : Nat} {fin : Bool} {K : Int32 → Option (α × zH)} (hd : decode cc pc = .ok (.getfield idx, 3)) (hf : zFl y.cls idx ci k 0 fin) (kk : ∀ v : Int32, zW G y cc nL rt ev d (pc + 3) l (.int v :: st) h (K v)) : zW G y cc nL rt ev d pc l (.ref (zbase G + a) :: st) h (zgI h (ci + 1) a k K) :=
  zread (st' := fun v => .int v :: st) (fun _ _ _ _ _ _ _ _ _ _ _ _ _ _ _ hC hH _ hl hs kk => zgetv hC hH hf hs rfl hd (kk hl)) kk
theorem zi_getZ {idx ci k a : Nat} {fin : Bool} {K : Int32 → Option (α × zH)} (hd : decode cc pc = .ok (.getfield idx, 3)) (hf : zFl y.cls idx ci k 3 fin) (kk : ∀ v : Int32, zW G y cc nL rt ev d (pc + 3) l (.int v :: st) h (K v)) : zW G y cc nL rt ev d pc l (.ref (zbase G + a) :: st) h (zgI h (ci + 1) a k K) :=
  zread (st' := fun v => .int v :: st) (fun _ _ _ _ _ _ _ _ _ _ _ _ _ _ _ hC hH _ hl hs kk => zgetv hC hH hf hs rfl hd (kk hl)) kk
theorem zi_getL {idx ci k a : Nat} {fin : Bool} {K : Int64 → Option (α × zH)} (hd : decode cc pc = .ok (.getfield idx, 3)) (hf : zFl y.cls idx ci k 1 fin) (kk : ∀ v : Int64, zW G y cc nL rt ev d (pc + 3) l (.long v :: st) h (K v)) : zW G y cc nL rt ev d pc l (.ref (zbase G + a) :: st) h (zgL h (ci + 1) a k K) :=
  zread (st' := fun v => .long v :: st) (fun _ _ _ _ _ _ _ _ _ _ _ _ _ _ _ hC hH _ hl hs kk => zgetv hC hH hf hs rfl hd (kk hl)) kk
theorem zi_getR {idx ci k a : Nat} {fin : Bool} {K : Nat → Option (α × zH)} (hd : decode cc pc = .ok (.getfield idx, 3)) (hf : zFl y.cls idx ci k 2 fin) (kk : ∀ v : Nat, zW G y cc nL rt ev d (pc + 3) l (.ref (zbase G + v) :: st) h (K v)) : zW G y cc nL rt ev d pc l (.ref (zbase G + a) :: st) h (zgR h (ci + 1) a k K) :=
  zread (st' := fun v => .ref (zbase G + v) :: st) (fun _ _ _ _ _ _ _ _ _ _ _ _ _ _ _ hC hH _ hl hs kk => zgetv hC hH hf hs.1 (zrf_pos G hs.2) hd (kk hl)) kk
/-- a field is written: by any kind of value -/
theorem zputv {p : Program} {e : Env} {R : Room} {s : State} {m : MethodId} {args : Array Value} {below : List Frame} {meth : Method} {c0 : Code} {H : Heap} {locs : List Loc} {cells slots : Nat} {Q : State → Prop} {ls : Array Slot} (hC : zCx G y cc nL rt d p R s m args meth c0) (hH : zHR G h H) (hS : va_S (zA G) s.heap H locs) {idx ci k t : Nat} {a : Nat} {v : Value} {h1 : zH} (hf : zFl y.cls idx ci k t false ∨ (zFl y.cls idx ci k t true ∧ y.name = "<init>" ∧ ∀ C, (vwCl[ci]?).map (fun q => q.1) = some C → C = y.cls)) (hs : zsh h a = ci + 1) (hv : zkd t v) (hn : znx h1 = znx h) (hsh : ∀ b, zsh h1 b = zsh h b) (hce : ∀ b, b ≠ a → zce G h1 b = zce G h b) (hfs : zfs G h1 a (zft ci) = (zfs G h a (zft ci)).set k v) (hd : decode cc pc = .ok (.putfield idx, 3))
    (kk : ∀ H1 locs1, zHR G h1 H1 → va_S (zA G) s.heap H1 locs1 → W p G.1 e R s m args below meth c0 H1 locs1 cells slots Q (F0 m (pc + 3) ls st)) : W p G.1 e R s m args below meth c0 H locs cells slots Q (F0 m pc ls (v :: .ref (zbase G + a) :: st)) := by
  have hA : zA G (zbase G + a) := by
    have := (hH.2.2 a (by omega)).1
    show zbase G < zbase G + a
    omega
  obtain ⟨hx, hb, -, -, hts, hown, -, hnm0, -, hKU⟩ := hC
  have hK := hKU.1.1
  have key : ∀ fin, zFl y.cls idx ci k t fin → (fin = true → y.name = "<init>" ∧ ∀ C, (vwCl[ci]?).map (fun q => q.1) = some C → C = y.cls) → W p G.1 e R s m args below meth c0 H locs cells slots Q (F0 m pc ls (v :: .ref (zbase G + a) :: st)) := by
    rintro fin ⟨C, T, N, ty, ⟨hcl, hin0, hty, hnm, hi⟩, hk, hft, hlk, hfin, hC1, hkd⟩ hfi
    have hin : ∀ w ∈ u_ws C T N, w ∈ zWs y cc nL rt := fun w hw => List.mem_cons_of_mem _ (hin0 w hw)
    have hlink := hts _ (List.mem_cons_of_mem _ hlk)
    have hap := va_apart (own := y.cls) hts hin ty hty hnm hK hcl
    have hl : k < (zfs G h a (zft ci)).length := by rw [zfs_len]; exact (List.getElem?_eq_some_iff.mp hft).1
    obtain ⟨r, h1', cell, q1, q2, q3, q4⟩ := hH.obj hs hi
    have hr : r = (C, T, N) := Option.some.inj (h1'.symm.trans hcl)
    subst hr
    obtain ⟨hSl, hfc, kC, hkC, hkind⟩ := hK.1 ci _ hcl
    obtain ⟨cf, kf, fi, f, hi', hsl⟩ := hSl k hk
    have hst := (u_facts hfc hkC (u_lays hts hin hk) hi').1
    obtain ⟨hnar, hfit⟩ := hkd v hv
    have fin2 : ∀ H', H'[zbase G + a]? = some (cell.setSlot f.slot v) → H'.size = H.size → (∀ q : Nat, q ≠ zbase G + a → H'[q]? = H[q]?) → zHR G h1 H' := by
      intro H' e1 e2 e3
      rw [hsl] at e1
      refine zHR_set hH hn hsh hce e2 e3 ?_
      rw [zce_obj ((hsh a).trans hs) hi, hfs]
      exact ⟨_, hcl, t_OB.to (V := updV (vp_V (zfs G h a (zft ci))) k v) ⟨_, e1, q2, q3, t_set q4 hap hk v⟩ (fun j _ => vp_updV_set hl v j)⟩
    cases fin with
    | false =>
      have hlay := hts _ (hin _ (u_in_lay hk))
      unfold u_lay at hlay
      rw [if_neg (by rw [hfin]; decide)] at hlay
      have h6 := u_store hfc hkC hkind hlay hi' (hty k hk) hnar hfit
      refine W.putK hx hb (f := f) ⟨hown, hlink, ⟨_, _, _, hi'⟩, hst⟩ (by rw [q2]; exact h6) q1 q3 (by rw [hsl]; exact k2_hasslot (q4 k hk)) rfl rfl hd fun H' e1 e2 e3 => ?_
      exact kk H' _ (fin2 H' e1 e2 e3) (hS.put e2 e3 hA)
    | true =>
      obtain ⟨hini, hCy⟩ := hfi rfl
      have hCC : C = y.cls := hCy C (by rw [hcl]; rfl)
      have hlay := hts _ (hin _ (u_in_lay hk))
      unfold u_lay at hlay
      rw [if_pos hfin] at hlay
      have hcf : m.cls = cf := by
        obtain ⟨_, _, c', _, _, _, -, -, hf', -, -, -, hown2, -⟩ := Cond.laysFinal_spec hlay
        have e1 : c' = cf := by have := hi'.symm.trans hf'; simp at this; exact this.1.symm
        rw [hC1, hCC] at hown2
        rw [← e1]; exact Option.some.inj (hown.symm.trans hown2)
      have h6 := u_fits hfc hkC hkind (Or.inr hlay) hi' (hty k hk) hnar hfit
      refine W.putFinK hx hb hown hlink hi' hst hcf (hnm0.trans hini) (by rw [q2]; exact h6) q1 q3 (by rw [hsl]; exact k2_hasslot (q4 k hk)) rfl rfl hd fun H' e1 e2 e3 => ?_
      exact kk H' _ (fin2 H' e1 e2 e3) (hS.put e2 e3 hA)
  rcases hf with hf | ⟨hf, hi⟩
  · exact key false hf (fun q => by cases q)
  · exact key true hf (fun _ => hi)
theorem zi_putI {idx ci k a : Nat} {v : Int32} {K : zH → Option (α × zH)} (hd : decode cc pc = .ok (.putfield idx, 3)) (hf : zFl y.cls idx ci k 0 false) (kk : ∀ h1 : zH, zW G y cc nL rt ev d (pc + 3) l st h1 (K h1)) : zW G y cc nL rt ev d pc l (.int v :: .ref (zbase G + a) :: st) h (zpI h (ci + 1) a k v K) :=
  zwrite rfl rfl (fun _ _ _ _ _ _ _ _ _ _ _ _ _ _ _ hC hH hS hl hs kk => zputv (h1 := zsi h a k v) hC hH hS (Or.inl hf) hs ⟨v, rfl⟩ rfl (fun _ => rfl) (fun b hb => zce_si hb) (by obtain ⟨_, _, _, _, _, _, hft, _⟩ := hf; exact zfs_si hft (by decide) (by decide)) hd (fun H1 locs1 hH1 hS1 => kk H1 locs1 hH1 hS1 hl)) kk
theorem zi_putIF {idx ci k a : Nat} {v : Int32} {K : zH → Option (α × zH)} (hd : decode cc pc = .ok (.putfield idx, 3)) (hf : zFl y.cls idx ci k 0 true) (hin : y.name = "<init>") (hcy : (vwCl[ci]?).map (fun q => q.1) = some y.cls) (kk : ∀ h1 : zH, zW G y cc nL rt ev d (pc + 3) l st h1 (K h1)) : zW G y cc nL rt ev d pc l (.int v :: .ref (zbase G + a) :: st) h (zpI h (ci + 1) a k v K) :=
  zwrite rfl rfl (fun _ _ _ _ _ _ _ _ _ _ _ _ _ _ _ hC hH hS hl hs kk => zputv (h1 := zsi h a k v) hC hH hS (Or.inr ⟨hf, hin, fun C hC0 => Option.some.inj (hC0.symm.trans hcy)⟩) hs ⟨v, rfl⟩ rfl (fun _ => rfl) (fun b hb => zce_si hb) (by obtain ⟨_, _, _, _, _, _, hft, _⟩ := hf; exact zfs_si hft (by decide) (by decide)) hd (fun H1 locs1 hH1 hS1 => kk H1 locs1 hH1 hS1 hl)) kk
theorem zi_putZ {idx ci k a : Nat} {v : Int32} {K : zH → Option (α × zH)} (hd : decode cc pc = .ok (.putfield idx, 3)) (hf : zFl y.cls idx ci k 3 false) (kk : ∀ h1 : zH, zW G y cc nL rt ev d (pc + 3) l st h1 (K h1)) : zW G y cc nL rt ev d pc l (.int v :: .ref (zbase G + a) :: st) h (zpZ h (ci + 1) a k v K) :=
  zwrite rfl rfl (fun _ _ _ _ _ _ _ _ _ _ _ _ _ _ _ hC hH hS hl hs kk => zputv (h1 := zsi h a k v) hC hH hS (Or.inl hf) hs.1 (by rcases hs.2 with q | q <;> rw [q] <;> first | exact Or.inl rfl | exact Or.inr rfl) rfl (fun _ => rfl) (fun b hb => zce_si hb) (by obtain ⟨_, _, _, _, _, _, hft, _⟩ := hf; exact zfs_si hft (by decide) (by decide)) hd (fun H1 locs1 hH1 hS1 => kk H1 locs1 hH1 hS1 hl)) kk
theorem zi_putZF {idx ci k a : Nat} {v : Int32} {K : zH → Option (α × zH)} (hd : decode cc pc = .ok (.putfield idx, 3)) (hf : zFl y.cls idx ci k 3 true) (hin : y.name = "<init>") (hcy : (vwCl[ci]?).map (fun q => q.1) = some y.cls) (kk : ∀ h1 : zH, zW G y cc nL rt ev d (pc + 3) l st h1 (K h1)) : zW G y cc nL rt ev d pc l (.int v :: .ref (zbase G + a) :: st) h (zpZ h (ci + 1) a k v K) :=
  zwrite rfl rfl (fun _ _ _ _ _ _ _ _ _ _ _ _ _ _ _ hC hH hS hl hs kk => zputv (h1 := zsi h a k v) hC hH hS (Or.inr ⟨hf, hin, fun C hC0 => Option.some.inj (hC0.symm.trans hcy)⟩) hs.1 (by rcases hs.2 with q | q <;> rw [q] <;> first | exact Or.inl rfl | exact Or.inr rfl) rfl (fun _ => rfl) (fun b hb => zce_si hb) (by obtain ⟨_, _, _, _, _, _, hft, _⟩ := hf; exact zfs_si hft (by decide) (by decide)) hd (fun H1 locs1 hH1 hS1 => kk H1 locs1 hH1 hS1 hl)) kk
theorem zi_putL {idx ci k a : Nat} {v : Int64} {K : zH → Option (α × zH)} (hd : decode cc pc = .ok (.putfield idx, 3)) (hf : zFl y.cls idx ci k 1 false) (kk : ∀ h1 : zH, zW G y cc nL rt ev d (pc + 3) l st h1 (K h1)) : zW G y cc nL rt ev d pc l (.long v :: .ref (zbase G + a) :: st) h (zpL h (ci + 1) a k v K) :=
  zwrite rfl rfl (fun _ _ _ _ _ _ _ _ _ _ _ _ _ _ _ hC hH hS hl hs kk => zputv (h1 := zsg h a k v) hC hH hS (Or.inl hf) hs ⟨v, rfl⟩ rfl (fun _ => rfl) (fun b hb => zce_sg hb) (by obtain ⟨_, _, _, _, _, _, hft, _⟩ := hf; exact zfs_sg hft) hd (fun H1 locs1 hH1 hS1 => kk H1 locs1 hH1 hS1 hl)) kk
theorem zi_putLF {idx ci k a : Nat} {v : Int64} {K : zH → Option (α × zH)} (hd : decode cc pc = .ok (.putfield idx, 3)) (hf : zFl y.cls idx ci k 1 true) (hin : y.name = "<init>") (hcy : (vwCl[ci]?).map (fun q => q.1) = some y.cls) (kk : ∀ h1 : zH, zW G y cc nL rt ev d (pc + 3) l st h1 (K h1)) : zW G y cc nL rt ev d pc l (.long v :: .ref (zbase G + a) :: st) h (zpL h (ci + 1) a k v K) :=
  zwrite rfl rfl (fun _ _ _ _ _ _ _ _ _ _ _ _ _ _ _ hC hH hS hl hs kk => zputv (h1 := zsg h a k v) hC hH hS (Or.inr ⟨hf, hin, fun C hC0 => Option.some.inj (hC0.symm.trans hcy)⟩) hs ⟨v, rfl⟩ rfl (fun _ => rfl) (fun b hb => zce_sg hb) (by obtain ⟨_, _, _, _, _, _, hft, _⟩ := hf; exact zfs_sg hft) hd (fun H1 locs1 hH1 hS1 => kk H1 locs1 hH1 hS1 hl)) kk
theorem zi_putR {idx ci k a : Nat} {v : Nat} {K : zH → Option (α × zH)} (hd : decode cc pc = .ok (.putfield idx, 3)) (hf : zFl y.cls idx ci k 2 false) (hv0 : v ≠ 0) (kk : ∀ h1 : zH, zW G y cc nL rt ev d (pc + 3) l st h1 (K h1)) : zW G y cc nL rt ev d pc l (.ref (zbase G + v) :: .ref (zbase G + a) :: st) h (zpR h (ci + 1) a k v K) :=
  zwrite rfl rfl (fun _ _ _ _ _ _ _ _ _ _ _ _ _ _ _ hC hH hS hl hs kk => zputv (h1 := zsr h a k v) hC hH hS (Or.inl hf) hs (Or.inr ⟨_, rfl⟩) rfl (fun _ => rfl) (fun b hb => zce_sr hb) (by obtain ⟨_, _, _, _, _, _, hft, _⟩ := hf; exact (zfs_sr hft).trans (by rw [zrf_pos G hv0])) hd (fun H1 locs1 hH1 hS1 => kk H1 locs1 hH1 hS1 hl)) kk
theorem zi_putRF {idx ci k a : Nat} {v : Nat} {K : zH → Option (α × zH)} (hd : decode cc pc = .ok (.putfield idx, 3)) (hf : zFl y.cls idx ci k 2 true) (hin : y.name = "<init>") (hcy : (vwCl[ci]?).map (fun q => q.1) = some y.cls) (hv0 : v ≠ 0) (kk : ∀ h1 : zH, zW G y cc nL rt ev d (pc + 3) l st h1 (K h1)) : zW G y cc nL rt ev d pc l (.ref (zbase G + v) :: .ref (zbase G + a) :: st) h (zpR h (ci + 1) a k v K) :=
  zwrite rfl rfl (fun _ _ _ _ _ _ _ _ _ _ _ _ _ _ _ hC hH hS hl hs kk => zputv (h1 := zsr h a k v) hC hH hS (Or.inr ⟨hf, hin, fun C hC0 => Option.some.inj (hC0.symm.trans hcy)⟩) hs (Or.inr ⟨_, rfl⟩) rfl (fun _ => rfl) (fun b hb => zce_sr hb) (by obtain ⟨_, _, _, _, _, _, hft, _⟩ := hf; exact (zfs_sr hft).trans (by rw [zrf_pos G hv0])) hd (fun H1 locs1 hH1 hS1 => kk H1 locs1 hH1 hS1 hl)) kk
end
