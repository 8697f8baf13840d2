/-! what is made; calls; ends; switches -/
section
variable {G : zG} {y : MethodName} {cc : ByteArray} {nL : Nat} {rt : Option FieldType} {α : Type} {ev : α → Option Value} {d pc : Nat} {l : List (Nat × Value)} {st : List Value} {h : zH} {X : Option (α × zH)}
theorem zmake {h1 : zH} {sl pc' : Nat} {st' : List Value} (hn : znx h1 = znx h + 1) (hsl : zsl h1 = zsl h + sl)
    (hst : ∀ (p : Program) (e : Env) (R : Room) (s : State) (m : MethodId) (args : Array Value) (below : List Frame) (meth : Method) (c0 : Code) (H : Heap) (locs : List Loc) (cells slots : Nat) (Q : State → Prop) (ls : Array Slot), zCx G y cc nL rt d p R s m args meth c0 → zHR G h H → va_S (zA G) s.heap H locs → lv_has ls nL l → cells + 1 ≤ R.cells → slots + sl ≤ R.slots →
      (∀ H1 locs1, zHR G h1 H1 → va_S (zA G) s.heap H1 locs1 → lv_has ls nL l → W p G.1 e R s m args below meth c0 H1 locs1 (cells + 1) (slots + sl) Q (F0 m pc' ls st')) → W p G.1 e R s m args below meth c0 H locs cells slots Q (F0 m pc ls st))
    (k : zW G y cc nL rt ev d pc' l st' h1 X) : zW G y cc nL rt ev d pc l st h X := by
  intro r h' hX
  obtain ⟨b1, b2, kk⟩ := k r h' hX
  rw [hn] at b1 kk
  rw [hsl] at b2 kk
  refine ⟨by omega, by omega, fun p e R s m args below meth c0 H locs cells slots mc ms ls hC hH hS hl hc hs g1 g2 => ?_⟩
  exact hst p e R s m args below meth c0 H locs cells slots _ ls hC hH hS hl (by omega) (by omega) (fun H1 locs1 hH1 hS1 hl1 => kk p e R s m args below meth c0 H1 locs1 (cells + 1) (slots + sl) mc ms ls hC hH1 hS1 hl1 (by omega) (by omega) g1 g2)
theorem zS_push {s : State} {H H1 : Heap} {locs : List Loc} (hS : va_S (zA G) s.heap H locs) (hz : H1.size = H.size + 1) (oq : ∀ q : Nat, q < H.size → H1[q]? = H[q]?) : va_S (zA G) s.heap H1 locs :=
  ⟨Nat.le_trans hS.1 (by omega), fun x h1 h2 => (oq x (Nat.lt_of_lt_of_le h1 hS.1)).trans (hS.2.1 x h1 h2), hS.2.2⟩
theorem znw_at {c n sl : Nat} : zsh (znw h c n sl) (znx h + 1) = c ∧ zln (znw h c n sl) (znx h + 1) = n ∧ zmi (znw h c n sl) (znx h + 1) = (fun _ => 0) ∧ zml (znw h c n sl) (znx h + 1) = (fun _ => 0) ∧ ∀ k, zmr (znw h c n sl) (znx h + 1) k = 0 := ⟨zup_eq, zup_eq, zrw_eq, zrw_eq, fun k => congrFun zrw_eq k⟩
def zNew (own : String) (idx ci N : Nat) : Prop := ∃ (C : String) (T : u_T) (ty : Nat → FieldType), zCls ci C T N ty ∧ Cond.classLink own idx C ∈ zT ∧ Cond.instantiable C N ∈ zT ∧ Cond.initialized C ∈ zT ∧ ∀ j, j < N → defaultValue (ty j) = vp_V ((zft ci).map (fun t => if t = 1 then .long 0 else if t = 2 then .null else .int 0)) j
theorem zi_new {idx ci N : Nat} {K : Nat → zH → Option (α × zH)} (hd : decode cc pc = .ok (.new idx, 3)) (hw : zNew y.cls idx ci N) (kk : ∀ (a : Nat) (h1 : zH), a ≠ 0 → zW G y cc nL rt ev d (pc + 3) l (.ref (zbase G + a) :: st) h1 (K a h1)) : zW G y cc nL rt ev d pc l st h (znO h (ci + 1) N K) := by
  refine zmake (h1 := znw h (ci + 1) 0 N) (sl := N) rfl rfl (fun p e R s m args below meth c0 H locs cells slots Q ls hC hH hS hl hc hs kk => ?_) (kk (znx h + 1) (znw h (ci + 1) 0 N) (by omega))
  obtain ⟨C, T, ty, ⟨hcl, hin0, hty, hnm, hi⟩, w1, w2, w3, hdf⟩ := hw
  have hts := hC.2.2.2.2.1
  have hin : ∀ w ∈ u_ws C T N, w ∈ zWs y cc nL rt := fun w hw => List.mem_cons_of_mem _ (hin0 w hw)
  have hKn := hC.2.2.2.2.2.2.2.2.2.1.1.1 ci _ hcl
  refine W.newcK hC.1 hC.2.1 hC.2.2.2.2.2.1 (hts _ (List.mem_cons_of_mem _ w1)) (hts _ (List.mem_cons_of_mem _ w2)) (hts _ (List.mem_cons_of_mem _ w3)) rfl hd hc hs hKn.2.1 rfl fun H1 kC hkC e1 z1 o1 => ?_
  have hsz : H.size = zbase G + (znx h + 1) := by rw [hH.1]; omega
  rw [hsz] at e1 ⊢
  refine kk H1 locs (zHR_new hH rfl (fun b hb => zup_ne hb) (fun b hb => zce_nw hb) z1 o1 ?_) (zS_push hS z1 o1) hl
  obtain ⟨f1, -, f3, f4, f5⟩ := znw_at (h := h) (c := ci + 1) (n := 0) (sl := N)
  rw [zce_obj f1 hi]
  refine ⟨_, hcl, (u_born ty hts hin hKn hkC e1 hty).to ?_⟩
  intro j hj
  rw [hdf j hj]
  unfold vp_V zfs
  rw [List.getD_eq_getElem?_getD, List.getD_eq_getElem?_getD, List.getElem?_map, List.getElem?_mapIdx, f3, f4]
  cases (zft ci)[j]? with
  | none => rfl
  | some t =>
    show (if t = 1 then Value.long 0 else if t = 2 then .null else .int 0) = _
    show _ = (if t = 1 then Value.long 0 else if t = 2 then zrf G (zmr (znw h (ci + 1) 0 N) (znx h + 1) j) else .int 0)
    rw [f5]
    rfl
theorem zi_newaI {n : Int32} {K : Nat → zH → Option (α × zH)} (hd : decode cc pc = .ok (.newarray .int, 2)) (kk : ∀ (a : Nat) (h1 : zH), a ≠ 0 → zW G y cc nL rt ev d (pc + 2) l (.ref (zbase G + a) :: st) h1 (K a h1)) (hw : Cond.arrayClass .int ∈ zT) : zW G y cc nL rt ev d pc l (.int n :: st) h (znA h 21 n K) := by
  intro r h' hX
  unfold znA at hX
  by_cases hn : n < 0 ∨ 65536 ≤ n.toNatClampNeg
  · rw [if_pos hn] at hX; cases hX
  rw [if_neg hn] at hX
  revert hX
  revert r h'
  show zW G y cc nL rt ev d pc l (.int n :: st) h (K _ _)
  refine zmake (h1 := znw h 21 n.toNatClampNeg n.toNatClampNeg) (sl := n.toNatClampNeg) rfl rfl (fun p e R s m args below meth c0 H locs cells slots Q ls hC hH hS hl hc hs kk => ?_) (kk (znx h + 1) (znw h 21 n.toNatClampNeg n.toNatClampNeg) (by omega))
  have hts := hC.2.2.2.2.1
  refine va_newaK (atype := .int) hC.1 hC.2.1 (hts _ (List.mem_cons_of_mem _ hw)) rfl hd rfl (fun q => hn (Or.inl q)) rfl (by have : n.toNatClampNeg < 65536 := Nat.not_le.mp (fun q => hn (Or.inr q)); show _ * 4 ≤ _; omega) hc hs rfl fun H1 cA e1 z1 o1 hAr hNm => ?_
  have hcA : cA = G.2.2.1 21 := Option.some.inj (hNm.symm.trans (hC.2.2.2.2.2.2.2.2.2.1.1.2 0 _ rfl).2)
  subst hcA
  have hsz : H.size = zbase G + (znx h + 1) := by rw [hH.1]; omega
  rw [hsz] at e1 ⊢
  refine kk H1 locs (zHR_new hH rfl (fun b hb => zup_ne hb) (fun b hb => zce_nw hb) (by rw [z1]) o1 ?_) (zS_push hS (by rw [z1]) o1) hl
  obtain ⟨f1, f2, f3, -, -⟩ := znw_at (h := h) (c := 21) (n := n.toNatClampNeg) (sl := n.toNatClampNeg)
  rw [zce_int f1 (by decide) (by decide) (by decide), f2, f3]
  exact e1
theorem zi_newaB {n : Int32} {K : Nat → zH → Option (α × zH)} (hd : decode cc pc = .ok (.newarray .byte, 2)) (kk : ∀ (a : Nat) (h1 : zH), a ≠ 0 → zW G y cc nL rt ev d (pc + 2) l (.ref (zbase G + a) :: st) h1 (K a h1)) (hw : Cond.arrayClass .byte ∈ zT) : zW G y cc nL rt ev d pc l (.int n :: st) h (znA h 23 n K) := by
  intro r h' hX
  unfold znA at hX
  by_cases hn : n < 0 ∨ 65536 ≤ n.toNatClampNeg
  · rw [if_pos hn] at hX; cases hX
  rw [if_neg hn] at hX
  revert hX
  revert r h'
  show zW G y cc nL rt ev d pc l (.int n :: st) h (K _ _)
  refine zmake (h1 := znw h 23 n.toNatClampNeg n.toNatClampNeg) (sl := n.toNatClampNeg) rfl rfl (fun p e R s m args below meth c0 H locs cells slots Q ls hC hH hS hl hc hs kk => ?_) (kk (znx h + 1) (znw h 23 n.toNatClampNeg n.toNatClampNeg) (by omega))
  have hts := hC.2.2.2.2.1
  refine va_newaK (atype := .byte) hC.1 hC.2.1 (hts _ (List.mem_cons_of_mem _ hw)) rfl hd rfl (fun q => hn (Or.inl q)) rfl (by have : n.toNatClampNeg < 65536 := Nat.not_le.mp (fun q => hn (Or.inr q)); show _ * 1 ≤ _; omega) hc hs rfl fun H1 cA e1 z1 o1 hAr hNm => ?_
  have hcA : cA = G.2.2.1 23 := Option.some.inj (hNm.symm.trans (hC.2.2.2.2.2.2.2.2.2.1.1.2 2 _ rfl).2)
  subst hcA
  have hsz : H.size = zbase G + (znx h + 1) := by rw [hH.1]; omega
  rw [hsz] at e1 ⊢
  refine kk H1 locs (zHR_new hH rfl (fun b hb => zup_ne hb) (fun b hb => zce_nw hb) (by rw [z1]) o1 ?_) (zS_push hS (by rw [z1]) o1) hl
  obtain ⟨f1, f2, f3, -, -⟩ := znw_at (h := h) (c := 23) (n := n.toNatClampNeg) (sl := n.toNatClampNeg)
  rw [zce_int f1 (by decide) (by decide) (by decide), f2, f3]
  exact e1
theorem zi_newaZ {n : Int32} {K : Nat → zH → Option (α × zH)} (hd : decode cc pc = .ok (.newarray .boolean, 2)) (kk : ∀ (a : Nat) (h1 : zH), a ≠ 0 → zW G y cc nL rt ev d (pc + 2) l (.ref (zbase G + a) :: st) h1 (K a h1)) (hw : Cond.arrayClass .boolean ∈ zT) : zW G y cc nL rt ev d pc l (.int n :: st) h (znA h 24 n K) := by
  intro r h' hX
  unfold znA at hX
  by_cases hn : n < 0 ∨ 65536 ≤ n.toNatClampNeg
  · rw [if_pos hn] at hX; cases hX
  rw [if_neg hn] at hX
  revert hX
  revert r h'
  show zW G y cc nL rt ev d pc l (.int n :: st) h (K _ _)
  refine zmake (h1 := znw h 24 n.toNatClampNeg n.toNatClampNeg) (sl := n.toNatClampNeg) rfl rfl (fun p e R s m args below meth c0 H locs cells slots Q ls hC hH hS hl hc hs kk => ?_) (kk (znx h + 1) (znw h 24 n.toNatClampNeg n.toNatClampNeg) (by omega))
  have hts := hC.2.2.2.2.1
  refine va_newaK (atype := .boolean) hC.1 hC.2.1 (hts _ (List.mem_cons_of_mem _ hw)) rfl hd rfl (fun q => hn (Or.inl q)) rfl (by have : n.toNatClampNeg < 65536 := Nat.not_le.mp (fun q => hn (Or.inr q)); show _ * 1 ≤ _; omega) hc hs rfl fun H1 cA e1 z1 o1 hAr hNm => ?_
  have hcA : cA = G.2.2.1 24 := Option.some.inj (hNm.symm.trans (hC.2.2.2.2.2.2.2.2.2.1.1.2 3 _ rfl).2)
  subst hcA
  have hsz : H.size = zbase G + (znx h + 1) := by rw [hH.1]; omega
  rw [hsz] at e1 ⊢
  refine kk H1 locs (zHR_new hH rfl (fun b hb => zup_ne hb) (fun b hb => zce_nw hb) (by rw [z1]) o1 ?_) (zS_push hS (by rw [z1]) o1) hl
  obtain ⟨f1, f2, f3, -, -⟩ := znw_at (h := h) (c := 24) (n := n.toNatClampNeg) (sl := n.toNatClampNeg)
  rw [zce_int f1 (by decide) (by decide) (by decide), f2, f3]
  exact e1
theorem zi_newaL {n : Int32} {K : Nat → zH → Option (α × zH)} (hd : decode cc pc = .ok (.newarray .long, 2)) (kk : ∀ (a : Nat) (h1 : zH), a ≠ 0 → zW G y cc nL rt ev d (pc + 2) l (.ref (zbase G + a) :: st) h1 (K a h1)) (hw : Cond.arrayClass .long ∈ zT) : zW G y cc nL rt ev d pc l (.int n :: st) h (znA h 22 n K) := by
  intro r h' hX
  unfold znA at hX
  by_cases hn : n < 0 ∨ 65536 ≤ n.toNatClampNeg
  · rw [if_pos hn] at hX; cases hX
  rw [if_neg hn] at hX
  revert hX
  revert r h'
  show zW G y cc nL rt ev d pc l (.int n :: st) h (K _ _)
  refine zmake (h1 := znw h 22 n.toNatClampNeg n.toNatClampNeg) (sl := n.toNatClampNeg) rfl rfl (fun p e R s m args below meth c0 H locs cells slots Q ls hC hH hS hl hc hs kk => ?_) (kk (znx h + 1) (znw h 22 n.toNatClampNeg n.toNatClampNeg) (by omega))
  have hts := hC.2.2.2.2.1
  refine va_newaK (atype := .long) hC.1 hC.2.1 (hts _ (List.mem_cons_of_mem _ hw)) rfl hd rfl (fun q => hn (Or.inl q)) rfl (by have : n.toNatClampNeg < 65536 := Nat.not_le.mp (fun q => hn (Or.inr q)); show _ * 8 ≤ _; omega) hc hs rfl fun H1 cA e1 z1 o1 hAr hNm => ?_
  have hcA : cA = G.2.2.1 22 := Option.some.inj (hNm.symm.trans (hC.2.2.2.2.2.2.2.2.2.1.1.2 1 _ rfl).2)
  subst hcA
  have hsz : H.size = zbase G + (znx h + 1) := by rw [hH.1]; omega
  rw [hsz] at e1 ⊢
  refine kk H1 locs (zHR_new hH rfl (fun b hb => zup_ne hb) (fun b hb => zce_nw hb) (by rw [z1]) o1 ?_) (zS_push hS (by rw [z1]) o1) hl
  obtain ⟨f1, f2, -, f4, -⟩ := znw_at (h := h) (c := 22) (n := n.toNatClampNeg) (sl := n.toNatClampNeg)
  rw [zce_lng f1, f2, f4]
  exact e1
/-- rows of references: t, tt, C as the known types have them -/
theorem zi_newq {n : Int32} {idx t tt : Nat} {C : String} {K : Nat → zH → Option (α × zH)} (htt : (zty G)[tt]? = some (G.2.2.1 t, .object C)) (ht : 25 ≤ t) (hao : ∀ U, zKU G U → va_AO C U) (hd : decode cc pc = .ok (.anewarray idx, 3)) (hw : Cond.classLink y.cls idx C ∈ zT) (kk : ∀ (a : Nat) (h1 : zH), a ≠ 0 → zW G y cc nL rt ev d (pc + 3) l (.ref (zbase G + a) :: st) h1 (K a h1)) : zW G y cc nL rt ev d pc l (.int n :: st) h (znA h t n K) := by
  intro r h' hX
  unfold znA at hX
  by_cases hn : n < 0 ∨ 65536 ≤ n.toNatClampNeg
  · rw [if_pos hn] at hX; cases hX
  rw [if_neg hn] at hX
  revert hX
  revert r h'
  show zW G y cc nL rt ev d pc l (.int n :: st) h (K _ _)
  refine zmake (h1 := znw h t n.toNatClampNeg n.toNatClampNeg) (sl := n.toNatClampNeg) rfl rfl (fun p e R s m args below meth c0 H locs cells slots Q ls hC hH hS hl hc hs kk => ?_) (kk (znx h + 1) (znw h t n.toNatClampNeg n.toNatClampNeg) (by omega))
  have hts := hC.2.2.2.2.1
  refine W.anew hC.1 hC.2.1 hC.2.2.2.2.2.1 (hts _ (List.mem_cons_of_mem _ hw)) (va_AO.use (hao s hC.2.2.2.2.2.2.2.2.2)) rfl hd rfl (fun q => hn (Or.inl q)) (by have : n.toNatClampNeg < 65536 := Nat.not_le.mp (fun q => hn (Or.inr q)); omega) hc hs fun cA kA comp f1 f2 f3 f4 => ?_
  obtain ⟨-, -, -, -, -, k4⟩ := (hC.2.2.2.2.2.2.2.2.2.1.1.2 tt _ htt).2
  have hcA : cA = G.2.2.1 t := Option.some.inj (f1.symm.trans k4)
  subst hcA
  generalize hH1 : H.push ({ cls := G.2.2.1 t, slots := Array.replicate n.toNatClampNeg .null, vm := .none } : Cell) = H1
  have z1 : H1.size = H.size + 1 := by rw [← hH1, Array.size_push]
  have e1 : H1[H.size]? = some (arrV (G.2.2.1 t) n.toNatClampNeg (fun _ => .null)) := by rw [← hH1, Array.getElem?_push_size, ← arrV_new]
  have o1 : ∀ q : Nat, q < H.size → H1[q]? = H[q]? := fun q hq => by rw [← hH1, Array.getElem?_push, if_neg (Nat.ne_of_lt hq)]
  have hsz : H.size = zbase G + (znx h + 1) := by rw [hH.1]; omega
  rw [hsz] at e1
  show W p G.1 e R s m args below meth c0 H1 locs _ _ Q (F0 m (pc + 3) ls (.ref H.size :: st))
  rw [hsz]
  refine kk H1 locs (zHR_new hH rfl (fun b hb => zup_ne hb) (fun b hb => zce_nw hb) z1 o1 ?_) (zS_push hS z1 o1) hl
  obtain ⟨g1, g2, -, -, g5⟩ := znw_at (h := h) (c := t) (n := n.toNatClampNeg) (sl := n.toNatClampNeg)
  rw [zce_ref g1 ht, g2]
  show H1[zbase G + (znx h + 1)]? = some (vp_cell _ _)
  rw [e1, vp_cell_q]
  congr 2
  funext q
  show Value.null = va_rf (zro G (zmr (znw h t n.toNatClampNeg n.toNatClampNeg) (znx h + 1) q))
  rw [zro_rf, g5]
  rfl
end
