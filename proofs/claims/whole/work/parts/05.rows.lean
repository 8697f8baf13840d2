/-! rows of numbers and of references, what is made, calls, ends, switches -/
section
variable {G : zG} {y : MethodName} {cc : ByteArray} {nL : Nat} {rt : Option FieldType} {α : Type} {ev : α → Option Value} {d pc : Nat} {l : List (Nat × Value)} {st : List Value} {h : zH} {X : Option (α × zH)}
theorem zHR.lt {H : Heap} (hH : zHR G h H) {a : Nat} (hs : zsh h a ≠ 0) : zA G (zbase G + a) := by
  have := (hH.2.2 a hs).1
  show zbase G < zbase G + a
  omega
theorem zi_iald {a : Nat} {i : Int32} {K : Int32 → Option (α × zH)} (hd : decode cc pc = .ok (.iaload, 1)) (kk : ∀ v : Int32, zW G y cc nL rt ev d (pc + 1) l (.int v :: st) h (K v)) : zW G y cc nL rt ev d pc l (.int i :: .ref (zbase G + a) :: st) h (zaI h 21 a i K) :=
  zread (st' := fun v => .int v :: st) (fun _ _ _ _ _ _ _ _ _ _ _ _ _ _ _ hC hH _ hl hs kk => by
    have hP := hH.one (a := a) (by rw [hs.1]; decide)
    rw [zce_int hs.1 (by decide) (by decide) (by decide)] at hP
    exact va_iald hC.1 hC.2.1 hC.2.2.2.2.2.2.2.2.2.1.1 hP 0 0 rfl rfl hs.2 hd (kk hl)) kk
theorem zi_bald {a : Nat} {i : Int32} {K : Int32 → Option (α × zH)} (hd : decode cc pc = .ok (.baload, 1)) (kk : ∀ v : Int32, zW G y cc nL rt ev d (pc + 1) l (.int v :: st) h (K v)) : zW G y cc nL rt ev d pc l (.int i :: .ref (zbase G + a) :: st) h (zaI h 23 a i K) :=
  zread (st' := fun v => .int v :: st) (fun _ _ _ _ _ _ _ _ _ _ _ _ _ _ _ hC hH _ hl hs kk => by
    have hP := hH.one (a := a) (by rw [hs.1]; decide)
    rw [zce_int hs.1 (by decide) (by decide) (by decide)] at hP
    exact va_bald hC.1 hC.2.1 hC.2.2.2.2.2.2.2.2.2.1.1 hP 0 2 rfl rfl hs.2 hd (kk hl)) kk
theorem zi_zald {a : Nat} {i : Int32} {K : Int32 → Option (α × zH)} (hd : decode cc pc = .ok (.baload, 1)) (kk : ∀ v : Int32, zW G y cc nL rt ev d (pc + 1) l (.int v :: st) h (K v)) : zW G y cc nL rt ev d pc l (.int i :: .ref (zbase G + a) :: st) h (zaI h 24 a i K) :=
  zread (st' := fun v => .int v :: st) (fun _ _ _ _ _ _ _ _ _ _ _ _ _ _ _ hC hH _ hl hs kk => by
    have hP := hH.one (a := a) (by rw [hs.1]; decide)
    rw [zce_int hs.1 (by decide) (by decide) (by decide)] at hP
    exact va_zald hC.1 hC.2.1 hC.2.2.2.2.2.2.2.2.2.1.1 hP 0 3 rfl rfl hs.2 hd (kk hl)) kk
theorem zi_lald {a : Nat} {i : Int32} {K : Int64 → Option (α × zH)} (hd : decode cc pc = .ok (.laload, 1)) (kk : ∀ v : Int64, zW G y cc nL rt ev d (pc + 1) l (.long v :: st) h (K v)) : zW G y cc nL rt ev d pc l (.int i :: .ref (zbase G + a) :: st) h (zaL h a i K) :=
  zread (st' := fun v => .long v :: st) (fun _ _ _ _ _ _ _ _ _ _ _ _ _ _ _ hC hH _ hl hs kk => by
    have hP := hH.one (a := a) (by rw [hs.1]; decide)
    rw [zce_lng hs.1] at hP
    exact va_lald hC.1 hC.2.1 hC.2.2.2.2.2.2.2.2.2.1.1 hP 0 1 rfl rfl hs.2 hd (kk hl)) kk
theorem zi_aaldT {a : Nat} {i : Int32} {K : Nat → Option (α × zH)} (hd : decode cc pc = .ok (.aaload, 1)) (kk : ∀ v : Nat, zW G y cc nL rt ev d (pc + 1) l (zrf G v :: st) h (K v)) : zW G y cc nL rt ev d pc l (.int i :: .ref (zbase G + a) :: st) h (zaR h 25 a i K) :=
  zread (st' := fun v => zrf G v :: st) (fun _ _ _ _ _ _ _ _ _ _ _ _ _ _ _ hC hH _ hl hs kk => by
    have hP := hH.one (a := a) (by rw [hs.1]; decide)
    rw [zce_ref hs.1 (by decide)] at hP
    refine va_aldq hC.1 hC.2.1 hC.2.2.2.2.2.2.2.2.2.1.1 hP 0 4 rfl rfl hs.2 hd ?_
    rw [zro_rf]
    exact kk hl) kk
theorem zi_aaldW {a : Nat} {i : Int32} {K : Nat → Option (α × zH)} (hd : decode cc pc = .ok (.aaload, 1)) (kk : ∀ v : Nat, zW G y cc nL rt ev d (pc + 1) l (.ref (zbase G + v) :: st) h (K v)) : zW G y cc nL rt ev d pc l (.int i :: .ref (zbase G + a) :: st) h (zaN h 26 a i K) :=
  zread (st' := fun v => .ref (zbase G + v) :: st) (fun _ _ _ _ _ _ _ _ _ _ _ _ _ _ _ hC hH _ hl hs kk => by
    have hP := hH.one (a := a) (by rw [hs.1.1]; decide)
    rw [zce_ref hs.1.1 (by decide)] at hP
    refine va_aldq hC.1 hC.2.1 hC.2.2.2.2.2.2.2.2.2.1.1 hP 0 5 rfl rfl hs.1.2 hd ?_
    rw [zro_rf, zrf_pos G hs.2]
    exact kk hl) kk
theorem zi_alen {a t : Nat} {K : Int32 → Option (α × zH)} (ht : t = 21 ∨ t = 23) (hd : decode cc pc = .ok (.arraylength, 1)) (kk : ∀ v : Int32, zW G y cc nL rt ev d (pc + 1) l (.int v :: st) h (K v)) : zW G y cc nL rt ev d pc l (.ref (zbase G + a) :: st) h (zln' h t a K) :=
  zread (st' := fun v => .int v :: st) (fun _ _ _ _ _ _ _ _ _ _ _ _ _ _ _ hC hH _ hl hs kk => by
    have hP := hH.one (a := a) (by rw [hs]; rcases ht with rfl | rfl <;> decide)
    rw [zce_int hs (by rcases ht with rfl | rfl <;> decide) (by rcases ht with rfl | rfl <;> decide) (by rcases ht with rfl | rfl <;> decide)] at hP
    rcases ht with rfl | rfl
    · exact va_alen hC.1 hC.2.1 hC.2.2.2.2.2.2.2.2.2.1.1 hP 0 0 rfl rfl rfl hd (kk hl)
    · exact va_alen hC.1 hC.2.1 hC.2.2.2.2.2.2.2.2.2.1.1 hP 0 2 rfl rfl rfl hd (kk hl)) kk
theorem zmi_si {a k : Nat} {v : Int32} : zmi (zsi h a k v) a = upd (zmi h a) k v := zu_eq
theorem zml_sg {a k : Nat} {v : Int64} : zml (zsg h a k v) a = vp_updL (zml h a) k v := zu_eq
theorem zi_iast {a : Nat} {i v : Int32} {K : zH → Option (α × zH)} (hd : decode cc pc = .ok (.iastore, 1)) (kk : ∀ h1 : zH, zW G y cc nL rt ev d (pc + 1) l st h1 (K h1)) : zW G y cc nL rt ev d pc l (.int v :: .int i :: .ref (zbase G + a) :: st) h (zeI h a i v K) :=
  zwrite rfl rfl (fun _ _ _ _ _ _ _ _ _ _ _ _ _ _ _ hC hH hS hl hs kk => by
    have hA := hH.lt (a := a) (by rw [hs.1]; decide)
    have hc := hH.one (a := a) (by rw [hs.1]; decide) 0 _ rfl
    rw [zce_int hs.1 (by decide) (by decide) (by decide)] at hc
    refine W.iast hC.1 hC.2.1 hc ((hC.2.2.2.2.2.2.2.2.2.1.1.2 0 _ rfl).1 (zln h a) (fun j => .int (zmi h a j))) (fun q => by cases q) (by show ¬ (i < 0 ∨ (arrV _ _ _).slots.size ≤ _); rw [arrV_size]; exact hs.2) rfl rfl hd fun H1 e z oq => ?_
    refine kk H1 _ (zHR_set hH rfl (fun _ => rfl) (fun b hb => zce_si hb) z oq ?_) (hS.put z oq hA) hl
    rw [zce_int (h := zsi h a i.toNatClampNeg v) hs.1 (by decide) (by decide) (by decide)]
    show H1[zbase G + a]? = some (vp_cell _ _)
    rw [e, zmi_si, vp_cell_i, vp_cell_i]
    rw [arrV_store]
    congr 2
    funext q
    by_cases hq : q = i.toNatClampNeg
    · subst hq; simp [updV, upd]
    · simp [updV, upd, hq]) kk
theorem zi_bast {a : Nat} {i v : Int32} {K : zH → Option (α × zH)} (hd : decode cc pc = .ok (.bastore, 1)) (kk : ∀ h1 : zH, zW G y cc nL rt ev d (pc + 1) l st h1 (K h1)) : zW G y cc nL rt ev d pc l (.int v :: .int i :: .ref (zbase G + a) :: st) h (zeB h a i v K) :=
  zwrite rfl rfl (fun _ _ _ _ _ _ _ _ _ _ _ _ _ _ _ hC hH hS hl hs kk => by
    have hA := hH.lt (a := a) (by rw [hs.1]; decide)
    have hc := hH.one (a := a) (by rw [hs.1]; decide) 0 _ rfl
    rw [zce_int hs.1 (by decide) (by decide) (by decide)] at hc
    refine W.bast hC.1 hC.2.1 hc ((hC.2.2.2.2.2.2.2.2.2.1.1.2 2 _ rfl).1 (zln h a) (fun j => .int (zmi h a j))) (fun q => by cases q) (by show ¬ (i < 0 ∨ (arrV _ _ _).slots.size ≤ _); rw [arrV_size]; exact hs.2) rfl rfl hd fun H1 e z oq => ?_
    refine kk H1 _ (zHR_set hH rfl (fun _ => rfl) (fun b hb => zce_si hb) z oq ?_) (hS.put z oq hA) hl
    rw [zce_int (h := zsi h a i.toNatClampNeg _) hs.1 (by decide) (by decide) (by decide)]
    show H1[zbase G + a]? = some (vp_cell _ _)
    rw [e, zmi_si, vp_cell_i, vp_cell_i]
    rw [arrV_store]
    congr 2
    funext q
    by_cases hq : q = i.toNatClampNeg
    · subst hq
      simp [updV, upd, vp_nar]
      try rfl
    · simp [updV, upd, hq]) kk
theorem zi_zast {a : Nat} {i v : Int32} {K : zH → Option (α × zH)} (hd : decode cc pc = .ok (.bastore, 1)) (kk : ∀ h1 : zH, zW G y cc nL rt ev d (pc + 1) l st h1 (K h1)) : zW G y cc nL rt ev d pc l (.int v :: .int i :: .ref (zbase G + a) :: st) h (zeZ h a i v K) :=
  zwrite rfl rfl (fun _ _ _ _ _ _ _ _ _ _ _ _ _ _ _ hC hH hS hl hs kk => by
    have hA := hH.lt (a := a) (by rw [hs.1]; decide)
    have hc := hH.one (a := a) (by rw [hs.1]; decide) 0 _ rfl
    rw [zce_int hs.1 (by decide) (by decide) (by decide)] at hc
    refine W.zast hC.1 hC.2.1 hc ((hC.2.2.2.2.2.2.2.2.2.1.1.2 3 _ rfl).1 (zln h a) (fun j => .int (zmi h a j))) (fun q => by cases q) (by show ¬ (i < 0 ∨ (arrV _ _ _).slots.size ≤ _); rw [arrV_size]; exact hs.2) rfl rfl hd fun H1 e z oq => ?_
    refine kk H1 _ (zHR_set hH rfl (fun _ => rfl) (fun b hb => zce_si hb) z oq ?_) (hS.put z oq hA) hl
    rw [zce_int (h := zsi h a i.toNatClampNeg _) hs.1 (by decide) (by decide) (by decide)]
    show H1[zbase G + a]? = some (vp_cell _ _)
    rw [e, zmi_si, vp_cell_i, vp_cell_i]
    rw [arrV_store]
    congr 2
    funext q
    by_cases hq : q = i.toNatClampNeg
    · subst hq
      simp [updV, upd, vp_nar]
      try rfl
    · simp [updV, upd, hq]) kk
theorem zi_last {a : Nat} {i : Int32} {v : Int64} {K : zH → Option (α × zH)} (hd : decode cc pc = .ok (.lastore, 1)) (kk : ∀ h1 : zH, zW G y cc nL rt ev d (pc + 1) l st h1 (K h1)) : zW G y cc nL rt ev d pc l (.long v :: .int i :: .ref (zbase G + a) :: st) h (zeL h a i v K) :=
  zwrite rfl rfl (fun _ _ _ _ _ _ _ _ _ _ _ _ _ _ _ hC hH hS hl hs kk => by
    have hA := hH.lt (a := a) (by rw [hs.1]; decide)
    have hc := hH.one (a := a) (by rw [hs.1]; decide) 0 _ rfl
    rw [zce_lng hs.1] at hc
    refine W.last hC.1 hC.2.1 hc ((hC.2.2.2.2.2.2.2.2.2.1.1.2 1 _ rfl).1 (zln h a) (fun j => .long (zml h a j))) (fun q => by cases q) (by show ¬ (i < 0 ∨ (arrV _ _ _).slots.size ≤ _); rw [arrV_size]; exact hs.2) rfl rfl hd fun H1 e z oq => ?_
    refine kk H1 _ (zHR_set hH rfl (fun _ => rfl) (fun b hb => zce_sg hb) z oq ?_) (hS.put z oq hA) hl
    rw [zce_lng (h := zsg h a i.toNatClampNeg v) hs.1]
    show H1[zbase G + a]? = some (vp_cell _ _)
    rw [e, zml_sg, vp_cell_l, vp_cell_l]
    rw [arrV_store]
    congr 2
    funext q
    by_cases hq : q = i.toNatClampNeg
    · subst hq; simp [updV, vp_updL]
    · simp [updV, vp_updL, hq]) kk
/-- a reference into a row; tt: the row's place among the known types, ci: the kind of its objects -/
theorem zastv {p : Program} {e : Env} {R : Room} {s : State} {m : MethodId} {args : Array Value} {below : List Frame} {meth : Method} {c0 : Code} {H : Heap} {locs : List Loc} {cells slots : Nat} {Q : State → Prop} {ls : Array Slot} (hC : zCx G y cc nL rt d p R s m args meth c0) (hH : zHR G h H) (hS : va_S (zA G) s.heap H locs) {t tt ci a v : Nat} {i : Int32} {r : vw_C} (htt : (zty G)[tt]? = some (G.2.2.1 t, .object r.1)) (ht : 25 ≤ t) (hcl : vwCl[ci]? = some r) (hi : ci < 19) (hs : zsh h a = t) (hin : ¬ (i < 0 ∨ zln h a ≤ i.toNatClampNeg)) (hv : v = 0 ∨ zsh h v = ci + 1) (hd : decode cc pc = .ok (.aastore, 1))
    (kk : ∀ H1 locs1, zHR G (zsr h a i.toNatClampNeg v) H1 → va_S (zA G) s.heap H1 locs1 → W p G.1 e R s m args below meth c0 H1 locs1 cells slots Q (F0 m (pc + 1) ls st)) : W p G.1 e R s m args below meth c0 H locs cells slots Q (F0 m pc ls (zrf G v :: .int i :: .ref (zbase G + a) :: st)) := by
  have hA := hH.lt (a := a) (by omega)
  have hK := hC.2.2.2.2.2.2.2.2.2.1.1
  have hlt : i.toNatClampNeg < zln h a := Nat.not_le.mp fun q => hin (Or.inr q)
  have h0 : ¬ i < 0 := fun q => hin (Or.inl q)
  have hc := hH.one (a := a) (by omega) 0 _ rfl
  rw [zce_ref hs ht] at hc
  have fin2 : ∀ H1, H1[zbase G + a]? = some ((vp_cell (G.2.2.1 t) (zln h a, .inr (.inr (.inr (.inr (fun k => zro G (zmr h a k))))))).setSlot i.toNatClampNeg (zrf G v)) → H1.size = H.size → (∀ q : Nat, q ≠ zbase G + a → H1[q]? = H[q]?) → zHR G (zsr h a i.toNatClampNeg v) H1 := by
    intro H1 e z oq
    refine zHR_set hH rfl (fun _ => rfl) (fun b hb => zce_sr hb) z oq ?_
    rw [zce_ref (h := zsr h a i.toNatClampNeg v) hs ht]
    show H1[zbase G + a]? = some (vp_cell _ _)
    rw [e, vp_cell_q, vp_cell_q, arrV_store]
    congr 2
    funext q
    have e2 : zmr (zsr h a i.toNatClampNeg v) a q = if q = i.toNatClampNeg then v else zmr h a q := by show zu h.1.2.2.1 a i.toNatClampNeg v a q = _; rw [zu_eq]; rfl
    by_cases hq : q = i.toNatClampNeg
    · rw [e2, if_pos hq, zro_rf]
      simp [updV, hq]
    · rw [e2, if_neg hq]
      simp [updV, hq]
  by_cases hv0 : v = 0
  · subst hv0
    exact va_WaastN (C := r.1) hC.1 hC.2.1 hc ((hK.2 tt _ htt).1 (zln h a) (fun j => va_rf (zro G (zmr h a j)))) (fun q => by cases q) (by show ¬ (i < 0 ∨ (arrV _ _ _).slots.size ≤ _); rw [arrV_size]; exact hin) rfl rfl hd fun H1 e z oq => kk H1 _ (fin2 H1 e z oq) (hS.put z oq hA)
  · have hv1 : zsh h v = ci + 1 := hv.resolve_left hv0
    have hr0 : zrf G v = .ref (zbase G + v) := zrf_pos G hv0
    rw [hr0] at fin2 ⊢
    obtain ⟨r', hr', cellV, g1, g2, g3, -⟩ := hH.obj hv1 hi
    have hcls := (hK.1 ci r hcl).2
    obtain ⟨kA, comp, k1, k2, k3, -⟩ := (hK.2 tt _ htt).2
    have hcomp : comp = G.2.1.1 ci := Option.some.inj (k3.symm.trans hcls.1)
    subst hcomp
    obtain ⟨kC, hkC, -⟩ := hcls.2
    exact W.aast hC.1 hC.2.1 hc (fun q h => by cases h) (fun h => by cases h) k1 k2 rfl hkC ⟨h0, by show _ < (arrV _ _ _).slots.size; rw [arrV_size]; exact hlt⟩ g1 (fun q h => by rw [g3] at h; cases h) (by rw [g2]; exact hkC) (by rw [g2]; exact va_assign hcls) rfl rfl hd fun H1 e z oq => kk H1 _ (fin2 H1 e z oq) (hS.put z oq hA)
theorem zi_aastT {a v : Nat} {i : Int32} {K : zH → Option (α × zH)} (hd : decode cc pc = .ok (.aastore, 1)) (kk : ∀ h1 : zH, zW G y cc nL rt ev d (pc + 1) l st h1 (K h1)) : zW G y cc nL rt ev d pc l (zrf G v :: .int i :: .ref (zbase G + a) :: st) h (zeR h 25 9 a i v K) :=
  zwrite rfl rfl (fun _ _ _ _ _ _ _ _ _ _ _ _ _ _ _ hC hH hS hl hs kk => zastv (t := 25) (tt := 4) (ci := 8) (r := (RX8, TX8, 5)) hC hH hS rfl (by decide) rfl (by decide) hs.1.1 hs.1.2 hs.2 hd (fun H1 locs1 hH1 hS1 => kk H1 locs1 hH1 hS1 hl)) kk
theorem zi_aastTr {a v : Nat} {i : Int32} {K : zH → Option (α × zH)} (hv : v ≠ 0) (hd : decode cc pc = .ok (.aastore, 1)) (kk : ∀ h1 : zH, zW G y cc nL rt ev d (pc + 1) l st h1 (K h1)) : zW G y cc nL rt ev d pc l (.ref (zbase G + v) :: .int i :: .ref (zbase G + a) :: st) h (zeR h 25 9 a i v K) := by
  rw [← zrf_pos G hv]
  exact zi_aastT hd kk
theorem zi_aastW {a v : Nat} {i : Int32} {K : zH → Option (α × zH)} (hv : v ≠ 0) (hd : decode cc pc = .ok (.aastore, 1)) (kk : ∀ h1 : zH, zW G y cc nL rt ev d (pc + 1) l st h1 (K h1)) : zW G y cc nL rt ev d pc l (.ref (zbase G + v) :: .int i :: .ref (zbase G + a) :: st) h (zeR h 26 11 a i v K) := by
  rw [← zrf_pos G hv]
  exact zwrite rfl rfl (fun _ _ _ _ _ _ _ _ _ _ _ _ _ _ _ hC hH hS hl hs kk => zastv (t := 26) (tt := 5) (ci := 10) (r := (RX10, TX10, 10)) hC hH hS rfl (by decide) rfl (by decide) hs.1.1 hs.1.2 hs.2 hd (fun H1 locs1 hH1 hS1 => kk H1 locs1 hH1 hS1 hl)) kk
end
