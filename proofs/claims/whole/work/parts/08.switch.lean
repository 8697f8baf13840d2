/-! switches, null, arraycopy -/
section
variable {G : zG} {y : MethodName} {cc : ByteArray} {nL : Nat} {rt : Option FieldType} {α : Type} {ev : α → Option Value} {d pc : Nat} {l : List (Nat × Value)} {st : List Value} {h : zH} {X : Option (α × zH)}
theorem zi_ifnonnull {a : Nat} {lf : Value → List (Nat × Value)} {off : Int} {tgt : Nat} {X1 X2 : Option (α × zH)} (hd : decode cc pc = .ok (.ifnonnull off, 3)) (ht : (pc : Int) + off = (tgt : Int)) (k1 : a ≠ 0 → zW G y cc nL rt ev d tgt (lf (.ref (zbase G + a))) st h X1) (k2 : zW G y cc nL rt ev d (pc + 3) (lf .null) st h X2) : zW G y cc nL rt ev d pc (lf (zrf G a)) (zrf G a :: st) h (if a = 0 then X2 else X1) := by
  by_cases h0 : a = 0
  · rw [if_pos h0, show zrf G a = .null from if_pos h0]
    exact zlift (fun _ _ _ _ _ _ _ _ _ _ _ _ _ _ ls hC _ _ hl k => lv_ifnonnullN hC.1 hC.2.1 hd (k ls hl)) k2
  · rw [if_neg h0, zrf_pos G h0]
    exact zlift (fun _ _ _ _ _ _ _ _ _ _ _ _ _ _ ls hC _ _ hl k => lv_ifnonnull hC.1 hC.2.1 hd ht (k ls hl)) (k1 h0)
theorem zi_idivz {x y0 : Int32} (hd : decode cc pc = .ok (.idiv, 1)) (k : zW G y cc nL rt ev d (pc + 1) l (.int (x / y0) :: st) h X) : zW G y cc nL rt ev d pc l (.int y0 :: .int x :: st) h (if y0 = 0 then none else X) := by
  by_cases h0 : y0 = 0
  · rw [if_pos h0]; exact zW_none
  · rw [if_neg h0]; exact zi_idiv hd h0 k
theorem zi_iremz {x y0 : Int32} (hd : decode cc pc = .ok (.irem, 1)) (k : zW G y cc nL rt ev d (pc + 1) l (.int (x - x / y0 * y0) :: st) h X) : zW G y cc nL rt ev d pc l (.int y0 :: .int x :: st) h (if y0 = 0 then none else X) := by
  by_cases h0 : y0 = 0
  · rw [if_pos h0]; exact zW_none
  · rw [if_neg h0]; exact zi_irem hd h0 k
theorem zi_ldivz {x y0 : Int64} (hd : decode cc pc = .ok (.ldiv, 1)) (k : zW G y cc nL rt ev d (pc + 1) l (.long (x / y0) :: st) h X) : zW G y cc nL rt ev d pc l (.long y0 :: .long x :: st) h (if y0 = 0 then none else X) := by
  by_cases h0 : y0 = 0
  · rw [if_pos h0]; exact zW_none
  · rw [if_neg h0]; exact zi_ldiv hd h0 k
theorem zi_lremz {x y0 : Int64} (hd : decode cc pc = .ok (.lrem, 1)) (k : zW G y cc nL rt ev d (pc + 1) l (.long (x - x / y0 * y0) :: st) h X) : zW G y cc nL rt ev d pc l (.long y0 :: .long x :: st) h (if y0 = 0 then none else X) := by
  by_cases h0 : y0 = 0
  · rw [if_pos h0]; exact zW_none
  · rw [if_neg h0]; exact zi_lrem hd h0 k
theorem zswl_in {ρ : Type} {x : Int32} {Xd : Option ρ} : ∀ (cs : List (Int32 × Nat × Option ρ)) (lo : Int) (i : Nat) (q : Int32 × Nat × Option ρ), (∀ (j : Nat) (q : Int32 × Nat × Option ρ), cs[j]? = some q → q.1.toInt = lo + j) → x.toInt = lo + i → cs[i]? = some q → zswl x cs Xd = q.2.2
  | [], lo, i, q, _, _, hq => by simp at hq
  | c :: r, lo, 0, q, hk, hx, hq => by
    have e : c = q := Option.some.inj hq
    subst e
    have : x = c.1 := Int32.toInt_inj.mp (by rw [hx, hk 0 c rfl])
    rw [zswl, if_pos this]
  | c :: r, lo, i + 1, q, hk, hx, hq => by
    have hne : ¬ x = c.1 := fun e => by
      have h0 := hk 0 c rfl
      rw [← e, hx] at h0
      simp at h0
      omega
    rw [zswl, if_neg hne]
    exact zswl_in r (lo + 1) i q (fun j q hq => by have := hk (j + 1) q (by simpa using hq); rw [this]; push_cast; omega) (by rw [hx]; push_cast; omega) (by simpa using hq)
theorem zswl_out {ρ : Type} {x : Int32} {Xd : Option ρ} : ∀ (cs : List (Int32 × Nat × Option ρ)), (∀ q ∈ cs, ¬ x = q.1) → zswl x cs Xd = Xd
  | [], _ => rfl
  | c :: r, h => by
    rw [zswl, if_neg (h c List.mem_cons_self)]
    exact zswl_out r (fun q hq => h q (List.mem_cons_of_mem _ hq))
theorem zi_tsw {x : Int32} {dflt lo hi : Int} {offs : Array Int} {len tgt : Nat} {Xd : Option (α × zH)} (cs : List (Int32 × Nat × Option (α × zH))) (hd : decode cc pc = .ok (.tableswitch dflt lo hi offs, len)) (hlen : (cs.length : Int) = hi - lo + 1) (hcs : ∀ (j : Nat) (q : Int32 × Nat × Option (α × zH)), cs[j]? = some q → q.1.toInt = lo + j ∧ ∃ off, offs[j]? = some off ∧ (pc : Int) + off = (q.2.1 : Int)) (ht : (pc : Int) + dflt = (tgt : Int))
    (kc : ∀ q ∈ cs, zW G y cc nL rt ev d q.2.1 l st h q.2.2) (kd : zW G y cc nL rt ev d tgt l st h Xd) : zW G y cc nL rt ev d pc l (.int x :: st) h (zswl x cs Xd) := by
  by_cases hx : x.toInt < lo ∨ hi < x.toInt
  · rw [zswl_out cs (fun q hq e => ?_)]
    · exact zlift (fun _ _ _ _ _ _ _ _ _ _ _ _ _ _ ls hC _ _ hl k => lv_tableOut hC.1 hC.2.1 hd hx ht (k ls hl)) kd
    · obtain ⟨j, hj⟩ := List.getElem?_of_mem hq
      have h1 := (hcs j q hj).1
      have h2 : j < cs.length := (List.getElem?_eq_some_iff.mp hj).1
      rw [e] at hx
      omega
  · have h1 : ¬ x.toInt < lo := fun q => hx (Or.inl q)
    have h2 : ¬ hi < x.toInt := fun q => hx (Or.inr q)
    have hi' : (x.toInt - lo).toNat < cs.length := by omega
    have hq : cs[(x.toInt - lo).toNat]? = some cs[(x.toInt - lo).toNat] := List.getElem?_eq_getElem hi'
    rw [zswl_in cs lo (x.toInt - lo).toNat _ (fun j q h => (hcs j q h).1) (by omega) hq]
    obtain ⟨-, off, ho, hto⟩ := hcs _ _ hq
    exact zlift (fun _ _ _ _ _ _ _ _ _ _ _ _ _ _ ls hC _ _ hl k => lv_tableIn hC.1 hC.2.1 hd h1 h2 ho hto (k ls hl)) (kc _ (List.mem_of_getElem? hq))
theorem zlsw_at {x : Int32} {ρ : Type} {Xd : Option ρ} {dflt : Int} {pc tgt : Nat} (ht : (pc : Int) + dflt = (tgt : Int)) : ∀ (cs : List (Int32 × Nat × Option ρ)) (ps : List (Int × Int)), cs.map (fun q => (q.1.toInt, (q.2.1 : Int))) = ps.map (fun q => (q.1, (pc : Int) + q.2)) →
    (∃ q ∈ cs, zswl x cs Xd = q.2.2 ∧ (pc : Int) + Op.lookupswitch.offset ps dflt x.toInt = (q.2.1 : Int)) ∨ (zswl x cs Xd = Xd ∧ (pc : Int) + Op.lookupswitch.offset ps dflt x.toInt = (tgt : Int))
  | [], [], _ => Or.inr ⟨rfl, ht⟩
  | [], _ :: _, e => by simp at e
  | _ :: _, [], e => by simp at e
  | c :: r, p :: ps, e => by
    simp only [List.map_cons, List.cons.injEq, Prod.mk.injEq] at e
    obtain ⟨⟨e1, e2⟩, e3⟩ := e
    obtain ⟨pa, po⟩ := p
    dsimp only at e1 e2
    rw [Op.lookupswitch.offset_cons]
    by_cases hx : x = c.1
    · left
      refine ⟨c, List.mem_cons_self, by rw [zswl, if_pos hx], ?_⟩
      rw [if_pos (by rw [hx, e1])]
      omega
    · have hne : ¬ pa = x.toInt := fun q => hx (Int32.toInt_inj.mp (by rw [e1]; exact q.symm))
      have hne2 : ¬ x.toInt = pa := fun q => hne q.symm
      rw [zswl, if_neg hx]
      first | rw [if_neg hne] | rw [if_neg hne2]
      rcases zlsw_at ht r ps e3 with ⟨q, h1, h2, h3⟩ | ⟨h1, h2⟩
      · exact Or.inl ⟨q, List.mem_cons_of_mem _ h1, h2, h3⟩
      · exact Or.inr ⟨h1, h2⟩
theorem zi_lsw {x : Int32} {dflt : Int} {ps : Array (Int × Int)} {len tgt : Nat} {Xd : Option (α × zH)} (cs : List (Int32 × Nat × Option (α × zH))) (hd : decode cc pc = .ok (.lookupswitch dflt ps, len)) (hp : (ps.toList.zip (ps.toList.drop 1)).all (fun (a, next) => a.1 < next.1) = true) (hcs : cs.map (fun q => (q.1.toInt, (q.2.1 : Int))) = ps.toList.map (fun q => (q.1, (pc : Int) + q.2))) (ht : (pc : Int) + dflt = (tgt : Int))
    (kc : ∀ q ∈ cs, zW G y cc nL rt ev d q.2.1 l st h q.2.2) (kd : zW G y cc nL rt ev d tgt l st h Xd) : zW G y cc nL rt ev d pc l (.int x :: st) h (zswl x cs Xd) := by
  rcases zlsw_at (x := x) (Xd := Xd) ht cs ps.toList hcs with ⟨q, h1, h2, h3⟩ | ⟨h1, h2⟩
  · rw [h2]
    exact zlift (fun _ _ _ _ _ _ _ _ _ _ _ _ _ _ ls hC _ _ hl k => lv_lookup hC.1 hC.2.1 hd hp rfl h3 (k ls hl)) (kc q h1)
  · rw [h1]
    exact zlift (fun _ _ _ _ _ _ _ _ _ _ _ _ _ _ ls hC _ _ hl k => lv_lookup hC.1 hC.2.1 hd hp rfl h2 (k ls hl)) kd
theorem zi_acp {idx a b : Nat} {i j n : Int32} {K : zH → Option (α × zH)} (hd : decode cc pc = .ok (.invokestatic idx, 3)) (hw1 : Cond.methodLink y.cls idx arraycopyName ∈ zT) (hw2 : Cond.native arraycopyName ∈ zT) (hw3 : Cond.static arraycopyName ∈ zT) (hw4 : Cond.initialized "java/lang/System" ∈ zT) (hrest : (st.map fun v => v.category).sum ≤ 8) (hdd : 1 ≤ d) (kk : ∀ h1 : zH, zW G y cc nL rt ev d (pc + 3) l st h1 (K h1)) : zW G y cc nL rt ev d pc l (.int n :: .int j :: .ref (zbase G + b) :: .int i :: .ref (zbase G + a) :: st) h (zcp h a i b j n K) :=
  zwrite rfl rfl (fun p e R s m args below meth c0 H locs cells slots Q ls hC hH hS hl hs kk => by
    obtain ⟨⟨hsa, hsb⟩, hneg, h4, h5⟩ := hs
    have h1 : ¬ i < 0 := fun q => hneg (Or.inl q)
    have h2 : ¬ j < 0 := fun q => hneg (Or.inr (Or.inl q))
    have h3 : ¬ n < 0 := fun q => hneg (Or.inr (Or.inr q))
    have hA := hH.lt (a := b) (by rw [hsb]; decide)
    have nn : ∀ z : Int32, ¬ z < 0 → z.toInt = (z.toNatClampNeg : Int) := by
      intro z hz
      have hz0 : (0 : Int) ≤ z.toInt := by
        have := Int32.not_lt.mp hz
        simpa using Int32.le_iff_toInt_le.mp this
      show z.toInt = ((z.toInt.toNat : Nat) : Int)
      omega
    have hts := hC.2.2.2.2.1
    have hK := hC.2.2.2.2.2.2.2.2.2.1.1
    intro T hT X
    have hc0 : H[zbase G + a]? = some (vp_cell (G.2.2.1 21) (zln h a, .inl (zmi h a))) := by
      have := hH.one (a := a) (by rw [hsa]; decide) 0 _ rfl
      rw [zce_int hsa (by decide) (by decide) (by decide)] at this
      exact this
    have hc1 : H[zbase G + b]? = some (vp_cell (G.2.2.1 21) (zln h b, .inl (zmi h b))) := by
      have := hH.one (a := b) (by rw [hsb]; decide) 0 _ rfl
      rw [zce_int hsb (by decide) (by decide) (by decide)] at this
      exact this
    obtain ⟨-, k0, hk0, cm0, hkk0⟩ := (hK.2 0 _ rfl).1 (zln h a) (fun q => .int (zmi h a q))
    obtain ⟨-, k1, hk1, cm1, hkk1⟩ := (hK.2 0 _ rfl).1 (zln h b) (fun q => .int (zmi h b q))
    obtain ⟨vm', X', step⟩ := X.arraycopy hC.1 hC.2.2.2.2.2.1 (hts _ (List.mem_cons_of_mem _ hw1)) (hts _ (List.mem_cons_of_mem _ hw2)) (hts _ (List.mem_cons_of_mem _ hw3)) (hts _ (List.mem_cons_of_mem _ hw4)) (src := zbase G + a) (dst := zbase G + b) (cs := vp_cell (G.2.2.1 21) (zln h a, .inl (zmi h a))) (cd := vp_cell (G.2.2.1 21) (zln h b, .inl (zmi h b))) (srcPos := i) (destPos := j) (n := n) (by rw [hT]; exact hc0) (by rw [hT]; exact hc1)
      (fun _ h => by cases h) (fun _ h => by cases h) (fun h => by cases h) (fun h => by cases h) hk0 hk1 hkk0 hkk1 (by simp [refKind]) h1 h2 h3
      (by rw [nn i h1, nn n h3]; show ¬ _ > ((arrV (G.2.2.1 21) (zln h a) (fun j => .int (zmi h a j))).slots.size : Int); rw [arrV_size]; omega)
      (by rw [nn j h2, nn n h3]; show ¬ _ > ((arrV (G.2.2.1 21) (zln h b) (fun j => .int (zmi h b j))).slots.size : Int); rw [arrV_size]; omega)
      (fun vm₁ _ q hq => by
        have e : (vp_cell (G.2.2.1 21) (zln h a, .inl (zmi h a))).slots.getD (i.toNatClampNeg + q) .null = .int (zmi h a (i.toNatClampNeg + q)) := by
          show (arrV (G.2.2.1 21) (zln h a) (fun j => .int (zmi h a j))).slots.getD _ _ = _
          rw [Array.getD_eq_getD_getElem?, arrV_read _ _ (by omega)]
          rfl
        refine ⟨?_, ?_⟩
        · rw [e]; rfl
        · rw [e]; exact trivial)
      (g := F0 m pc ls (.int n :: .int j :: .ref (zbase G + b) :: .int i :: .ref (zbase G + a) :: st)) rfl (hl.1.trans hC.2.2.2.1.symm) (rest := st) rfl (by rw [hC.2.1]; exact hd) (Nat.le_trans hdd hC.2.2.2.2.2.2.2.2.1.1) (by
        have h6 := hC.2.2.2.2.2.2.2.2.1.2
        have h7 : nativeFrameWords "java/lang/System" "arraycopy" 5 ≤ 40 := by decide +kernel
        show 2 * 0 + _ + _ ≤ _
        omega)
    have e1 : copied (vp_cell (G.2.2.1 21) (zln h a, .inl (zmi h a))) (vp_cell (G.2.2.1 21) (zln h b, .inl (zmi h b))) i j n = vp_cell (G.2.2.1 21) (zln h b, .inl (va_cpy (zmi h a) (zmi h b) i.toNatClampNeg j.toNatClampNeg n.toNatClampNeg)) := va_copied (fun z => .int z) _ _ (zmi h a) (zmi h b) h4
    rw [e1] at X' step
    have hlt : zbase G + b < H.size := (Array.getElem?_eq_some_iff.mp hc1).1
    generalize hcell : vp_cell (G.2.2.1 21) (zln h b, .inl (va_cpy (zmi h a) (zmi h b) i.toNatClampNeg j.toNatClampNeg n.toNatClampNeg)) = cell at X' step
    have hheap : ((T.setVm vm').setCell (zbase G + b) cell).heap = H.setIfInBounds (zbase G + b) cell := by rw [← hT]; rfl
    have oq : ∀ q : Nat, q ≠ zbase G + b → (H.setIfInBounds (zbase G + b) cell)[q]? = H[q]? := fun q hq => by simp [Array.getElem?_setIfInBounds, Ne.symm hq]
    have hz : (H.setIfInBounds (zbase G + b) cell).size = H.size := by simp
    obtain ⟨t, a1, b1⟩ := kk (H.setIfInBounds (zbase G + b) cell) _ (zHR_set hH rfl (fun _ => rfl) (fun b0 hb0 => zce_ri hb0) hz oq (by
        rw [zce_int (h := zri h b _) hsb (by decide) (by decide) (by decide)]
        have e3 : zmi (zri h b (va_cpy (zmi h a) (zmi h b) i.toNatClampNeg j.toNatClampNeg n.toNatClampNeg)) b = va_cpy (zmi h a) (zmi h b) i.toNatClampNeg j.toNatClampNeg n.toNatClampNeg := zrw_eq
        rw [e3]
        show (H.setIfInBounds (zbase G + b) cell)[zbase G + b]? = some (vp_cell _ _)
        rw [Array.getElem?_setIfInBounds, if_pos rfl, if_pos hlt, ← hcell]
        rfl)) ⟨by rw [hz]; exact hS.1, fun q g1 g2 => by
          rw [oq q (fun e => g2 (by rw [e]; exact hA))]
          exact hS.2.1 q g1 g2, fun q hq => by
          rcases List.mem_append.mp hq with h | h
          · exact hS.2.2 q h
          · obtain ⟨z, -, hz⟩ := List.mem_map.mp h
            rw [← hz]
            exact hA⟩ hl _ hheap X'
    exact ⟨t, step t a1, b1⟩) kk
end
