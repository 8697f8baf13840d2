/-! the law's own script -/
def zsc {ρ : Type} (L : Nat) (xs : Nat → Int32) (i : Int32) (K : Int32 → Option ρ) : Option ρ := if ¬ (i < 0 ∨ L ≤ i.toNatClampNeg) then K (xs i.toNatClampNeg) else none
section
variable {G : zG} {y : MethodName} {cc : ByteArray} {nL : Nat} {rt : Option FieldType} {α : Type} {ev : α → Option Value} {d pc : Nat} {l : List (Nat × Value)} {st : List Value} {h : zH} {X : Option (α × zH)}
theorem zi_slen (hd : decode cc pc = .ok (.arraylength, 1)) (k : zW G y cc nL rt ev d (pc + 1) l (.int (Int32.ofNat (zsL G)) :: st) h X) : zW G y cc nL rt ev d pc l (.ref (zsb G) :: st) h X :=
  zlift (fun _ _ _ s _ _ _ _ _ _ _ _ _ _ ls hC _ hS hl k => by
    have hX := hC.2.2.2.2.2.2.2.2.2.2.2.2.2.2.2
    have hlt : zsb G < s.heap.size := by obtain ⟨scr, q1, -⟩ := hX.1; exact (Array.getElem?_eq_some_iff.mp q1).1
    exact va_slen hC.1 hC.2.1 hX.1 hlt (by show ¬ zbase G < zsb G; have := hX.2; omega) hS hd (k ls hl)) k
theorem zi_sld {i : Int32} {K : Int32 → Option (α × zH)} (hd : decode cc pc = .ok (.iaload, 1)) (kk : ∀ v : Int32, zW G y cc nL rt ev d (pc + 1) l (.int v :: st) h (K v)) : zW G y cc nL rt ev d pc l (.int i :: .ref (zsb G) :: st) h (zsc (zsL G) (zsX G) i K) :=
  zread (st' := fun v => .int v :: st) (fun _ _ _ s _ _ _ _ _ _ _ _ _ _ _ hC _ hS hl hs kk => by
    have hX := hC.2.2.2.2.2.2.2.2.2.2.2.2.2.2.2
    have hlt : zsb G < s.heap.size := by obtain ⟨scr, q1, -⟩ := hX.1; exact (Array.getElem?_eq_some_iff.mp q1).1
    exact va_sld hC.1 hC.2.1 hX.1 hlt (by show ¬ zbase G < zsb G; have := hX.2; omega) hS hs hd (kk hl)) kk
end
