theorem zst_ex : ∀ i, i < 29 → Cond.exactly (Term.string "GraceTree$Tokens" (zsk.getD i 0)) "java/lang/String" ∈ flatC (Jvm.Cond.and given_1 narrow_1) := by decide +kernel
theorem zst_co : ∀ i, i < 29 → Cond.eq (.field (Term.string "GraceTree$Tokens" (zsk.getD i 0)) "java/lang/String" "coder" "B") (.int 0) ∈ flatC (Jvm.Cond.and given_1 narrow_1) := by decide +kernel
theorem zst_ar : ∀ i, i < 29 → Cond.arrayOf (.field (Term.string "GraceTree$Tokens" (zsk.getD i 0)) "java/lang/String" "value" "[B") .byte ∈ flatC (Jvm.Cond.and given_1 narrow_1) := by decide +kernel
theorem zst_le : ∀ i, i < 29 → Cond.eq (.length (.field (Term.string "GraceTree$Tokens" (zsk.getD i 0)) "java/lang/String" "value" "[B")) (.int (Int32.ofNat (zsln.getD i 0))) ∈ flatC (Jvm.Cond.and given_1 narrow_1) := by decide +kernel
theorem zst_el : ∀ i, i < 29 → ∀ j, j < zsln.getD i 0 → Cond.eq (.elem (.field (Term.string "GraceTree$Tokens" (zsk.getD i 0)) "java/lang/String" "value" "[B") (.int (Int32.ofNat j))) (.int ((zsby.getD i []).getD j 0)) ∈ flatC (Jvm.Cond.and given_1 narrow_1) := by decide +kernel
theorem zst_rf : ∀ i, i < 29 → Cond.stringRef "GraceTree$Tokens" (zsk.getD i 0) (zstx.getD i "") ∈ lw_tbl := by decide +kernel
theorem zst_nest : ∀ w ∈ zNest, w ∈ lw_tbl := by decide +kernel
theorem zst_strs {args : Array Value} {s : State} {A : Nat → Prop} (hs : ∀ c ∈ flatC (Jvm.Cond.and given_1 narrow_1), c.before args s = true) (hA : ∀ a : Nat, a < s.heap.size → ¬ A a) : ∃ aK aV : Nat → Nat, zvS aK aV A s s.heap ∧ ∀ i : Nat, i < 29 → (Term.string "GraceTree$Tokens" (zsk.getD i 0)).eval args s none [] s = some (.ref (aK i)) := by
  have h0 : ∀ i : Nat, ∃ q : Nat × Nat, i < 29 → (Term.string "GraceTree$Tokens" (zsk.getD i 0)).eval args s none [] s = some (.ref q.1) ∧ va_O "java/lang/String" q.1 A s s.heap ∧ va_OF "java/lang/String" "coder" "B" (.int 0) q.1 A s s.heap ∧ va_OF "java/lang/String" "value" "[B" (.ref q.2) q.1 A s s.heap ∧ va_T .byte q.2 (zsln.getD i 0) (fun j => .int ((zsby.getD i []).getD j 0)) A s s.heap := by
    intro i
    by_cases hi : i < 29
    · obtain ⟨a, c, cA, kA, q1, q2, q3, q4, q5, q6, -⟩ := Cond.exactly_spec (args := args) (first := s) (o := none) (s := s) (idx := []) (cls := "java/lang/String") (hs _ (zst_ex i hi))
      obtain ⟨t, ht, hT⟩ := va_Tof (f := fun j => .int ((zsby.getD i []).getD j 0)) (A := A) (by have := zs_pos i hi; omega) (hs _ (zst_ar i hi)) (va_eqt (hs _ (zst_le i hi))) (fun j hj => va_eqt (hs _ (zst_el i hi j hj))) hA
      exact ⟨(a, t), fun _ => ⟨q1, ⟨cA, q3, q5, by rw [q6]; exact q2, hA a (Array.getElem?_eq_some_iff.mp q3).1⟩, vk_OFof q1 (va_eqt (hs _ (zst_co i hi))) hA, vk_OFof q1 ht hA, hT⟩⟩
    · exact ⟨(0, 0), fun h => absurd h hi⟩
  obtain ⟨ad, had⟩ := Classical.axiomOfChoice h0
  exact ⟨fun i => (ad i).1, fun i => (ad i).2, fun i hi => (had i hi).2, fun i hi => (had i hi).1⟩
theorem zst_prim {args : Array Value} {s : State} {ty : FieldType} (h : (Cond.arrayClass ty).before args s = true) (hp : ∀ cA, s.vm.findClass ("[" ++ ty.toString) = some cA → va_RA s cA ty) : ∃ cA : ClassId, ArrOfT s cA ty ∧ va_RA s cA ty := by
  obtain ⟨c, k, comp, h1, h2, h3⟩ := Cond.arrayClass_spec h
  exact ⟨c, fun n z => ⟨fun k h => (by cases h), k, h2, comp, h3⟩, hp c h1⟩
theorem zst_obj {args : Array Value} {s : State} {C : String} (h : (Cond.arrayOver (.object C)).before args s = true) : ∃ cA : ClassId, ArrOfT s cA (.object C) ∧ va_RA s cA (.object C) := by
  obtain ⟨comp, cA, kA, hcomp, hidx, hkA, hkindA, hnameA⟩ := Cond.arrayOver_spec h
  exact ⟨cA, fun n z => ⟨fun k h => (by cases h), kA, hkA, comp, hkindA⟩, kA, comp, hkA, hkindA, hcomp, hnameA⟩
theorem zT_tbl {w : Cond} (h : w ∈ zT) : w ∈ lw_tbl := (List.mem_filter.mp h).1
theorem zins_X0 : Cond.instantiable RX0 9 ∈ lw_tbl := List.mem_of_getElem? (i := 151) (by decide +kernel)
theorem zins_X1 : Cond.instantiable RX1 3 ∈ lw_tbl := List.mem_of_getElem? (i := 298) (by decide +kernel)
theorem zins_X2 : Cond.instantiable RX2 4 ∈ lw_tbl := List.mem_of_getElem? (i := 315) (by decide +kernel)
theorem zins_X3 : Cond.instantiable RX3 4 ∈ lw_tbl := List.mem_of_getElem? (i := 338) (by decide +kernel)
theorem zins_X4 : Cond.instantiable RX4 3 ∈ lw_tbl := List.mem_of_getElem? (i := 245) (by decide +kernel)
theorem zins_X5 : Cond.instantiable RX5 5 ∈ lw_tbl := List.mem_of_getElem? (i := 381) (by decide +kernel)
theorem zins_X6 : Cond.instantiable RX6 6 ∈ lw_tbl := List.mem_of_getElem? (i := 266) (by decide +kernel)
theorem zins_X7 : Cond.instantiable RX7 2 ∈ lw_tbl := List.mem_of_getElem? (i := 364) (by decide +kernel)
theorem zins_X8 : Cond.instantiable RX8 5 ∈ lw_tbl := List.mem_of_getElem? (i := 387) (by decide +kernel)
theorem zins_X9 : Cond.instantiable RX9 4 ∈ lw_tbl := List.mem_of_getElem? (i := 418) (by decide +kernel)
theorem zins_X10 : Cond.instantiable RX10 10 ∈ lw_tbl := List.mem_of_getElem? (i := 145) (by decide +kernel)
theorem zins_X11 : Cond.instantiable RX11 20 ∈ lw_tbl := List.mem_of_getElem? (i := 137) (by decide +kernel)
theorem zins_X12 : Cond.instantiable RX12 43 ∈ lw_tbl := List.mem_of_getElem? (i := 1229) (by decide +kernel)
theorem zlay_C : Cond.laysStatic "java/lang/String" "COMPACT_STRINGS" "Z" ∈ lw_tbl := List.mem_of_getElem? (i := 709) (by decide +kernel)
theorem zlay_F : Cond.laysStatic "jdk/internal/util/Preconditions" "SIOOBE_FORMATTER" "Ljava/util/function/BiFunction;" ∈ lw_tbl := List.mem_of_getElem? (i := 725) (by decide +kernel)
theorem zini_S : Cond.initialized "java/lang/String" ∈ lw_tbl := List.mem_of_getElem? (i := 130) (by decide +kernel)
theorem zini_P : Cond.initialized "jdk/internal/util/Preconditions" ∈ lw_tbl := List.mem_of_getElem? (i := 132) (by decide +kernel)
theorem zao_T : Cond.arrayOver (.object "GraceTree$Text") ∈ lw_tbl := List.mem_of_getElem? (i := 272) (by decide +kernel)
theorem zao_W : Cond.arrayOver (.object "GraceTree$World") ∈ lw_tbl := List.mem_of_getElem? (i := 321) (by decide +kernel)
theorem zcs_C : Cond.eq (.static "java/lang/String" "COMPACT_STRINGS" "Z") (.int 1) ∈ flatC (Jvm.Cond.and given_1 narrow_1) := by decide +kernel
theorem zcs_F : Cond.isRef (.static "jdk/internal/util/Preconditions" "SIOOBE_FORMATTER" "Ljava/util/function/BiFunction;") ∈ flatC (Jvm.Cond.and given_1 narrow_1) := by decide +kernel
